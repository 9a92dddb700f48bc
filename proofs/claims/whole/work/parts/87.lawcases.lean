theorem gdLst : GoodIn lw_tbl (va_wsS RL 43 yL_station wsL_station) := by
  have one : ∀ {w : Cond}, w ∈ wsL_law → w ∈ lw_tbl ∧ ((w.onTables && w.keeps) = true ∨ ∃ ty, w = .arrayClass ty) := fun {w} h => ⟨wsL_law_in w h, good_of_word (wsL_law_good w h)⟩
  intro w hw
  unfold va_wsS at hw
  rcases List.mem_append.mp hw with h | h
  · simp only [List.mem_cons, List.not_mem_nil, or_false] at h
    rcases h with rfl | rfl | rfl
    · exact one (ml wd21_12)
    · exact one (ml wd21_13)
    · exact one (ml wd21_14)
  · rcases List.mem_cons.mp h with rfl | h
    · exact one (ml wd21_15)
    · exact one h
theorem nI6 (j : Nat) : nI (6 * j) + Int32.ofInt 6 = nI (6 * (j + 1)) := by
  show nI (6 * j) + nI 6 = _
  rw [nI_add]
  rfl
theorem hi_in {j k L : Nat} (hk : k < 6) (h : 6 * j + 6 ≤ L) (hL : L ≤ 3072) : vp_in (nI (6 * j) + nI k) L := by
  rw [nI_add]
  exact vp_in_nI (by omega) (by omega)
theorem st_cmp {zx : Option Int32} {O : Nat → Int64} {v : Int32} (h : ∀ w, zx = some w → v = w) (h0 : stK zx = 0) : lg_cmp (stO zx O (0 : Int32).toNatClampNeg) v.toInt64 = 0 := by
  cases zx with
  | none => exact absurd h0 (by decide)
  | some w =>
    rw [h w rfl]
    show lg_cmp (vp_updL O 0 w.toInt64 0) w.toInt64 = 0
    rw [pk_uLs]
    simp [lg_cmp]
section RW9
variable {p : Program} {l : Launch} {e : Env} {R : Room} {s : State} {m : MethodId} {args : Array Value} {below : List Frame} {meth : Method} {c : Code} {H : Heap} {locs : List Loc} {cells slots : Nat} {Q : State → Prop}
variable {D : va_G} {K : Nat → ClassId} {pc : Nat} {ls : Array Slot} {rest : List Value} {A : Nat → Prop} {H0 : Heap}
theorem r_callICm {S : Type} {z : Int32 × S} {mc ms : Nat} {wf : S → List va_W} {Ws Wc Wn : List va_W} {a : Array Value} {st0 : List Value} (hP : va_P D vwCl (fl Ws) H) (hD : va_D A (fl Ws)) (hS : va_S A H0 H locs) (hA : ∀ q, H0.size ≤ q → A q) (isC isR isN : List Nat) (n : Nat) (hC : isC.filterMap (fun i => Ws[i]?) = Wc) (hl : Ws.length = n) (hp : (isC ++ isR).Perm (List.range n)) (hN : isN.filterMap (fun i => (isR.filterMap (fun i => Ws[i]?) ++ wf z.2)[i]?) = Wn) (hlN : (isR.filterMap (fun i => Ws[i]?) ++ wf z.2).length = n) (hpN : isN.Perm (List.range n))
    (hr : va_P D vwCl (fl Wc) H → va_D (fun _ => True) (fl Wc) → (∀ q, va_A (fl Wc) H.size q → A q) → va_Run p l e R s m args below meth c H locs cells slots mc ms (F0 m pc ls st0) rest (qcI D z (fun u => fl (wf u)) (va_A (fl Wc) H.size) a) (va_A (fl Wc) H.size))
    (k : ∀ (H1 : Heap) (locs1 : List Loc), va_P D vwCl (fl Wn) H1 → va_D A (fl Wn) → va_S A H0 H1 locs1 → W p l e R s m args below meth c H1 locs1 (cells + mc) (slots + ms) Q (F0 m (pc + 3) ls (.int z.1 :: rest))) : W p l e R s m args below meth c H locs cells slots Q (F0 m pc ls st0) := by
  have hs := vsplit hC hl hp
  have hP' := vaP_perm hs hP
  have hD' := vaD_perm hs hD
  have hPc : va_P D vwCl (fl Wc) H := vaP_mem.mpr (fun q hq => vaP_mem.mp hP' q (List.mem_append_left _ hq))
  have hn := (vaD_nd.mp hD').1
  rw [List.map_append, List.nodup_append] at hn
  have hDc : va_D A (fl Wc) := vaD_nd.mpr ⟨hn.1, fun q hq => (vaD_nd.mp hD').2 q (List.mem_append_left _ hq)⟩
  have hFc : ∀ q, va_A (fl Wc) H.size q → A q := fun q h => by
    rcases h with ⟨k, e, h⟩ | h
    · exact hDc.2 k (q, e) h
    · exact hA q (Nat.le_trans hS.1 h)
  refine va_calli (hr hPc (hDc.weaken (fun _ _ _ _ => trivial)) hFc) hS (fun q _ h => hFc q h) hFc (fun r u t H1 locs1 ht hvm hw hB hz1 hk1 hS1 => ?_)
  subst hw
  rw [ht] at hB
  obtain ⟨hP2, hD2⟩ := vjoin hP' hD' hk1 hFc hB.1 hB.2
  have hq := (sel_perm hlN hpN).symm.flatten
  rw [hN, List.flatten_append] at hq
  exact k H1 locs1 (vaP_perm hq hP2) (vaD_perm hq hD2) hS1
end RW9
abbrev lawW (K : Nat → ClassId) (AA : Nat → Nat → Nat) (gH : Nat → Option Nat) (aM : Nat → Nat) (aO : Nat) (c : Nat → Rc) (FL : RcL) (M : Rc) (ML : RcL) (O : Nat → Int64) : List va_W := [wCard K (AA 0) (AA 1 0) (AA 2 0) (AA 4 0) (AA 6 0) (AA 3 0) (AA 7 0) (AA 8 0) (c 0), wArr K (AA 1 0) 440 (c 16 0), wPlan K (AA 2) (c 1), wLine K (AA 3) (AA 2 0) (c 2), wReader K (AA 4) (AA 5 0) (AA 1 0) (c 3), wPlan K (AA 5) (c 4), wLine K (AA 6) (AA 2 0) (c 5), wFinder K (AA 7) (AA 3 0) (c 6) FL, wHist K (AA 8) gH (c 7), wLine K (AA 9) (AA 2 0) (c 8), wLine K (AA 10) (AA 2 0) (c 9), wLine K (AA 11) (AA 2 0) (c 10), wLine K (AA 12) (AA 2 0) (c 11), wLine K (AA 13) (AA 2 0) (c 12), wLine K (AA 14) (AA 2 0) (c 13), wLine K (AA 15) (AA 2 0) (c 14), wLine K (AA 16) (AA 2 0) (c 15), wModel K aM M ML, wOut K aO O]
set_option maxHeartbeats 4000000 in
set_option maxRecDepth 20000 in
theorem law_case0 {p : Program} {l : Launch} {e : Env} {s : State} {m : MethodId} {below : List Frame} {meth : Method} {cd : Code} {D : va_G} {K : Nat → ClassId} {b L : Nat} {xs : Nat → Int32} {Q : State → Prop} (hL : L ≤ 3072) (C0 : cx p s m #[Value.ref b] meth cd code 7 RL lw_tbl ret D K) (hX : va_X b L xs s s.heap) (hbl : b < s.heap.size) (hl0 : l.stackTraces = false) {adK adV adN : Nat → Nat} (hE : SK adK adV (fun q : Nat => s.heap.size ≤ q) s s.heap) (hT : thK adN (fun q : Nat => s.heap.size ≤ q) s s.heap) {AA : Nat → Nat → Nat} {gH : Nat → Option Nat} {aM : Nat → Nat} {aO : Nat} (hG : gHok gH (AA 9) (AA 10) (AA 11) (AA 12) (AA 13) (AA 14) (AA 15) (AA 16)) {N : Nat} {Rel : (Nat → Rc) → RcL → Rc → RcL → Prop} (sp0 : SP0 N Rel) (j : Nat) (hj : 6 * j + 6 ≤ L) (c : Nat → Rc) (FL : RcL) (M : Rc) (ML : RcL) (O : Nat → Int64) (H : Heap) (locs : List Loc) (ls : Array Slot) (hrel : Rel c FL M ML) (hP : va_P D vwCl (fl (lawW K AA gH aM aO c FL M ML O)) H) (hD : va_D (fun q : Nat => s.heap.size ≤ q) (fl (lawW K AA gH aM aO c FL M ML O))) (hS : va_S (fun q : Nat => s.heap.size ≤ q) s.heap H locs) (hl : lv_has ls 7 [(0, .ref b), (1, .ref (AA 0 0)), (2, .ref (aM 0)), (3, .ref aO), (4, .int (nI (6 * j)))]) (kk : ∀ (c : Nat → Rc) (FL : RcL) (M : Rc) (ML : RcL) (O : Nat → Int64) (H : Heap) (locs : List Loc) (ls : Array Slot), Rel c FL M ML → va_P D vwCl (fl (lawW K AA gH aM aO c FL M ML O)) H → va_D (fun q : Nat => s.heap.size ≤ q) (fl (lawW K AA gH aM aO c FL M ML O)) → va_S (fun q : Nat => s.heap.size ≤ q) s.heap H locs → lv_has ls 7 [(0, .ref b), (1, .ref (AA 0 0)), (2, .ref (aM 0)), (3, .ref aO), (4, .int (nI (6 * (j + 1))))] → W p l e room_1 s m #[Value.ref b] below meth cd H locs (1000 + (j + 1)) (200000 + 6 * (j + 1)) Q (F0 m 23 ls [])) : W p l e room_1 s m #[Value.ref b] below meth cd H locs (1000 + j) (200000 + 6 * j) Q (F0 m 140 ls []) := by
    have hx := C0.1.1
    have hb := C0.1.2.1
    have hA : ∀ q : Nat, s.heap.size ≤ q → (fun q : Nat => s.heap.size ≤ q) q := fun _ h => h
    have hbA : ¬ (fun q : Nat => s.heap.size ≤ q) b := Nat.not_le.mpr hbl
    have hcc : 1000 + j + 0 ≤ room_1.cells := by show 1000 + j + 0 ≤ 601024; omega
    have hss : 200000 + 6 * j + 0 ≤ room_1.slots := by show 200000 + 6 * j + 0 ≤ 7293034; omega
    have hcc1 : 1000 + j + 1 ≤ room_1.cells := by show 1000 + j + 1 ≤ 601024; omega
    have hss1 : 200000 + 6 * j + 6 ≤ room_1.slots := by show 200000 + 6 * j + 6 ≤ 7293034; omega
    have hi1 : vp_in (nI (6 * j) + 1) L := hi_in (k := 1) (by decide) hj hL
    have hi2 : vp_in (nI (6 * j) + 2) L := hi_in (k := 2) (by decide) hj hL
    have hi3 : vp_in (nI (6 * j) + 3) L := hi_in (k := 3) (by decide) hj hL
    have hi4 : vp_in (nI (6 * j) + 4) L := hi_in (k := 4) (by decide) hj hL
    have hi5 : vp_in (nI (6 * j) + 5) L := hi_in (k := 5) (by decide) hj hL
    obtain ⟨zx, zm, hzx, hzm, heq, hrel⟩ := sp0 c FL M ML hrel (xs (nI (6 * j) + 1).toNatClampNeg) (xs (nI (6 * j) + 2).toNatClampNeg) (xs (nI (6 * j) + 3).toNatClampNeg) (xs (nI (6 * j) + 4).toNatClampNeg) (xs (nI (6 * j) + 5).toNatClampNeg)
    refine r_aload_n C0 dL_law_140 hl 1 rfl ?_
    refine r_aload_n C0 dL_law_141 hl 0 rfl ?_
    refine r_iload C0 dL_law_142 hl 4 rfl ?_
    refine r_iconst C0 1 dL_law_144 (by decide) ?_
    refine r_iadd C0 dL_law_145 ?_
    refine va_sld hx hb hX hbl hbA hS hi1 dL_law_146 ?_
    refine r_aload_n C0 dL_law_147 hl 0 rfl ?_
    refine r_iload C0 dL_law_148 hl 4 rfl ?_
    refine r_iconst C0 2 dL_law_150 (by decide) ?_
    refine r_iadd C0 dL_law_151 ?_
    refine va_sld hx hb hX hbl hbA hS hi2 dL_law_152 ?_
    refine r_aload_n C0 dL_law_153 hl 0 rfl ?_
    refine r_iload C0 dL_law_154 hl 4 rfl ?_
    refine r_iconst C0 3 dL_law_156 (by decide) ?_
    refine r_iadd C0 dL_law_157 ?_
    refine va_sld hx hb hX hbl hbA hS hi3 dL_law_158 ?_
    refine r_aload_n C0 dL_law_159 hl 0 rfl ?_
    refine r_iload C0 dL_law_160 hl 4 rfl ?_
    refine r_iconst C0 4 dL_law_162 (by decide) ?_
    refine r_iadd C0 dL_law_163 ?_
    refine va_sld hx hb hX hbl hbA hS hi4 dL_law_164 ?_
    refine r_aload_n C0 dL_law_165 hl 0 rfl ?_
    refine r_iload C0 dL_law_166 hl 4 rfl ?_
    refine r_iconst C0 5 dL_law_168 (by decide) ?_
    refine r_iadd C0 dL_law_169 ?_
    refine va_sld hx hb hX hbl hbA hS hi5 dL_law_170 ?_
    refine r_callIC (Wc := [wCard K (AA 0) (AA 1 0) (AA 2 0) (AA 4 0) (AA 6 0) (AA 3 0) (AA 7 0) (AA 8 0) (c 0), wArr K (AA 1 0) 440 (c 16 0)]) (wf := fun (u : Rc × (Nat → Int32)) => [wCard K (AA 0) (AA 1 0) (AA 2 0) (AA 4 0) (AA 6 0) (AA 3 0) (AA 7 0) (AA 8 0) u.1, wArr K (AA 1 0) 440 u.2]) (Wn := [wCard K (AA 0) (AA 1 0) (AA 2 0) (AA 4 0) (AA 6 0) (AA 3 0) (AA 7 0) (AA 8 0) (zx.2.1), wArr K (AA 1 0) 440 (zx.2.2), wPlan K (AA 2) (c 1), wLine K (AA 3) (AA 2 0) (c 2), wReader K (AA 4) (AA 5 0) (AA 1 0) (c 3), wPlan K (AA 5) (c 4), wLine K (AA 6) (AA 2 0) (c 5), wFinder K (AA 7) (AA 3 0) (c 6) FL, wHist K (AA 8) gH (c 7), wLine K (AA 9) (AA 2 0) (c 8), wLine K (AA 10) (AA 2 0) (c 9), wLine K (AA 11) (AA 2 0) (c 10), wLine K (AA 12) (AA 2 0) (c 11), wLine K (AA 13) (AA 2 0) (c 12), wLine K (AA 14) (AA 2 0) (c 13), wLine K (AA 15) (AA 2 0) (c 14), wLine K (AA 16) (AA 2 0) (c 15), wModel K aM M ML, wOut K aO O]) hP hD hS hA [0, 1] [2, 3, 4, 5, 6, 7, 8, 9, 10, 11, 12, 13, 14, 15, 16, 17, 18] [17, 18, 0, 1, 2, 3, 4, 5, 6, 7, 8, 9, 10, 11, 12, 13, 14, 15, 16] 19 rfl rfl (by decide) rfl rfl (by decide) (fun hPc hDc hFc => va_runV (As := [.int (xs (nI (6 * j) + 1).toNatClampNeg), .int (xs (nI (6 * j) + 2).toNatClampNeg), .int (xs (nI (6 * j) + 3).toNatClampNeg), .int (xs (nI (6 * j) + 4).toNatClampNeg), .int (xs (nI (6 * j) + 5).toNatClampNeg)]) (rest := []) C0.1 (ctX5_feed l D K N (AA 0) (AA 1 0) (AA 2 0) (AA 4 0) (AA 6 0) (AA 3 0) (AA 7 0) (AA 8 0) (c 0) (c 16 0) (xs (nI (6 * j) + 1).toNatClampNeg) (xs (nI (6 * j) + 2).toNatClampNeg) (xs (nI (6 * j) + 3).toNatClampNeg) (xs (nI (6 * j) + 4).toNatClampNeg) (xs (nI (6 * j) + 5).toNatClampNeg) H.size zx hzx) (cwV 5 C0.1.2.2.2.2 (gdVB wsL_law_in0 wd5_22 wd5_23 wd6_0 wd1_2 wd6_1) rfl rfl rfl (by decide +kernel) ⟨Nat.le_of_ble_eq_true rfl, Nat.le_of_ble_eq_true rfl⟩) ⟨pcW_blind, va_recv C0.2.2.2.1 hPc (ci := 5) (q0 := 0) rfl rfl, pcW_of hPc hDc C0.2.2.2⟩ rfl rfl hl.1 rfl (lv_room (Nat.le_of_ble_eq_true rfl)) dL_law_171 ⟨hcc, hss⟩) (fun H locs hP hD hS => ?_)
    refine r_aload_n C0 dL_law_174 hl 2 rfl ?_
    refine r_aload_n C0 dL_law_175 hl 0 rfl ?_
    refine r_iload C0 dL_law_176 hl 4 rfl ?_
    refine r_iconst C0 1 dL_law_178 (by decide) ?_
    refine r_iadd C0 dL_law_179 ?_
    refine va_sld hx hb hX hbl hbA hS hi1 dL_law_180 ?_
    refine r_aload_n C0 dL_law_181 hl 0 rfl ?_
    refine r_iload C0 dL_law_182 hl 4 rfl ?_
    refine r_iconst C0 2 dL_law_184 (by decide) ?_
    refine r_iadd C0 dL_law_185 ?_
    refine va_sld hx hb hX hbl hbA hS hi2 dL_law_186 ?_
    refine r_aload_n C0 dL_law_187 hl 0 rfl ?_
    refine r_iload C0 dL_law_188 hl 4 rfl ?_
    refine r_iconst C0 3 dL_law_190 (by decide) ?_
    refine r_iadd C0 dL_law_191 ?_
    refine va_sld hx hb hX hbl hbA hS hi3 dL_law_192 ?_
    refine r_aload_n C0 dL_law_193 hl 0 rfl ?_
    refine r_iload C0 dL_law_194 hl 4 rfl ?_
    refine r_iconst C0 4 dL_law_196 (by decide) ?_
    refine r_iadd C0 dL_law_197 ?_
    refine va_sld hx hb hX hbl hbA hS hi4 dL_law_198 ?_
    refine r_aload_n C0 dL_law_199 hl 0 rfl ?_
    refine r_iload C0 dL_law_200 hl 4 rfl ?_
    refine r_iconst C0 5 dL_law_202 (by decide) ?_
    refine r_iadd C0 dL_law_203 ?_
    refine va_sld hx hb hX hbl hbA hS hi5 dL_law_204 ?_
    refine r_callIC (Wc := [wModel K aM M ML]) (wf := fun (u : Rc) => [wModel K aM u ML]) (Wn := [wCard K (AA 0) (AA 1 0) (AA 2 0) (AA 4 0) (AA 6 0) (AA 3 0) (AA 7 0) (AA 8 0) (zx.2.1), wArr K (AA 1 0) 440 (zx.2.2), wPlan K (AA 2) (c 1), wLine K (AA 3) (AA 2 0) (c 2), wReader K (AA 4) (AA 5 0) (AA 1 0) (c 3), wPlan K (AA 5) (c 4), wLine K (AA 6) (AA 2 0) (c 5), wFinder K (AA 7) (AA 3 0) (c 6) FL, wHist K (AA 8) gH (c 7), wLine K (AA 9) (AA 2 0) (c 8), wLine K (AA 10) (AA 2 0) (c 9), wLine K (AA 11) (AA 2 0) (c 10), wLine K (AA 12) (AA 2 0) (c 11), wLine K (AA 13) (AA 2 0) (c 12), wLine K (AA 14) (AA 2 0) (c 13), wLine K (AA 15) (AA 2 0) (c 14), wLine K (AA 16) (AA 2 0) (c 15), wModel K aM (zm.2) ML, wOut K aO O]) hP hD hS hA [17] [0, 1, 2, 3, 4, 5, 6, 7, 8, 9, 10, 11, 12, 13, 14, 15, 16, 18] [0, 1, 2, 3, 4, 5, 6, 7, 8, 9, 10, 11, 12, 13, 14, 15, 16, 18, 17] 19 rfl rfl (by decide) rfl rfl (by decide) (fun hPc hDc hFc => va_runV (As := [.int (xs (nI (6 * j) + 1).toNatClampNeg), .int (xs (nI (6 * j) + 2).toNatClampNeg), .int (xs (nI (6 * j) + 3).toNatClampNeg), .int (xs (nI (6 * j) + 4).toNatClampNeg), .int (xs (nI (6 * j) + 5).toNatClampNeg)]) (rest := [.int zx.1]) C0.1 (ctX6_feed l D K N aM M ML (xs (nI (6 * j) + 1).toNatClampNeg) (xs (nI (6 * j) + 2).toNatClampNeg) (xs (nI (6 * j) + 3).toNatClampNeg) (xs (nI (6 * j) + 4).toNatClampNeg) (xs (nI (6 * j) + 5).toNatClampNeg) H.size zm hzm) (cwV 5 C0.1.2.2.2.2 (gdVB wsL_law_in0 wd6_6 wd6_7 wd6_8 wd1_5 wd6_9) rfl rfl rfl (by decide +kernel) ⟨Nat.le_of_ble_eq_true rfl, Nat.le_of_ble_eq_true rfl⟩) ⟨pcW_blind, va_recv C0.2.2.2.1 hPc (ci := 6) (q0 := 0) rfl rfl, pcW_of hPc hDc C0.2.2.2⟩ rfl rfl hl.1 rfl (lv_room (Nat.le_of_ble_eq_true rfl)) dL_law_205 ⟨hcc, hss⟩) (fun H locs hP hD hS => ?_)
    refine lv_icmp_eq (tgt := 792) C0.1.1 C0.1.2.1 dL_law_208 (by decide) (fun _ => ?_) (fun c9 => absurd heq c9)
    refine lv_iinc (v := nI (6 * (j + 1))) (lv' := [(4, .int (nI (6 * (j + 1)))), (0, .ref b), (1, .ref (AA 0 0)), (2, .ref (aM 0)), (3, .ref aO)]) C0.1.1 C0.1.2.1 dL_law_792 hl (k := 4) rfl (nI6 j) (by decide) rfl (fun ls hl => ?_)
    refine r_goto C0 23 dL_law_795 (by decide) ?_
    refine W.widen (k := 1000 + (j + 1)) (n := 200000 + 6 * (j + 1)) (by omega) (by omega) ?_
    exact kk (va_up (va_up c 0 (zx.2.1)) 16 (fun _ => (zx.2.2))) FL (zm.2) ML O H locs ls hrel hP hD hS (lv_sub hl [1, 2, 3, 4, 0] rfl)
set_option maxHeartbeats 4000000 in
set_option maxRecDepth 20000 in
theorem law_case1 {p : Program} {l : Launch} {e : Env} {s : State} {m : MethodId} {below : List Frame} {meth : Method} {cd : Code} {D : va_G} {K : Nat → ClassId} {b L : Nat} {xs : Nat → Int32} {Q : State → Prop} (hL : L ≤ 3072) (C0 : cx p s m #[Value.ref b] meth cd code 7 RL lw_tbl ret D K) (hX : va_X b L xs s s.heap) (hbl : b < s.heap.size) (hl0 : l.stackTraces = false) {adK adV adN : Nat → Nat} (hE : SK adK adV (fun q : Nat => s.heap.size ≤ q) s s.heap) (hT : thK adN (fun q : Nat => s.heap.size ≤ q) s s.heap) {AA : Nat → Nat → Nat} {gH : Nat → Option Nat} {aM : Nat → Nat} {aO : Nat} (hG : gHok gH (AA 9) (AA 10) (AA 11) (AA 12) (AA 13) (AA 14) (AA 15) (AA 16)) {N : Nat} {Rel : (Nat → Rc) → RcL → Rc → RcL → Prop} (sp1 : SP1 N Rel) (j : Nat) (hj : 6 * j + 6 ≤ L) (c : Nat → Rc) (FL : RcL) (M : Rc) (ML : RcL) (O : Nat → Int64) (H : Heap) (locs : List Loc) (ls : Array Slot) (hrel : Rel c FL M ML) (hP : va_P D vwCl (fl (lawW K AA gH aM aO c FL M ML O)) H) (hD : va_D (fun q : Nat => s.heap.size ≤ q) (fl (lawW K AA gH aM aO c FL M ML O))) (hS : va_S (fun q : Nat => s.heap.size ≤ q) s.heap H locs) (hl : lv_has ls 7 [(0, .ref b), (1, .ref (AA 0 0)), (2, .ref (aM 0)), (3, .ref aO), (4, .int (nI (6 * j)))]) (kk : ∀ (c : Nat → Rc) (FL : RcL) (M : Rc) (ML : RcL) (O : Nat → Int64) (H : Heap) (locs : List Loc) (ls : Array Slot), Rel c FL M ML → va_P D vwCl (fl (lawW K AA gH aM aO c FL M ML O)) H → va_D (fun q : Nat => s.heap.size ≤ q) (fl (lawW K AA gH aM aO c FL M ML O)) → va_S (fun q : Nat => s.heap.size ≤ q) s.heap H locs → lv_has ls 7 [(0, .ref b), (1, .ref (AA 0 0)), (2, .ref (aM 0)), (3, .ref aO), (4, .int (nI (6 * (j + 1))))] → W p l e room_1 s m #[Value.ref b] below meth cd H locs (1000 + (j + 1)) (200000 + 6 * (j + 1)) Q (F0 m 23 ls [])) : W p l e room_1 s m #[Value.ref b] below meth cd H locs (1000 + j) (200000 + 6 * j) Q (F0 m 213 ls []) := by
    have hx := C0.1.1
    have hb := C0.1.2.1
    have hA : ∀ q : Nat, s.heap.size ≤ q → (fun q : Nat => s.heap.size ≤ q) q := fun _ h => h
    have hbA : ¬ (fun q : Nat => s.heap.size ≤ q) b := Nat.not_le.mpr hbl
    have hcc : 1000 + j + 0 ≤ room_1.cells := by show 1000 + j + 0 ≤ 601024; omega
    have hss : 200000 + 6 * j + 0 ≤ room_1.slots := by show 200000 + 6 * j + 0 ≤ 7293034; omega
    have hcc1 : 1000 + j + 1 ≤ room_1.cells := by show 1000 + j + 1 ≤ 601024; omega
    have hss1 : 200000 + 6 * j + 6 ≤ room_1.slots := by show 200000 + 6 * j + 6 ≤ 7293034; omega
    have hi1 : vp_in (nI (6 * j) + 1) L := hi_in (k := 1) (by decide) hj hL
    have hi2 : vp_in (nI (6 * j) + 2) L := hi_in (k := 2) (by decide) hj hL
    have hi3 : vp_in (nI (6 * j) + 3) L := hi_in (k := 3) (by decide) hj hL
    have hi4 : vp_in (nI (6 * j) + 4) L := hi_in (k := 4) (by decide) hj hL
    have hi5 : vp_in (nI (6 * j) + 5) L := hi_in (k := 5) (by decide) hj hL
    obtain ⟨zx, zm, hzx, hzm, heq, hrel⟩ := sp1 c FL M ML hrel (xs (nI (6 * j) + 1).toNatClampNeg)
    refine r_aload_n C0 dL_law_213 hl 1 rfl ?_
    refine r_aload_n C0 dL_law_214 hl 0 rfl ?_
    refine r_iload C0 dL_law_215 hl 4 rfl ?_
    refine r_iconst C0 1 dL_law_217 (by decide) ?_
    refine r_iadd C0 dL_law_218 ?_
    refine va_sld hx hb hX hbl hbA hS hi1 dL_law_219 ?_
    refine r_callIC (Wc := [wCard K (AA 0) (AA 1 0) (AA 2 0) (AA 4 0) (AA 6 0) (AA 3 0) (AA 7 0) (AA 8 0) (c 0)]) (wf := fun (u : Rc) => [wCard K (AA 0) (AA 1 0) (AA 2 0) (AA 4 0) (AA 6 0) (AA 3 0) (AA 7 0) (AA 8 0) u]) (Wn := [wCard K (AA 0) (AA 1 0) (AA 2 0) (AA 4 0) (AA 6 0) (AA 3 0) (AA 7 0) (AA 8 0) (zx.2), wArr K (AA 1 0) 440 (c 16 0), wPlan K (AA 2) (c 1), wLine K (AA 3) (AA 2 0) (c 2), wReader K (AA 4) (AA 5 0) (AA 1 0) (c 3), wPlan K (AA 5) (c 4), wLine K (AA 6) (AA 2 0) (c 5), wFinder K (AA 7) (AA 3 0) (c 6) FL, wHist K (AA 8) gH (c 7), wLine K (AA 9) (AA 2 0) (c 8), wLine K (AA 10) (AA 2 0) (c 9), wLine K (AA 11) (AA 2 0) (c 10), wLine K (AA 12) (AA 2 0) (c 11), wLine K (AA 13) (AA 2 0) (c 12), wLine K (AA 14) (AA 2 0) (c 13), wLine K (AA 15) (AA 2 0) (c 14), wLine K (AA 16) (AA 2 0) (c 15), wModel K aM M ML, wOut K aO O]) hP hD hS hA [0] [1, 2, 3, 4, 5, 6, 7, 8, 9, 10, 11, 12, 13, 14, 15, 16, 17, 18] [18, 0, 1, 2, 3, 4, 5, 6, 7, 8, 9, 10, 11, 12, 13, 14, 15, 16, 17] 19 rfl rfl (by decide) rfl rfl (by decide) (fun hPc hDc hFc => va_runV (As := [.int (xs (nI (6 * j) + 1).toNatClampNeg)]) (rest := []) C0.1 (ctX5_end l D K (AA 0) (AA 1 0) (AA 2 0) (AA 4 0) (AA 6 0) (AA 3 0) (AA 7 0) (AA 8 0) (c 0) (xs (nI (6 * j) + 1).toNatClampNeg) H.size zx hzx) (cwV 1 C0.1.2.2.2.2 (gdVB wsL_law_in0 wd6_16 wd6_17 wd6_18 wd1_2 wd6_19) rfl rfl rfl (by decide +kernel) ⟨Nat.le_of_ble_eq_true rfl, Nat.le_of_ble_eq_true rfl⟩) ⟨pcW_blind, va_recv C0.2.2.2.1 hPc (ci := 5) (q0 := 0) rfl rfl, pcW_of hPc hDc C0.2.2.2⟩ rfl rfl hl.1 rfl (lv_room (Nat.le_of_ble_eq_true rfl)) dL_law_220 ⟨hcc, hss⟩) (fun H locs hP hD hS => ?_)
    refine r_aload_n C0 dL_law_223 hl 2 rfl ?_
    refine r_aload_n C0 dL_law_224 hl 0 rfl ?_
    refine r_iload C0 dL_law_225 hl 4 rfl ?_
    refine r_iconst C0 1 dL_law_227 (by decide) ?_
    refine r_iadd C0 dL_law_228 ?_
    refine va_sld hx hb hX hbl hbA hS hi1 dL_law_229 ?_
    refine r_callIC (Wc := [wModel K aM M ML]) (wf := fun (u : Rc) => [wModel K aM u ML]) (Wn := [wCard K (AA 0) (AA 1 0) (AA 2 0) (AA 4 0) (AA 6 0) (AA 3 0) (AA 7 0) (AA 8 0) (zx.2), wArr K (AA 1 0) 440 (c 16 0), wPlan K (AA 2) (c 1), wLine K (AA 3) (AA 2 0) (c 2), wReader K (AA 4) (AA 5 0) (AA 1 0) (c 3), wPlan K (AA 5) (c 4), wLine K (AA 6) (AA 2 0) (c 5), wFinder K (AA 7) (AA 3 0) (c 6) FL, wHist K (AA 8) gH (c 7), wLine K (AA 9) (AA 2 0) (c 8), wLine K (AA 10) (AA 2 0) (c 9), wLine K (AA 11) (AA 2 0) (c 10), wLine K (AA 12) (AA 2 0) (c 11), wLine K (AA 13) (AA 2 0) (c 12), wLine K (AA 14) (AA 2 0) (c 13), wLine K (AA 15) (AA 2 0) (c 14), wLine K (AA 16) (AA 2 0) (c 15), wModel K aM (zm.2) ML, wOut K aO O]) hP hD hS hA [17] [0, 1, 2, 3, 4, 5, 6, 7, 8, 9, 10, 11, 12, 13, 14, 15, 16, 18] [0, 1, 2, 3, 4, 5, 6, 7, 8, 9, 10, 11, 12, 13, 14, 15, 16, 18, 17] 19 rfl rfl (by decide) rfl rfl (by decide) (fun hPc hDc hFc => va_runV (As := [.int (xs (nI (6 * j) + 1).toNatClampNeg)]) (rest := [.int zx.1]) C0.1 (ctX6_end l D K aM M ML (xs (nI (6 * j) + 1).toNatClampNeg) H.size zm hzm) (cwV 1 C0.1.2.2.2.2 (gdVB wsL_law_in0 wd6_20 wd6_21 wd6_22 wd1_5 wd6_23) rfl rfl rfl (by decide +kernel) ⟨Nat.le_of_ble_eq_true rfl, Nat.le_of_ble_eq_true rfl⟩) ⟨pcW_blind, va_recv C0.2.2.2.1 hPc (ci := 6) (q0 := 0) rfl rfl, pcW_of hPc hDc C0.2.2.2⟩ rfl rfl hl.1 rfl (lv_room (Nat.le_of_ble_eq_true rfl)) dL_law_230 ⟨hcc, hss⟩) (fun H locs hP hD hS => ?_)
    refine lv_icmp_eq (tgt := 792) C0.1.1 C0.1.2.1 dL_law_233 (by decide) (fun _ => ?_) (fun c9 => absurd heq c9)
    refine lv_iinc (v := nI (6 * (j + 1))) (lv' := [(4, .int (nI (6 * (j + 1)))), (0, .ref b), (1, .ref (AA 0 0)), (2, .ref (aM 0)), (3, .ref aO)]) C0.1.1 C0.1.2.1 dL_law_792 hl (k := 4) rfl (nI6 j) (by decide) rfl (fun ls hl => ?_)
    refine r_goto C0 23 dL_law_795 (by decide) ?_
    refine W.widen (k := 1000 + (j + 1)) (n := 200000 + 6 * (j + 1)) (by omega) (by omega) ?_
    exact kk (va_up c 0 (zx.2)) FL (zm.2) ML O H locs ls hrel hP hD hS (lv_sub hl [1, 2, 3, 4, 0] rfl)
set_option maxHeartbeats 4000000 in
set_option maxRecDepth 20000 in
theorem law_case2 {p : Program} {l : Launch} {e : Env} {s : State} {m : MethodId} {below : List Frame} {meth : Method} {cd : Code} {D : va_G} {K : Nat → ClassId} {b L : Nat} {xs : Nat → Int32} {Q : State → Prop} (hL : L ≤ 3072) (C0 : cx p s m #[Value.ref b] meth cd code 7 RL lw_tbl ret D K) (hX : va_X b L xs s s.heap) (hbl : b < s.heap.size) (hl0 : l.stackTraces = false) {adK adV adN : Nat → Nat} (hE : SK adK adV (fun q : Nat => s.heap.size ≤ q) s s.heap) (hT : thK adN (fun q : Nat => s.heap.size ≤ q) s s.heap) {AA : Nat → Nat → Nat} {gH : Nat → Option Nat} {aM : Nat → Nat} {aO : Nat} (hG : gHok gH (AA 9) (AA 10) (AA 11) (AA 12) (AA 13) (AA 14) (AA 15) (AA 16)) {N : Nat} {Rel : (Nat → Rc) → RcL → Rc → RcL → Prop} (sp2 : SP2 N Rel) (j : Nat) (hj : 6 * j + 6 ≤ L) (c : Nat → Rc) (FL : RcL) (M : Rc) (ML : RcL) (O : Nat → Int64) (H : Heap) (locs : List Loc) (ls : Array Slot) (hrel : Rel c FL M ML) (hP : va_P D vwCl (fl (lawW K AA gH aM aO c FL M ML O)) H) (hD : va_D (fun q : Nat => s.heap.size ≤ q) (fl (lawW K AA gH aM aO c FL M ML O))) (hS : va_S (fun q : Nat => s.heap.size ≤ q) s.heap H locs) (hl : lv_has ls 7 [(0, .ref b), (1, .ref (AA 0 0)), (2, .ref (aM 0)), (3, .ref aO), (4, .int (nI (6 * j)))]) (kk : ∀ (c : Nat → Rc) (FL : RcL) (M : Rc) (ML : RcL) (O : Nat → Int64) (H : Heap) (locs : List Loc) (ls : Array Slot), Rel c FL M ML → va_P D vwCl (fl (lawW K AA gH aM aO c FL M ML O)) H → va_D (fun q : Nat => s.heap.size ≤ q) (fl (lawW K AA gH aM aO c FL M ML O)) → va_S (fun q : Nat => s.heap.size ≤ q) s.heap H locs → lv_has ls 7 [(0, .ref b), (1, .ref (AA 0 0)), (2, .ref (aM 0)), (3, .ref aO), (4, .int (nI (6 * (j + 1))))] → W p l e room_1 s m #[Value.ref b] below meth cd H locs (1000 + (j + 1)) (200000 + 6 * (j + 1)) Q (F0 m 23 ls [])) : W p l e room_1 s m #[Value.ref b] below meth cd H locs (1000 + j) (200000 + 6 * j) Q (F0 m 238 ls []) := by
    have hx := C0.1.1
    have hb := C0.1.2.1
    have hA : ∀ q : Nat, s.heap.size ≤ q → (fun q : Nat => s.heap.size ≤ q) q := fun _ h => h
    have hbA : ¬ (fun q : Nat => s.heap.size ≤ q) b := Nat.not_le.mpr hbl
    have hcc : 1000 + j + 0 ≤ room_1.cells := by show 1000 + j + 0 ≤ 601024; omega
    have hss : 200000 + 6 * j + 0 ≤ room_1.slots := by show 200000 + 6 * j + 0 ≤ 7293034; omega
    have hcc1 : 1000 + j + 1 ≤ room_1.cells := by show 1000 + j + 1 ≤ 601024; omega
    have hss1 : 200000 + 6 * j + 6 ≤ room_1.slots := by show 200000 + 6 * j + 6 ≤ 7293034; omega
    have hi1 : vp_in (nI (6 * j) + 1) L := hi_in (k := 1) (by decide) hj hL
    have hi2 : vp_in (nI (6 * j) + 2) L := hi_in (k := 2) (by decide) hj hL
    have hi3 : vp_in (nI (6 * j) + 3) L := hi_in (k := 3) (by decide) hj hL
    have hi4 : vp_in (nI (6 * j) + 4) L := hi_in (k := 4) (by decide) hj hL
    have hi5 : vp_in (nI (6 * j) + 5) L := hi_in (k := 5) (by decide) hj hL
    obtain ⟨zx, zm, hzx, hzm, heq, hrel⟩ := sp2 c FL M ML hrel ()
    refine r_aload_n C0 dL_law_238 hl 1 rfl ?_
    refine r_callIC (Wc := [wCard K (AA 0) (AA 1 0) (AA 2 0) (AA 4 0) (AA 6 0) (AA 3 0) (AA 7 0) (AA 8 0) (c 0), wArr K (AA 1 0) 440 (c 16 0), wPlan K (AA 2) (c 1), wPlan K (AA 5) (c 4), wReader K (AA 4) (AA 5 0) (AA 1 0) (c 3), wLine K (AA 6) (AA 2 0) (c 5), wHist K (AA 8) gH (c 7)]) (wf := fun (u : Rc × Rc × Rc × Rc × Rc × Rc) => [wCard K (AA 0) (AA 1 0) (AA 2 0) (AA 4 0) (AA 6 0) (AA 3 0) (AA 7 0) (AA 8 0) u.1, wArr K (AA 1 0) 440 (c 16 0), wPlan K (AA 2) u.2.1, wPlan K (AA 5) u.2.2.1, wReader K (AA 4) (AA 5 0) (AA 1 0) u.2.2.2.1, wLine K (AA 6) (AA 2 0) u.2.2.2.2.1, wHist K (AA 8) gH u.2.2.2.2.2]) (Wn := [wCard K (AA 0) (AA 1 0) (AA 2 0) (AA 4 0) (AA 6 0) (AA 3 0) (AA 7 0) (AA 8 0) (zx.2.1), wArr K (AA 1 0) 440 (c 16 0), wPlan K (AA 2) (zx.2.2.1), wLine K (AA 3) (AA 2 0) (c 2), wReader K (AA 4) (AA 5 0) (AA 1 0) (zx.2.2.2.2.1), wPlan K (AA 5) (zx.2.2.2.1), wLine K (AA 6) (AA 2 0) (zx.2.2.2.2.2.1), wFinder K (AA 7) (AA 3 0) (c 6) FL, wHist K (AA 8) gH (zx.2.2.2.2.2.2), wLine K (AA 9) (AA 2 0) (c 8), wLine K (AA 10) (AA 2 0) (c 9), wLine K (AA 11) (AA 2 0) (c 10), wLine K (AA 12) (AA 2 0) (c 11), wLine K (AA 13) (AA 2 0) (c 12), wLine K (AA 14) (AA 2 0) (c 13), wLine K (AA 15) (AA 2 0) (c 14), wLine K (AA 16) (AA 2 0) (c 15), wModel K aM M ML, wOut K aO O]) hP hD hS hA [0, 1, 2, 5, 4, 6, 8] [3, 7, 9, 10, 11, 12, 13, 14, 15, 16, 17, 18] [12, 13, 14, 0, 16, 15, 17, 1, 18, 2, 3, 4, 5, 6, 7, 8, 9, 10, 11] 19 rfl rfl (by decide) rfl rfl (by decide) (fun hPc hDc hFc => va_runV (As := []) (rest := []) C0.1 (ctX5_text l D K N (AA 0) (AA 1 0) (AA 2) (AA 5) (AA 4) (AA 6) (AA 8) adK adV gH (AA 3 0) (AA 7 0) (c 0) (c 16 0) (c 1) (c 4) (c 3) (c 5) (c 7) H.size zx hzx) (cwV 0 C0.1.2.2.2.2 (gdVB wsL_law_in0 wd7_0 wd7_1 wd7_2 wd1_2 wd7_3) rfl rfl rfl (by decide +kernel) ⟨Nat.le_of_ble_eq_true rfl, Nat.le_of_ble_eq_true rfl⟩) ⟨pcWS_blind, va_recv C0.2.2.2.1 hPc (ci := 5) (q0 := 0) rfl rfl, pcWS_of hPc hDc C0.2.2.2 ((hE.kept hS.2.1).narrow hFc)⟩ rfl rfl hl.1 rfl (lv_room (Nat.le_of_ble_eq_true rfl)) dL_law_239 ⟨hcc, hss⟩) (fun H locs hP hD hS => ?_)
    refine r_aload_n C0 dL_law_242 hl 2 rfl ?_
    refine r_callIC (Wc := [wModel K aM M ML]) (wf := fun (u : Rc × RcL) => [wModel K aM u.1 u.2]) (Wn := [wCard K (AA 0) (AA 1 0) (AA 2 0) (AA 4 0) (AA 6 0) (AA 3 0) (AA 7 0) (AA 8 0) (zx.2.1), wArr K (AA 1 0) 440 (c 16 0), wPlan K (AA 2) (zx.2.2.1), wLine K (AA 3) (AA 2 0) (c 2), wReader K (AA 4) (AA 5 0) (AA 1 0) (zx.2.2.2.2.1), wPlan K (AA 5) (zx.2.2.2.1), wLine K (AA 6) (AA 2 0) (zx.2.2.2.2.2.1), wFinder K (AA 7) (AA 3 0) (c 6) FL, wHist K (AA 8) gH (zx.2.2.2.2.2.2), wLine K (AA 9) (AA 2 0) (c 8), wLine K (AA 10) (AA 2 0) (c 9), wLine K (AA 11) (AA 2 0) (c 10), wLine K (AA 12) (AA 2 0) (c 11), wLine K (AA 13) (AA 2 0) (c 12), wLine K (AA 14) (AA 2 0) (c 13), wLine K (AA 15) (AA 2 0) (c 14), wLine K (AA 16) (AA 2 0) (c 15), wModel K aM (zm.2.1) (zm.2.2), wOut K aO O]) hP hD hS hA [17] [0, 1, 2, 3, 4, 5, 6, 7, 8, 9, 10, 11, 12, 13, 14, 15, 16, 18] [0, 1, 2, 3, 4, 5, 6, 7, 8, 9, 10, 11, 12, 13, 14, 15, 16, 18, 17] 19 rfl rfl (by decide) rfl rfl (by decide) (fun hPc hDc hFc => va_runV (As := []) (rest := [.int zx.1]) C0.1 (ctX6_text l D K N aM M ML H.size zm hzm) (cwV 0 C0.1.2.2.2.2 (gdVB wsL_law_in0 wd15_6 wd15_7 wd15_8 wd1_5 wd15_9) rfl rfl rfl (by decide +kernel) ⟨Nat.le_of_ble_eq_true rfl, Nat.le_of_ble_eq_true rfl⟩) ⟨pcW_blind, va_recv C0.2.2.2.1 hPc (ci := 6) (q0 := 0) rfl rfl, pcW_of hPc hDc C0.2.2.2⟩ rfl rfl hl.1 rfl (lv_room (Nat.le_of_ble_eq_true rfl)) dL_law_243 ⟨hcc, hss⟩) (fun H locs hP hD hS => ?_)
    refine lv_icmp_eq (tgt := 792) C0.1.1 C0.1.2.1 dL_law_246 (by decide) (fun _ => ?_) (fun c9 => absurd heq c9)
    refine lv_iinc (v := nI (6 * (j + 1))) (lv' := [(4, .int (nI (6 * (j + 1)))), (0, .ref b), (1, .ref (AA 0 0)), (2, .ref (aM 0)), (3, .ref aO)]) C0.1.1 C0.1.2.1 dL_law_792 hl (k := 4) rfl (nI6 j) (by decide) rfl (fun ls hl => ?_)
    refine r_goto C0 23 dL_law_795 (by decide) ?_
    refine W.widen (k := 1000 + (j + 1)) (n := 200000 + 6 * (j + 1)) (by omega) (by omega) ?_
    exact kk (va_up (va_up (va_up (va_up (va_up (va_up c 0 (zx.2.1)) 1 (zx.2.2.1)) 3 (zx.2.2.2.2.1)) 4 (zx.2.2.2.1)) 5 (zx.2.2.2.2.2.1)) 7 (zx.2.2.2.2.2.2)) FL (zm.2.1) (zm.2.2) O H locs ls hrel hP hD hS (lv_sub hl [1, 2, 3, 4, 0] rfl)
set_option maxHeartbeats 4000000 in
set_option maxRecDepth 20000 in
theorem law_case3 {p : Program} {l : Launch} {e : Env} {s : State} {m : MethodId} {below : List Frame} {meth : Method} {cd : Code} {D : va_G} {K : Nat → ClassId} {b L : Nat} {xs : Nat → Int32} {Q : State → Prop} (hL : L ≤ 3072) (C0 : cx p s m #[Value.ref b] meth cd code 7 RL lw_tbl ret D K) (hX : va_X b L xs s s.heap) (hbl : b < s.heap.size) (hl0 : l.stackTraces = false) {adK adV adN : Nat → Nat} (hE : SK adK adV (fun q : Nat => s.heap.size ≤ q) s s.heap) (hT : thK adN (fun q : Nat => s.heap.size ≤ q) s s.heap) {AA : Nat → Nat → Nat} {gH : Nat → Option Nat} {aM : Nat → Nat} {aO : Nat} (hG : gHok gH (AA 9) (AA 10) (AA 11) (AA 12) (AA 13) (AA 14) (AA 15) (AA 16)) {N : Nat} {Rel : (Nat → Rc) → RcL → Rc → RcL → Prop} (sp3 : SP3 N Rel) (j : Nat) (hj : 6 * j + 6 ≤ L) (c : Nat → Rc) (FL : RcL) (M : Rc) (ML : RcL) (O : Nat → Int64) (H : Heap) (locs : List Loc) (ls : Array Slot) (hrel : Rel c FL M ML) (hP : va_P D vwCl (fl (lawW K AA gH aM aO c FL M ML O)) H) (hD : va_D (fun q : Nat => s.heap.size ≤ q) (fl (lawW K AA gH aM aO c FL M ML O))) (hS : va_S (fun q : Nat => s.heap.size ≤ q) s.heap H locs) (hl : lv_has ls 7 [(0, .ref b), (1, .ref (AA 0 0)), (2, .ref (aM 0)), (3, .ref aO), (4, .int (nI (6 * j)))]) (kk : ∀ (c : Nat → Rc) (FL : RcL) (M : Rc) (ML : RcL) (O : Nat → Int64) (H : Heap) (locs : List Loc) (ls : Array Slot), Rel c FL M ML → va_P D vwCl (fl (lawW K AA gH aM aO c FL M ML O)) H → va_D (fun q : Nat => s.heap.size ≤ q) (fl (lawW K AA gH aM aO c FL M ML O)) → va_S (fun q : Nat => s.heap.size ≤ q) s.heap H locs → lv_has ls 7 [(0, .ref b), (1, .ref (AA 0 0)), (2, .ref (aM 0)), (3, .ref aO), (4, .int (nI (6 * (j + 1))))] → W p l e room_1 s m #[Value.ref b] below meth cd H locs (1000 + (j + 1)) (200000 + 6 * (j + 1)) Q (F0 m 23 ls [])) : W p l e room_1 s m #[Value.ref b] below meth cd H locs (1000 + j) (200000 + 6 * j) Q (F0 m 251 ls []) := by
    have hx := C0.1.1
    have hb := C0.1.2.1
    have hA : ∀ q : Nat, s.heap.size ≤ q → (fun q : Nat => s.heap.size ≤ q) q := fun _ h => h
    have hbA : ¬ (fun q : Nat => s.heap.size ≤ q) b := Nat.not_le.mpr hbl
    have hcc : 1000 + j + 0 ≤ room_1.cells := by show 1000 + j + 0 ≤ 601024; omega
    have hss : 200000 + 6 * j + 0 ≤ room_1.slots := by show 200000 + 6 * j + 0 ≤ 7293034; omega
    have hcc1 : 1000 + j + 1 ≤ room_1.cells := by show 1000 + j + 1 ≤ 601024; omega
    have hss1 : 200000 + 6 * j + 6 ≤ room_1.slots := by show 200000 + 6 * j + 6 ≤ 7293034; omega
    have hi1 : vp_in (nI (6 * j) + 1) L := hi_in (k := 1) (by decide) hj hL
    have hi2 : vp_in (nI (6 * j) + 2) L := hi_in (k := 2) (by decide) hj hL
    have hi3 : vp_in (nI (6 * j) + 3) L := hi_in (k := 3) (by decide) hj hL
    have hi4 : vp_in (nI (6 * j) + 4) L := hi_in (k := 4) (by decide) hj hL
    have hi5 : vp_in (nI (6 * j) + 5) L := hi_in (k := 5) (by decide) hj hL
    obtain ⟨zx, zm, hzx, hzm, heq, hrel⟩ := sp3 c FL M ML hrel ()
    refine r_aload_n C0 dL_law_251 hl 1 rfl ?_
    have hPc := vaP_sel (Wc := [wCard K (AA 0) (AA 1 0) (AA 2 0) (AA 4 0) (AA 6 0) (AA 3 0) (AA 7 0) (AA 8 0) (c 0), wReader K (AA 4) (AA 5 0) (AA 1 0) (c 3)]) hP [0, 4] rfl
    refine r_cI (va_runV (As := []) (rest := []) C0.1 (ctX5_fault l D K (AA 0) (AA 4) (AA 1 0) (AA 2 0) (AA 6 0) (AA 3 0) (AA 7 0) (AA 8 0) (AA 5 0) (AA 1 0) (c 0) (c 3) zx hzx) (cwV 0 C0.1.2.2.2.2 (gdVB wsL_law_in0 wd20_3 wd20_4 wd20_5 wd1_2 wd20_6) rfl rfl rfl (by decide +kernel) ⟨Nat.le_of_ble_eq_true rfl, Nat.le_of_ble_eq_true rfl⟩) ⟨pcR_blind, va_recv C0.2.2.2.1 hPc (ci := 5) (q0 := 0) rfl rfl, pcR_of hPc C0.2.2.2⟩ rfl rfl hl.1 rfl (lv_room (Nat.le_of_ble_eq_true rfl)) dL_law_252 ⟨hcc, hss⟩).run ?_
    refine r_aload_n C0 dL_law_255 hl 2 rfl ?_
    refine r_callIC (Wc := [wModel K aM M ML]) (wf := fun (u : Rc) => [wModel K aM u ML]) (Wn := [wCard K (AA 0) (AA 1 0) (AA 2 0) (AA 4 0) (AA 6 0) (AA 3 0) (AA 7 0) (AA 8 0) (c 0), wArr K (AA 1 0) 440 (c 16 0), wPlan K (AA 2) (c 1), wLine K (AA 3) (AA 2 0) (c 2), wReader K (AA 4) (AA 5 0) (AA 1 0) (c 3), wPlan K (AA 5) (c 4), wLine K (AA 6) (AA 2 0) (c 5), wFinder K (AA 7) (AA 3 0) (c 6) FL, wHist K (AA 8) gH (c 7), wLine K (AA 9) (AA 2 0) (c 8), wLine K (AA 10) (AA 2 0) (c 9), wLine K (AA 11) (AA 2 0) (c 10), wLine K (AA 12) (AA 2 0) (c 11), wLine K (AA 13) (AA 2 0) (c 12), wLine K (AA 14) (AA 2 0) (c 13), wLine K (AA 15) (AA 2 0) (c 14), wLine K (AA 16) (AA 2 0) (c 15), wModel K aM (zm.2) ML, wOut K aO O]) hP hD hS hA [17] [0, 1, 2, 3, 4, 5, 6, 7, 8, 9, 10, 11, 12, 13, 14, 15, 16, 18] [0, 1, 2, 3, 4, 5, 6, 7, 8, 9, 10, 11, 12, 13, 14, 15, 16, 18, 17] 19 rfl rfl (by decide) rfl rfl (by decide) (fun hPc hDc hFc => va_runV (As := []) (rest := [.int zx]) C0.1 (ctX6_fault l D K aM M ML H.size zm hzm) (cwV 0 C0.1.2.2.2.2 (gdVB wsL_law_in0 wd20_8 wd20_9 wd20_10 wd1_5 wd20_11) rfl rfl rfl (by decide +kernel) ⟨Nat.le_of_ble_eq_true rfl, Nat.le_of_ble_eq_true rfl⟩) ⟨pcW_blind, va_recv C0.2.2.2.1 hPc (ci := 6) (q0 := 0) rfl rfl, pcW_of hPc hDc C0.2.2.2⟩ rfl rfl hl.1 rfl (lv_room (Nat.le_of_ble_eq_true rfl)) dL_law_256 ⟨hcc, hss⟩) (fun H locs hP hD hS => ?_)
    refine lv_icmp_eq (tgt := 792) C0.1.1 C0.1.2.1 dL_law_259 (by decide) (fun _ => ?_) (fun c9 => absurd heq c9)
    refine lv_iinc (v := nI (6 * (j + 1))) (lv' := [(4, .int (nI (6 * (j + 1)))), (0, .ref b), (1, .ref (AA 0 0)), (2, .ref (aM 0)), (3, .ref aO)]) C0.1.1 C0.1.2.1 dL_law_792 hl (k := 4) rfl (nI6 j) (by decide) rfl (fun ls hl => ?_)
    refine r_goto C0 23 dL_law_795 (by decide) ?_
    refine W.widen (k := 1000 + (j + 1)) (n := 200000 + 6 * (j + 1)) (by omega) (by omega) ?_
    exact kk c FL (zm.2) ML O H locs ls hrel hP hD hS (lv_sub hl [1, 2, 3, 4, 0] rfl)
set_option maxHeartbeats 4000000 in
set_option maxRecDepth 20000 in
theorem law_case4 {p : Program} {l : Launch} {e : Env} {s : State} {m : MethodId} {below : List Frame} {meth : Method} {cd : Code} {D : va_G} {K : Nat → ClassId} {b L : Nat} {xs : Nat → Int32} {Q : State → Prop} (hL : L ≤ 3072) (C0 : cx p s m #[Value.ref b] meth cd code 7 RL lw_tbl ret D K) (hX : va_X b L xs s s.heap) (hbl : b < s.heap.size) (hl0 : l.stackTraces = false) {adK adV adN : Nat → Nat} (hE : SK adK adV (fun q : Nat => s.heap.size ≤ q) s s.heap) (hT : thK adN (fun q : Nat => s.heap.size ≤ q) s s.heap) {AA : Nat → Nat → Nat} {gH : Nat → Option Nat} {aM : Nat → Nat} {aO : Nat} (hG : gHok gH (AA 9) (AA 10) (AA 11) (AA 12) (AA 13) (AA 14) (AA 15) (AA 16)) {N : Nat} {Rel : (Nat → Rc) → RcL → Rc → RcL → Prop} (sp4 : SP4 N Rel) (j : Nat) (hj : 6 * j + 6 ≤ L) (c : Nat → Rc) (FL : RcL) (M : Rc) (ML : RcL) (O : Nat → Int64) (H : Heap) (locs : List Loc) (ls : Array Slot) (hrel : Rel c FL M ML) (hP : va_P D vwCl (fl (lawW K AA gH aM aO c FL M ML O)) H) (hD : va_D (fun q : Nat => s.heap.size ≤ q) (fl (lawW K AA gH aM aO c FL M ML O))) (hS : va_S (fun q : Nat => s.heap.size ≤ q) s.heap H locs) (hl : lv_has ls 7 [(0, .ref b), (1, .ref (AA 0 0)), (2, .ref (aM 0)), (3, .ref aO), (4, .int (nI (6 * j)))]) (kk : ∀ (c : Nat → Rc) (FL : RcL) (M : Rc) (ML : RcL) (O : Nat → Int64) (H : Heap) (locs : List Loc) (ls : Array Slot), Rel c FL M ML → va_P D vwCl (fl (lawW K AA gH aM aO c FL M ML O)) H → va_D (fun q : Nat => s.heap.size ≤ q) (fl (lawW K AA gH aM aO c FL M ML O)) → va_S (fun q : Nat => s.heap.size ≤ q) s.heap H locs → lv_has ls 7 [(0, .ref b), (1, .ref (AA 0 0)), (2, .ref (aM 0)), (3, .ref aO), (4, .int (nI (6 * (j + 1))))] → W p l e room_1 s m #[Value.ref b] below meth cd H locs (1000 + (j + 1)) (200000 + 6 * (j + 1)) Q (F0 m 23 ls [])) : W p l e room_1 s m #[Value.ref b] below meth cd H locs (1000 + j) (200000 + 6 * j) Q (F0 m 264 ls []) := by
    have hx := C0.1.1
    have hb := C0.1.2.1
    have hA : ∀ q : Nat, s.heap.size ≤ q → (fun q : Nat => s.heap.size ≤ q) q := fun _ h => h
    have hbA : ¬ (fun q : Nat => s.heap.size ≤ q) b := Nat.not_le.mpr hbl
    have hcc : 1000 + j + 0 ≤ room_1.cells := by show 1000 + j + 0 ≤ 601024; omega
    have hss : 200000 + 6 * j + 0 ≤ room_1.slots := by show 200000 + 6 * j + 0 ≤ 7293034; omega
    have hcc1 : 1000 + j + 1 ≤ room_1.cells := by show 1000 + j + 1 ≤ 601024; omega
    have hss1 : 200000 + 6 * j + 6 ≤ room_1.slots := by show 200000 + 6 * j + 6 ≤ 7293034; omega
    have hi1 : vp_in (nI (6 * j) + 1) L := hi_in (k := 1) (by decide) hj hL
    have hi2 : vp_in (nI (6 * j) + 2) L := hi_in (k := 2) (by decide) hj hL
    have hi3 : vp_in (nI (6 * j) + 3) L := hi_in (k := 3) (by decide) hj hL
    have hi4 : vp_in (nI (6 * j) + 4) L := hi_in (k := 4) (by decide) hj hL
    have hi5 : vp_in (nI (6 * j) + 5) L := hi_in (k := 5) (by decide) hj hL
    obtain ⟨zx, zm, hzx, hzm, heq, hrel⟩ := sp4 c FL M ML hrel (xs (nI (6 * j) + 1).toNatClampNeg)
    refine r_aload_n C0 dL_law_264 hl 1 rfl ?_
    refine r_aload_n C0 dL_law_265 hl 0 rfl ?_
    refine r_iload C0 dL_law_266 hl 4 rfl ?_
    refine r_iconst C0 1 dL_law_268 (by decide) ?_
    refine r_iadd C0 dL_law_269 ?_
    refine va_sld hx hb hX hbl hbA hS hi1 dL_law_270 ?_
    have hPc := vaP_sel (Wc := [wCard K (AA 0) (AA 1 0) (AA 2 0) (AA 4 0) (AA 6 0) (AA 3 0) (AA 7 0) (AA 8 0) (c 0), wPlan K (AA 2) (c 1), wLine K (AA 6) (AA 2 0) (c 5), wHist K (AA 8) gH (c 7)]) hP [0, 2, 6, 8] rfl
    refine r_cI (va_runV (As := [.int (xs (nI (6 * j) + 1).toNatClampNeg)]) (rest := []) C0.1 (ctX5_now l D K (AA 0) (AA 2) (AA 6) (AA 8) gH (AA 1 0) (AA 4 0) (AA 3 0) (AA 7 0) (c 0) (c 1) (c 5) (c 7) (xs (nI (6 * j) + 1).toNatClampNeg) zx hzx) (cwV 1 C0.1.2.2.2.2 (gdVB wsL_law_in0 wd20_12 wd20_13 wd20_14 wd1_2 wd20_15) rfl rfl rfl (by decide +kernel) ⟨Nat.le_of_ble_eq_true rfl, Nat.le_of_ble_eq_true rfl⟩) ⟨pcR_blind, va_recv C0.2.2.2.1 hPc (ci := 5) (q0 := 0) rfl rfl, pcR_of hPc C0.2.2.2⟩ rfl rfl hl.1 rfl (lv_room (Nat.le_of_ble_eq_true rfl)) dL_law_271 ⟨hcc, hss⟩).run ?_
    refine r_aload_n C0 dL_law_274 hl 2 rfl ?_
    refine r_aload_n C0 dL_law_275 hl 0 rfl ?_
    refine r_iload C0 dL_law_276 hl 4 rfl ?_
    refine r_iconst C0 1 dL_law_278 (by decide) ?_
    refine r_iadd C0 dL_law_279 ?_
    refine va_sld hx hb hX hbl hbA hS hi1 dL_law_280 ?_
    refine r_callIC (Wc := [wModel K aM M ML]) (wf := fun (u : Rc) => [wModel K aM u ML]) (Wn := [wCard K (AA 0) (AA 1 0) (AA 2 0) (AA 4 0) (AA 6 0) (AA 3 0) (AA 7 0) (AA 8 0) (c 0), wArr K (AA 1 0) 440 (c 16 0), wPlan K (AA 2) (c 1), wLine K (AA 3) (AA 2 0) (c 2), wReader K (AA 4) (AA 5 0) (AA 1 0) (c 3), wPlan K (AA 5) (c 4), wLine K (AA 6) (AA 2 0) (c 5), wFinder K (AA 7) (AA 3 0) (c 6) FL, wHist K (AA 8) gH (c 7), wLine K (AA 9) (AA 2 0) (c 8), wLine K (AA 10) (AA 2 0) (c 9), wLine K (AA 11) (AA 2 0) (c 10), wLine K (AA 12) (AA 2 0) (c 11), wLine K (AA 13) (AA 2 0) (c 12), wLine K (AA 14) (AA 2 0) (c 13), wLine K (AA 15) (AA 2 0) (c 14), wLine K (AA 16) (AA 2 0) (c 15), wModel K aM (zm.2) ML, wOut K aO O]) hP hD hS hA [17] [0, 1, 2, 3, 4, 5, 6, 7, 8, 9, 10, 11, 12, 13, 14, 15, 16, 18] [0, 1, 2, 3, 4, 5, 6, 7, 8, 9, 10, 11, 12, 13, 14, 15, 16, 18, 17] 19 rfl rfl (by decide) rfl rfl (by decide) (fun hPc hDc hFc => va_runV (As := [.int (xs (nI (6 * j) + 1).toNatClampNeg)]) (rest := [.int zx]) C0.1 (ctX6_now l D K aM M ML (xs (nI (6 * j) + 1).toNatClampNeg) H.size zm hzm) (cwV 1 C0.1.2.2.2.2 (gdVB wsL_law_in0 wd21_8 wd21_9 wd21_10 wd1_5 wd21_11) rfl rfl rfl (by decide +kernel) ⟨Nat.le_of_ble_eq_true rfl, Nat.le_of_ble_eq_true rfl⟩) ⟨pcW_blind, va_recv C0.2.2.2.1 hPc (ci := 6) (q0 := 0) rfl rfl, pcW_of hPc hDc C0.2.2.2⟩ rfl rfl hl.1 rfl (lv_room (Nat.le_of_ble_eq_true rfl)) dL_law_281 ⟨hcc, hss⟩) (fun H locs hP hD hS => ?_)
    refine lv_icmp_eq (tgt := 792) C0.1.1 C0.1.2.1 dL_law_284 (by decide) (fun _ => ?_) (fun c9 => absurd heq c9)
    refine lv_iinc (v := nI (6 * (j + 1))) (lv' := [(4, .int (nI (6 * (j + 1)))), (0, .ref b), (1, .ref (AA 0 0)), (2, .ref (aM 0)), (3, .ref aO)]) C0.1.1 C0.1.2.1 dL_law_792 hl (k := 4) rfl (nI6 j) (by decide) rfl (fun ls hl => ?_)
    refine r_goto C0 23 dL_law_795 (by decide) ?_
    refine W.widen (k := 1000 + (j + 1)) (n := 200000 + 6 * (j + 1)) (by omega) (by omega) ?_
    exact kk c FL (zm.2) ML O H locs ls hrel hP hD hS (lv_sub hl [1, 2, 3, 4, 0] rfl)
set_option maxHeartbeats 4000000 in
set_option maxRecDepth 20000 in
theorem law_case5 {p : Program} {l : Launch} {e : Env} {s : State} {m : MethodId} {below : List Frame} {meth : Method} {cd : Code} {D : va_G} {K : Nat → ClassId} {b L : Nat} {xs : Nat → Int32} {Q : State → Prop} (hL : L ≤ 3072) (C0 : cx p s m #[Value.ref b] meth cd code 7 RL lw_tbl ret D K) (hX : va_X b L xs s s.heap) (hbl : b < s.heap.size) (hl0 : l.stackTraces = false) {adK adV adN : Nat → Nat} (hE : SK adK adV (fun q : Nat => s.heap.size ≤ q) s s.heap) (hT : thK adN (fun q : Nat => s.heap.size ≤ q) s s.heap) {AA : Nat → Nat → Nat} {gH : Nat → Option Nat} {aM : Nat → Nat} {aO : Nat} (hG : gHok gH (AA 9) (AA 10) (AA 11) (AA 12) (AA 13) (AA 14) (AA 15) (AA 16)) {N : Nat} {Rel : (Nat → Rc) → RcL → Rc → RcL → Prop} (sp5 : SP5 N Rel) (j : Nat) (hj : 6 * j + 6 ≤ L) (c : Nat → Rc) (FL : RcL) (M : Rc) (ML : RcL) (O : Nat → Int64) (H : Heap) (locs : List Loc) (ls : Array Slot) (hrel : Rel c FL M ML) (hP : va_P D vwCl (fl (lawW K AA gH aM aO c FL M ML O)) H) (hD : va_D (fun q : Nat => s.heap.size ≤ q) (fl (lawW K AA gH aM aO c FL M ML O))) (hS : va_S (fun q : Nat => s.heap.size ≤ q) s.heap H locs) (hl : lv_has ls 7 [(0, .ref b), (1, .ref (AA 0 0)), (2, .ref (aM 0)), (3, .ref aO), (4, .int (nI (6 * j)))]) (kk : ∀ (c : Nat → Rc) (FL : RcL) (M : Rc) (ML : RcL) (O : Nat → Int64) (H : Heap) (locs : List Loc) (ls : Array Slot), Rel c FL M ML → va_P D vwCl (fl (lawW K AA gH aM aO c FL M ML O)) H → va_D (fun q : Nat => s.heap.size ≤ q) (fl (lawW K AA gH aM aO c FL M ML O)) → va_S (fun q : Nat => s.heap.size ≤ q) s.heap H locs → lv_has ls 7 [(0, .ref b), (1, .ref (AA 0 0)), (2, .ref (aM 0)), (3, .ref aO), (4, .int (nI (6 * (j + 1))))] → W p l e room_1 s m #[Value.ref b] below meth cd H locs (1000 + (j + 1)) (200000 + 6 * (j + 1)) Q (F0 m 23 ls [])) : W p l e room_1 s m #[Value.ref b] below meth cd H locs (1000 + j) (200000 + 6 * j) Q (F0 m 289 ls []) := by
    have hx := C0.1.1
    have hb := C0.1.2.1
    have hA : ∀ q : Nat, s.heap.size ≤ q → (fun q : Nat => s.heap.size ≤ q) q := fun _ h => h
    have hbA : ¬ (fun q : Nat => s.heap.size ≤ q) b := Nat.not_le.mpr hbl
    have hcc : 1000 + j + 0 ≤ room_1.cells := by show 1000 + j + 0 ≤ 601024; omega
    have hss : 200000 + 6 * j + 0 ≤ room_1.slots := by show 200000 + 6 * j + 0 ≤ 7293034; omega
    have hcc1 : 1000 + j + 1 ≤ room_1.cells := by show 1000 + j + 1 ≤ 601024; omega
    have hss1 : 200000 + 6 * j + 6 ≤ room_1.slots := by show 200000 + 6 * j + 6 ≤ 7293034; omega
    have hi1 : vp_in (nI (6 * j) + 1) L := hi_in (k := 1) (by decide) hj hL
    have hi2 : vp_in (nI (6 * j) + 2) L := hi_in (k := 2) (by decide) hj hL
    have hi3 : vp_in (nI (6 * j) + 3) L := hi_in (k := 3) (by decide) hj hL
    have hi4 : vp_in (nI (6 * j) + 4) L := hi_in (k := 4) (by decide) hj hL
    have hi5 : vp_in (nI (6 * j) + 5) L := hi_in (k := 5) (by decide) hj hL
    obtain ⟨zx, zm, hzx, hzm, hzt, heq, hrel⟩ := sp5 c FL M ML hrel (xs (nI (6 * j) + 1).toNatClampNeg) (xs (nI (6 * j) + 2).toNatClampNeg)
    refine r_aload_n C0 dL_law_289 hl 1 rfl ?_
    refine r_aload_n C0 dL_law_290 hl 0 rfl ?_
    refine r_iload C0 dL_law_291 hl 4 rfl ?_
    refine r_iconst C0 1 dL_law_293 (by decide) ?_
    refine r_iadd C0 dL_law_294 ?_
    refine va_sld hx hb hX hbl hbA hS hi1 dL_law_295 ?_
    refine r_aload_n C0 dL_law_296 hl 0 rfl ?_
    refine r_iload C0 dL_law_297 hl 4 rfl ?_
    refine r_iconst C0 2 dL_law_299 (by decide) ?_
    refine r_iadd C0 dL_law_300 ?_
    refine va_sld hx hb hX hbl hbA hS hi2 dL_law_301 ?_
    refine r_aload_n C0 dL_law_302 hl 3 rfl ?_
    refine r_callICm (z := (stK zx, stO zx O)) (Wc := [wCard K (AA 0) (AA 1 0) (AA 2 0) (AA 4 0) (AA 6 0) (AA 3 0) (AA 7 0) (AA 8 0) (c 0), wPlan K (AA 2) (c 1), wLine K (AA 6) (AA 2 0) (c 5), wOut K aO O]) (wf := fun (u : Nat → Int64) => [wCard K (AA 0) (AA 1 0) (AA 2 0) (AA 4 0) (AA 6 0) (AA 3 0) (AA 7 0) (AA 8 0) (c 0), wPlan K (AA 2) (c 1), wLine K (AA 6) (AA 2 0) (c 5), wOut K aO u]) (Wn := [wCard K (AA 0) (AA 1 0) (AA 2 0) (AA 4 0) (AA 6 0) (AA 3 0) (AA 7 0) (AA 8 0) (c 0), wArr K (AA 1 0) 440 (c 16 0), wPlan K (AA 2) (c 1), wLine K (AA 3) (AA 2 0) (c 2), wReader K (AA 4) (AA 5 0) (AA 1 0) (c 3), wPlan K (AA 5) (c 4), wLine K (AA 6) (AA 2 0) (c 5), wFinder K (AA 7) (AA 3 0) (c 6) FL, wHist K (AA 8) gH (c 7), wLine K (AA 9) (AA 2 0) (c 8), wLine K (AA 10) (AA 2 0) (c 9), wLine K (AA 11) (AA 2 0) (c 10), wLine K (AA 12) (AA 2 0) (c 11), wLine K (AA 13) (AA 2 0) (c 12), wLine K (AA 14) (AA 2 0) (c 13), wLine K (AA 15) (AA 2 0) (c 14), wLine K (AA 16) (AA 2 0) (c 15), wModel K aM M ML, wOut K aO (stO zx O)]) hP hD hS hA [0, 2, 6, 18] [1, 3, 4, 5, 7, 8, 9, 10, 11, 12, 13, 14, 15, 16, 17] [15, 0, 16, 1, 2, 3, 17, 4, 5, 6, 7, 8, 9, 10, 11, 12, 13, 14, 18] 19 rfl rfl (by decide) rfl rfl (by decide) (fun hPc hDc hFc => vx_runSW (As := [.ref (AA 0 0), .int (xs (nI (6 * j) + 1).toNatClampNeg), .int (xs (nI (6 * j) + 2).toNatClampNeg), .ref aO]) (rest := []) C0.1 (ctL_station l hl0 D K (AA 0) (AA 2) (AA 6) adN (AA 1 0) (AA 4 0) (AA 3 0) (AA 7 0) (AA 8 0) aO (c 0) (c 1) (c 5) O (xs (nI (6 * j) + 1).toNatClampNeg) (xs (nI (6 * j) + 2).toNatClampNeg) H.size zx hzx) (vx_cwSW 4 C0.1.2.2.2.2 gdLst rfl rfl rfl (by decide +kernel) ⟨Nat.le_of_ble_eq_true rfl, Nat.le_of_ble_eq_true rfl⟩) ⟨pcX_blind, pcX_of hPc hDc C0.2.2.2 ((hT.kept hS.2.1).narrow hFc)⟩ rfl rfl hl.1 rfl (lv_room (Nat.le_of_ble_eq_true rfl)) dL_law_303 ⟨hcc1, hss1⟩) (fun H locs hP hD hS => ?_)
    refine lv_istore (lv' := [(5, .int (stK zx)), (0, .ref b), (1, .ref (AA 0 0)), (2, .ref (aM 0)), (3, .ref aO), (4, .int (nI (6 * j)))]) C0.1.1 C0.1.2.1 dL_law_306 hl (by decide) rfl (fun ls hl => ?_)
    refine r_aload_n C0 dL_law_308 hl 3 rfl ?_
    refine r_aload_n C0 dL_law_309 hl 1 rfl ?_
    refine r_iload C0 dL_law_310 hl 5 rfl ?_
    refine r_iconst C0 1 dL_law_312 (by decide) ?_
    refine r_iadd C0 dL_law_313 ?_
    refine va_sld hx hb hX hbl hbA hS hi1 dL_law_314 ?_
    refine r_aload_n C0 dL_law_315 hl 1 rfl ?_
    refine r_iload C0 dL_law_316 hl 5 rfl ?_
    refine r_iconst C0 2 dL_law_318 (by decide) ?_
    refine r_iadd C0 dL_law_319 ?_
    refine va_sld hx hb hX hbl hbA hS hi2 dL_law_320 ?_
    have hcc := hcc1; have hss := hss1
    refine r_callIC (Wc := [wModel K aM M ML]) (wf := fun (u : Rc) => [wModel K aM u ML]) (Wn := [wCard K (AA 0) (AA 1 0) (AA 2 0) (AA 4 0) (AA 6 0) (AA 3 0) (AA 7 0) (AA 8 0) (c 0), wArr K (AA 1 0) 440 (c 16 0), wPlan K (AA 2) (c 1), wLine K (AA 3) (AA 2 0) (c 2), wReader K (AA 4) (AA 5 0) (AA 1 0) (c 3), wPlan K (AA 5) (c 4), wLine K (AA 6) (AA 2 0) (c 5), wFinder K (AA 7) (AA 3 0) (c 6) FL, wHist K (AA 8) gH (c 7), wLine K (AA 9) (AA 2 0) (c 8), wLine K (AA 10) (AA 2 0) (c 9), wLine K (AA 11) (AA 2 0) (c 10), wLine K (AA 12) (AA 2 0) (c 11), wLine K (AA 13) (AA 2 0) (c 12), wLine K (AA 14) (AA 2 0) (c 13), wLine K (AA 15) (AA 2 0) (c 14), wLine K (AA 16) (AA 2 0) (c 15), wModel K aM (zm.2) ML, wOut K aO (stO zx O)]) hP hD hS hA [17] [0, 1, 2, 3, 4, 5, 6, 7, 8, 9, 10, 11, 12, 13, 14, 15, 16, 18] [0, 1, 2, 3, 4, 5, 6, 7, 8, 9, 10, 11, 12, 13, 14, 15, 16, 18, 17] 19 rfl rfl (by decide) rfl rfl (by decide) (fun hPc hDc hFc => va_runV (As := [.int (xs (nI (6 * j) + 1).toNatClampNeg), .int (xs (nI (6 * j) + 2).toNatClampNeg)]) (rest := []) C0.1 (ctX6_station l D K aM M ML (xs (nI (6 * j) + 1).toNatClampNeg) (xs (nI (6 * j) + 2).toNatClampNeg) H.size zm hzm) (cwV 2 C0.1.2.2.2.2 (gdVB wsL_law_in0 wd22_17 wd22_18 wd22_19 wd1_5 wd22_20) rfl rfl rfl (by decide +kernel) ⟨Nat.le_of_ble_eq_true rfl, Nat.le_of_ble_eq_true rfl⟩) ⟨pcW_blind, va_recv C0.2.2.2.1 hPc (ci := 6) (q0 := 0) rfl rfl, pcW_of hPc hDc C0.2.2.2⟩ rfl rfl hl.1 rfl (lv_room (Nat.le_of_ble_eq_true rfl)) dL_law_321 ⟨hcc, hss⟩) (fun H locs hP hD hS => ?_)
    refine lv_istore (lv' := [(6, .int zm.1), (5, .int (stK zx)), (0, .ref b), (1, .ref (AA 0 0)), (2, .ref (aM 0)), (3, .ref aO), (4, .int (nI (6 * j)))]) C0.1.1 C0.1.2.1 dL_law_324 hl (by decide) rfl (fun ls hl => ?_)
    refine r_aload_n C0 dL_law_326 hl 4 rfl ?_
    have hPc := vaP_sel (Wc := [wModel K aM (zm.2) ML]) hP [17] rfl
    refine r_cI (va_runV (As := []) (rest := []) C0.1 (ctX6_thrown l D K aM (zm.2) ML (stK zx) hzt) (cwV 0 C0.1.2.2.2.2 (gdVB wsL_law_in0 wd23_4 wd23_5 wd23_6 wd1_5 wd23_7) rfl rfl rfl (by decide +kernel) ⟨Nat.le_of_ble_eq_true rfl, Nat.le_of_ble_eq_true rfl⟩) ⟨pcR_blind, va_recv C0.2.2.2.1 hPc (ci := 6) (q0 := 0) rfl rfl, pcR_of hPc C0.2.2.2⟩ rfl rfl hl.1 rfl (lv_room (Nat.le_of_ble_eq_true rfl)) dL_law_327 ⟨hcc, hss⟩).run ?_
    refine r_iload C0 dL_law_330 hl 1 rfl ?_
    refine lv_icmp_eq (tgt := 337) C0.1.1 C0.1.2.1 dL_law_332 (by decide) (fun _ => ?_) (fun c9 => absurd rfl c9)
    refine r_iload C0 dL_law_337 hl 1 rfl ?_
    refine lv_if_ne (tgt := 354) C0.1.1 C0.1.2.1 dL_law_339 (by decide) (fun _ => ?_) (fun c9 => ?_)
    · refine r_goto C0 792 dL_law_354 (by decide) ?_
      refine lv_iinc (v := nI (6 * (j + 1))) (lv' := [(4, .int (nI (6 * (j + 1)))), (6, .int zm.1), (5, .int (stK zx)), (0, .ref b), (1, .ref (AA 0 0)), (2, .ref (aM 0)), (3, .ref aO)]) C0.1.1 C0.1.2.1 dL_law_792 hl (k := 6) rfl (nI6 j) (by decide) rfl (fun ls hl => ?_)
      refine r_goto C0 23 dL_law_795 (by decide) ?_
      refine W.widen (k := 1000 + (j + 1)) (n := 200000 + 6 * (j + 1)) (by omega) (by omega) ?_
      exact kk c FL (zm.2) ML (stO zx O) H locs ls hrel hP hD hS (lv_sub hl [3, 4, 5, 6, 0] rfl)
    · refine r_aload_n C0 dL_law_342 hl 5 rfl ?_
      refine r_iconst C0 0 dL_law_343 (by decide) ?_
      refine va_lald C0.1.1 C0.1.2.1 C0.2.2.2.1 hP 107 1 rfl rfl (by unfold vp_in; decide) dL_law_344 ?_
      refine r_iload C0 dL_law_345 hl 0 rfl ?_
      refine r_i2l C0 dL_law_347 ?_
      refine r_lcmp C0 dL_law_348 ?_
      refine lv_if_eq (tgt := 354) C0.1.1 C0.1.2.1 dL_law_349 (by decide) (fun _ => ?_) (fun c8 => absurd (st_cmp heq c9) c8)
      refine r_goto C0 792 dL_law_354 (by decide) ?_
      refine lv_iinc (v := nI (6 * (j + 1))) (lv' := [(4, .int (nI (6 * (j + 1)))), (6, .int zm.1), (5, .int (stK zx)), (0, .ref b), (1, .ref (AA 0 0)), (2, .ref (aM 0)), (3, .ref aO)]) C0.1.1 C0.1.2.1 dL_law_792 hl (k := 6) rfl (nI6 j) (by decide) rfl (fun ls hl => ?_)
      refine r_goto C0 23 dL_law_795 (by decide) ?_
      refine W.widen (k := 1000 + (j + 1)) (n := 200000 + 6 * (j + 1)) (by omega) (by omega) ?_
      exact kk c FL (zm.2) ML (stO zx O) H locs ls hrel hP hD hS (lv_sub hl [3, 4, 5, 6, 0] rfl)
set_option maxHeartbeats 4000000 in
set_option maxRecDepth 20000 in
theorem law_case6 {p : Program} {l : Launch} {e : Env} {s : State} {m : MethodId} {below : List Frame} {meth : Method} {cd : Code} {D : va_G} {K : Nat → ClassId} {b L : Nat} {xs : Nat → Int32} {Q : State → Prop} (hL : L ≤ 3072) (C0 : cx p s m #[Value.ref b] meth cd code 7 RL lw_tbl ret D K) (hX : va_X b L xs s s.heap) (hbl : b < s.heap.size) (hl0 : l.stackTraces = false) {adK adV adN : Nat → Nat} (hE : SK adK adV (fun q : Nat => s.heap.size ≤ q) s s.heap) (hT : thK adN (fun q : Nat => s.heap.size ≤ q) s s.heap) {AA : Nat → Nat → Nat} {gH : Nat → Option Nat} {aM : Nat → Nat} {aO : Nat} (hG : gHok gH (AA 9) (AA 10) (AA 11) (AA 12) (AA 13) (AA 14) (AA 15) (AA 16)) {N : Nat} {Rel : (Nat → Rc) → RcL → Rc → RcL → Prop} (sp6 : SP6 N Rel) (j : Nat) (hj : 6 * j + 6 ≤ L) (c : Nat → Rc) (FL : RcL) (M : Rc) (ML : RcL) (O : Nat → Int64) (H : Heap) (locs : List Loc) (ls : Array Slot) (hrel : Rel c FL M ML) (hP : va_P D vwCl (fl (lawW K AA gH aM aO c FL M ML O)) H) (hD : va_D (fun q : Nat => s.heap.size ≤ q) (fl (lawW K AA gH aM aO c FL M ML O))) (hS : va_S (fun q : Nat => s.heap.size ≤ q) s.heap H locs) (hl : lv_has ls 7 [(0, .ref b), (1, .ref (AA 0 0)), (2, .ref (aM 0)), (3, .ref aO), (4, .int (nI (6 * j)))]) (kk : ∀ (c : Nat → Rc) (FL : RcL) (M : Rc) (ML : RcL) (O : Nat → Int64) (H : Heap) (locs : List Loc) (ls : Array Slot), Rel c FL M ML → va_P D vwCl (fl (lawW K AA gH aM aO c FL M ML O)) H → va_D (fun q : Nat => s.heap.size ≤ q) (fl (lawW K AA gH aM aO c FL M ML O)) → va_S (fun q : Nat => s.heap.size ≤ q) s.heap H locs → lv_has ls 7 [(0, .ref b), (1, .ref (AA 0 0)), (2, .ref (aM 0)), (3, .ref aO), (4, .int (nI (6 * (j + 1))))] → W p l e room_1 s m #[Value.ref b] below meth cd H locs (1000 + (j + 1)) (200000 + 6 * (j + 1)) Q (F0 m 23 ls [])) : W p l e room_1 s m #[Value.ref b] below meth cd H locs (1000 + j) (200000 + 6 * j) Q (F0 m 357 ls []) := by
    have hx := C0.1.1
    have hb := C0.1.2.1
    have hA : ∀ q : Nat, s.heap.size ≤ q → (fun q : Nat => s.heap.size ≤ q) q := fun _ h => h
    have hbA : ¬ (fun q : Nat => s.heap.size ≤ q) b := Nat.not_le.mpr hbl
    have hcc : 1000 + j + 0 ≤ room_1.cells := by show 1000 + j + 0 ≤ 601024; omega
    have hss : 200000 + 6 * j + 0 ≤ room_1.slots := by show 200000 + 6 * j + 0 ≤ 7293034; omega
    have hcc1 : 1000 + j + 1 ≤ room_1.cells := by show 1000 + j + 1 ≤ 601024; omega
    have hss1 : 200000 + 6 * j + 6 ≤ room_1.slots := by show 200000 + 6 * j + 6 ≤ 7293034; omega
    have hi1 : vp_in (nI (6 * j) + 1) L := hi_in (k := 1) (by decide) hj hL
    have hi2 : vp_in (nI (6 * j) + 2) L := hi_in (k := 2) (by decide) hj hL
    have hi3 : vp_in (nI (6 * j) + 3) L := hi_in (k := 3) (by decide) hj hL
    have hi4 : vp_in (nI (6 * j) + 4) L := hi_in (k := 4) (by decide) hj hL
    have hi5 : vp_in (nI (6 * j) + 5) L := hi_in (k := 5) (by decide) hj hL
    obtain ⟨zx, zm, hzx, hzm, heq, hrel⟩ := sp6 c FL M ML hrel (xs (nI (6 * j) + 1).toNatClampNeg) (xs (nI (6 * j) + 2).toNatClampNeg)
    refine r_aload_n C0 dL_law_357 hl 1 rfl ?_
    refine r_aload_n C0 dL_law_358 hl 0 rfl ?_
    refine r_iload C0 dL_law_359 hl 4 rfl ?_
    refine r_iconst C0 1 dL_law_361 (by decide) ?_
    refine r_iadd C0 dL_law_362 ?_
    refine va_sld hx hb hX hbl hbA hS hi1 dL_law_363 ?_
    refine r_aload_n C0 dL_law_364 hl 0 rfl ?_
    refine r_iload C0 dL_law_365 hl 4 rfl ?_
    refine r_iconst C0 2 dL_law_367 (by decide) ?_
    refine r_iadd C0 dL_law_368 ?_
    refine va_sld hx hb hX hbl hbA hS hi2 dL_law_369 ?_
    have hPc := vaP_sel (Wc := [wCard K (AA 0) (AA 1 0) (AA 2 0) (AA 4 0) (AA 6 0) (AA 3 0) (AA 7 0) (AA 8 0) (c 0), wPlan K (AA 2) (c 1), wLine K (AA 6) (AA 2 0) (c 5)]) hP [0, 2, 6] rfl
    refine r_cI (va_runV (As := [.int (xs (nI (6 * j) + 1).toNatClampNeg), .int (xs (nI (6 * j) + 2).toNatClampNeg)]) (rest := []) C0.1 (ctX5_waits l D K (AA 0) (AA 2) (AA 6) (AA 1 0) (AA 4 0) (AA 3 0) (AA 7 0) (AA 8 0) (c 0) (c 1) (c 5) (xs (nI (6 * j) + 1).toNatClampNeg) (xs (nI (6 * j) + 2).toNatClampNeg) zx hzx) (cwV 2 C0.1.2.2.2.2 (gdVB wsL_law_in0 wd23_8 wd23_9 wd23_10 wd1_2 wd23_11) rfl rfl rfl (by decide +kernel) ⟨Nat.le_of_ble_eq_true rfl, Nat.le_of_ble_eq_true rfl⟩) ⟨pcR_blind, va_recv C0.2.2.2.1 hPc (ci := 5) (q0 := 0) rfl rfl, pcR_of hPc C0.2.2.2⟩ rfl rfl hl.1 rfl (lv_room (Nat.le_of_ble_eq_true rfl)) dL_law_370 ⟨hcc, hss⟩).run ?_
    refine r_aload_n C0 dL_law_373 hl 2 rfl ?_
    refine r_aload_n C0 dL_law_374 hl 0 rfl ?_
    refine r_iload C0 dL_law_375 hl 4 rfl ?_
    refine r_iconst C0 1 dL_law_377 (by decide) ?_
    refine r_iadd C0 dL_law_378 ?_
    refine va_sld hx hb hX hbl hbA hS hi1 dL_law_379 ?_
    refine r_aload_n C0 dL_law_380 hl 0 rfl ?_
    refine r_iload C0 dL_law_381 hl 4 rfl ?_
    refine r_iconst C0 2 dL_law_383 (by decide) ?_
    refine r_iadd C0 dL_law_384 ?_
    refine va_sld hx hb hX hbl hbA hS hi2 dL_law_385 ?_
    refine r_callIC (Wc := [wModel K aM M ML]) (wf := fun (u : Rc) => [wModel K aM u ML]) (Wn := [wCard K (AA 0) (AA 1 0) (AA 2 0) (AA 4 0) (AA 6 0) (AA 3 0) (AA 7 0) (AA 8 0) (c 0), wArr K (AA 1 0) 440 (c 16 0), wPlan K (AA 2) (c 1), wLine K (AA 3) (AA 2 0) (c 2), wReader K (AA 4) (AA 5 0) (AA 1 0) (c 3), wPlan K (AA 5) (c 4), wLine K (AA 6) (AA 2 0) (c 5), wFinder K (AA 7) (AA 3 0) (c 6) FL, wHist K (AA 8) gH (c 7), wLine K (AA 9) (AA 2 0) (c 8), wLine K (AA 10) (AA 2 0) (c 9), wLine K (AA 11) (AA 2 0) (c 10), wLine K (AA 12) (AA 2 0) (c 11), wLine K (AA 13) (AA 2 0) (c 12), wLine K (AA 14) (AA 2 0) (c 13), wLine K (AA 15) (AA 2 0) (c 14), wLine K (AA 16) (AA 2 0) (c 15), wModel K aM (zm.2) ML, wOut K aO O]) hP hD hS hA [17] [0, 1, 2, 3, 4, 5, 6, 7, 8, 9, 10, 11, 12, 13, 14, 15, 16, 18] [0, 1, 2, 3, 4, 5, 6, 7, 8, 9, 10, 11, 12, 13, 14, 15, 16, 18, 17] 19 rfl rfl (by decide) rfl rfl (by decide) (fun hPc hDc hFc => va_runV (As := [.int (xs (nI (6 * j) + 1).toNatClampNeg), .int (xs (nI (6 * j) + 2).toNatClampNeg)]) (rest := [.int zx]) C0.1 (ctX6_waits_ l D K aM M ML (xs (nI (6 * j) + 1).toNatClampNeg) (xs (nI (6 * j) + 2).toNatClampNeg) H.size zm hzm) (cwV 2 C0.1.2.2.2.2 (gdVB wsL_law_in0 wd23_14 wd23_15 wd23_16 wd1_5 wd23_17) rfl rfl rfl (by decide +kernel) ⟨Nat.le_of_ble_eq_true rfl, Nat.le_of_ble_eq_true rfl⟩) ⟨pcW_blind, va_recv C0.2.2.2.1 hPc (ci := 6) (q0 := 0) rfl rfl, pcW_of hPc hDc C0.2.2.2⟩ rfl rfl hl.1 rfl (lv_room (Nat.le_of_ble_eq_true rfl)) dL_law_386 ⟨hcc, hss⟩) (fun H locs hP hD hS => ?_)
    refine lv_icmp_eq (tgt := 792) C0.1.1 C0.1.2.1 dL_law_389 (by decide) (fun _ => ?_) (fun c9 => absurd heq c9)
    refine lv_iinc (v := nI (6 * (j + 1))) (lv' := [(4, .int (nI (6 * (j + 1)))), (0, .ref b), (1, .ref (AA 0 0)), (2, .ref (aM 0)), (3, .ref aO)]) C0.1.1 C0.1.2.1 dL_law_792 hl (k := 4) rfl (nI6 j) (by decide) rfl (fun ls hl => ?_)
    refine r_goto C0 23 dL_law_795 (by decide) ?_
    refine W.widen (k := 1000 + (j + 1)) (n := 200000 + 6 * (j + 1)) (by omega) (by omega) ?_
    exact kk c FL (zm.2) ML O H locs ls hrel hP hD hS (lv_sub hl [1, 2, 3, 4, 0] rfl)
set_option maxHeartbeats 4000000 in
set_option maxRecDepth 20000 in
theorem law_case7 {p : Program} {l : Launch} {e : Env} {s : State} {m : MethodId} {below : List Frame} {meth : Method} {cd : Code} {D : va_G} {K : Nat → ClassId} {b L : Nat} {xs : Nat → Int32} {Q : State → Prop} (hL : L ≤ 3072) (C0 : cx p s m #[Value.ref b] meth cd code 7 RL lw_tbl ret D K) (hX : va_X b L xs s s.heap) (hbl : b < s.heap.size) (hl0 : l.stackTraces = false) {adK adV adN : Nat → Nat} (hE : SK adK adV (fun q : Nat => s.heap.size ≤ q) s s.heap) (hT : thK adN (fun q : Nat => s.heap.size ≤ q) s s.heap) {AA : Nat → Nat → Nat} {gH : Nat → Option Nat} {aM : Nat → Nat} {aO : Nat} (hG : gHok gH (AA 9) (AA 10) (AA 11) (AA 12) (AA 13) (AA 14) (AA 15) (AA 16)) {N : Nat} {Rel : (Nat → Rc) → RcL → Rc → RcL → Prop} (sp7 : SP7 N Rel) (j : Nat) (hj : 6 * j + 6 ≤ L) (c : Nat → Rc) (FL : RcL) (M : Rc) (ML : RcL) (O : Nat → Int64) (H : Heap) (locs : List Loc) (ls : Array Slot) (hrel : Rel c FL M ML) (hP : va_P D vwCl (fl (lawW K AA gH aM aO c FL M ML O)) H) (hD : va_D (fun q : Nat => s.heap.size ≤ q) (fl (lawW K AA gH aM aO c FL M ML O))) (hS : va_S (fun q : Nat => s.heap.size ≤ q) s.heap H locs) (hl : lv_has ls 7 [(0, .ref b), (1, .ref (AA 0 0)), (2, .ref (aM 0)), (3, .ref aO), (4, .int (nI (6 * j)))]) (kk : ∀ (c : Nat → Rc) (FL : RcL) (M : Rc) (ML : RcL) (O : Nat → Int64) (H : Heap) (locs : List Loc) (ls : Array Slot), Rel c FL M ML → va_P D vwCl (fl (lawW K AA gH aM aO c FL M ML O)) H → va_D (fun q : Nat => s.heap.size ≤ q) (fl (lawW K AA gH aM aO c FL M ML O)) → va_S (fun q : Nat => s.heap.size ≤ q) s.heap H locs → lv_has ls 7 [(0, .ref b), (1, .ref (AA 0 0)), (2, .ref (aM 0)), (3, .ref aO), (4, .int (nI (6 * (j + 1))))] → W p l e room_1 s m #[Value.ref b] below meth cd H locs (1000 + (j + 1)) (200000 + 6 * (j + 1)) Q (F0 m 23 ls [])) : W p l e room_1 s m #[Value.ref b] below meth cd H locs (1000 + j) (200000 + 6 * j) Q (F0 m 394 ls []) := by
    have hx := C0.1.1
    have hb := C0.1.2.1
    have hA : ∀ q : Nat, s.heap.size ≤ q → (fun q : Nat => s.heap.size ≤ q) q := fun _ h => h
    have hbA : ¬ (fun q : Nat => s.heap.size ≤ q) b := Nat.not_le.mpr hbl
    have hcc : 1000 + j + 0 ≤ room_1.cells := by show 1000 + j + 0 ≤ 601024; omega
    have hss : 200000 + 6 * j + 0 ≤ room_1.slots := by show 200000 + 6 * j + 0 ≤ 7293034; omega
    have hcc1 : 1000 + j + 1 ≤ room_1.cells := by show 1000 + j + 1 ≤ 601024; omega
    have hss1 : 200000 + 6 * j + 6 ≤ room_1.slots := by show 200000 + 6 * j + 6 ≤ 7293034; omega
    have hi1 : vp_in (nI (6 * j) + 1) L := hi_in (k := 1) (by decide) hj hL
    have hi2 : vp_in (nI (6 * j) + 2) L := hi_in (k := 2) (by decide) hj hL
    have hi3 : vp_in (nI (6 * j) + 3) L := hi_in (k := 3) (by decide) hj hL
    have hi4 : vp_in (nI (6 * j) + 4) L := hi_in (k := 4) (by decide) hj hL
    have hi5 : vp_in (nI (6 * j) + 5) L := hi_in (k := 5) (by decide) hj hL
    obtain ⟨zx, zm, hzx, hzm, heq, hrel⟩ := sp7 c FL M ML hrel (xs (nI (6 * j) + 1).toNatClampNeg) (xs (nI (6 * j) + 2).toNatClampNeg)
    refine r_aload_n C0 dL_law_394 hl 1 rfl ?_
    refine r_aload_n C0 dL_law_395 hl 0 rfl ?_
    refine r_iload C0 dL_law_396 hl 4 rfl ?_
    refine r_iconst C0 1 dL_law_398 (by decide) ?_
    refine r_iadd C0 dL_law_399 ?_
    refine va_sld hx hb hX hbl hbA hS hi1 dL_law_400 ?_
    refine r_aload_n C0 dL_law_401 hl 0 rfl ?_
    refine r_iload C0 dL_law_402 hl 4 rfl ?_
    refine r_iconst C0 2 dL_law_404 (by decide) ?_
    refine r_iadd C0 dL_law_405 ?_
    refine va_sld hx hb hX hbl hbA hS hi2 dL_law_406 ?_
    have hPc := vaP_sel (Wc := [wCard K (AA 0) (AA 1 0) (AA 2 0) (AA 4 0) (AA 6 0) (AA 3 0) (AA 7 0) (AA 8 0) (c 0), wPlan K (AA 2) (c 1), wLine K (AA 6) (AA 2 0) (c 5)]) hP [0, 2, 6] rfl
    refine r_cI (va_runV (As := [.int (xs (nI (6 * j) + 1).toNatClampNeg), .int (xs (nI (6 * j) + 2).toNatClampNeg)]) (rest := []) C0.1 (ctX5_loop l D K (AA 0) (AA 2) (AA 6) (AA 1 0) (AA 4 0) (AA 3 0) (AA 7 0) (AA 8 0) (c 0) (c 1) (c 5) (xs (nI (6 * j) + 1).toNatClampNeg) (xs (nI (6 * j) + 2).toNatClampNeg) zx hzx) (cwV 2 C0.1.2.2.2.2 (gdVB wsL_law_in0 wd23_18 wd23_19 wd23_20 wd1_2 wd23_21) rfl rfl rfl (by decide +kernel) ⟨Nat.le_of_ble_eq_true rfl, Nat.le_of_ble_eq_true rfl⟩) ⟨pcR_blind, va_recv C0.2.2.2.1 hPc (ci := 5) (q0 := 0) rfl rfl, pcR_of hPc C0.2.2.2⟩ rfl rfl hl.1 rfl (lv_room (Nat.le_of_ble_eq_true rfl)) dL_law_407 ⟨hcc, hss⟩).run ?_
    refine r_aload_n C0 dL_law_410 hl 2 rfl ?_
    refine r_aload_n C0 dL_law_411 hl 0 rfl ?_
    refine r_iload C0 dL_law_412 hl 4 rfl ?_
    refine r_iconst C0 1 dL_law_414 (by decide) ?_
    refine r_iadd C0 dL_law_415 ?_
    refine va_sld hx hb hX hbl hbA hS hi1 dL_law_416 ?_
    refine r_aload_n C0 dL_law_417 hl 0 rfl ?_
    refine r_iload C0 dL_law_418 hl 4 rfl ?_
    refine r_iconst C0 2 dL_law_420 (by decide) ?_
    refine r_iadd C0 dL_law_421 ?_
    refine va_sld hx hb hX hbl hbA hS hi2 dL_law_422 ?_
    refine r_callIC (Wc := [wModel K aM M ML]) (wf := fun (u : Rc) => [wModel K aM u ML]) (Wn := [wCard K (AA 0) (AA 1 0) (AA 2 0) (AA 4 0) (AA 6 0) (AA 3 0) (AA 7 0) (AA 8 0) (c 0), wArr K (AA 1 0) 440 (c 16 0), wPlan K (AA 2) (c 1), wLine K (AA 3) (AA 2 0) (c 2), wReader K (AA 4) (AA 5 0) (AA 1 0) (c 3), wPlan K (AA 5) (c 4), wLine K (AA 6) (AA 2 0) (c 5), wFinder K (AA 7) (AA 3 0) (c 6) FL, wHist K (AA 8) gH (c 7), wLine K (AA 9) (AA 2 0) (c 8), wLine K (AA 10) (AA 2 0) (c 9), wLine K (AA 11) (AA 2 0) (c 10), wLine K (AA 12) (AA 2 0) (c 11), wLine K (AA 13) (AA 2 0) (c 12), wLine K (AA 14) (AA 2 0) (c 13), wLine K (AA 15) (AA 2 0) (c 14), wLine K (AA 16) (AA 2 0) (c 15), wModel K aM (zm.2) ML, wOut K aO O]) hP hD hS hA [17] [0, 1, 2, 3, 4, 5, 6, 7, 8, 9, 10, 11, 12, 13, 14, 15, 16, 18] [0, 1, 2, 3, 4, 5, 6, 7, 8, 9, 10, 11, 12, 13, 14, 15, 16, 18, 17] 19 rfl rfl (by decide) rfl rfl (by decide) (fun hPc hDc hFc => va_runV (As := [.int (xs (nI (6 * j) + 1).toNatClampNeg), .int (xs (nI (6 * j) + 2).toNatClampNeg)]) (rest := [.int zx]) C0.1 (ctX6_loop l D K aM M ML (xs (nI (6 * j) + 1).toNatClampNeg) (xs (nI (6 * j) + 2).toNatClampNeg) H.size zm hzm) (cwV 2 C0.1.2.2.2.2 (gdVB wsL_law_in0 wd24_6 wd24_7 wd24_8 wd1_5 wd24_9) rfl rfl rfl (by decide +kernel) ⟨Nat.le_of_ble_eq_true rfl, Nat.le_of_ble_eq_true rfl⟩) ⟨pcW_blind, va_recv C0.2.2.2.1 hPc (ci := 6) (q0 := 0) rfl rfl, pcW_of hPc hDc C0.2.2.2⟩ rfl rfl hl.1 rfl (lv_room (Nat.le_of_ble_eq_true rfl)) dL_law_423 ⟨hcc, hss⟩) (fun H locs hP hD hS => ?_)
    refine lv_icmp_eq (tgt := 792) C0.1.1 C0.1.2.1 dL_law_426 (by decide) (fun _ => ?_) (fun c9 => absurd heq c9)
    refine lv_iinc (v := nI (6 * (j + 1))) (lv' := [(4, .int (nI (6 * (j + 1)))), (0, .ref b), (1, .ref (AA 0 0)), (2, .ref (aM 0)), (3, .ref aO)]) C0.1.1 C0.1.2.1 dL_law_792 hl (k := 4) rfl (nI6 j) (by decide) rfl (fun ls hl => ?_)
    refine r_goto C0 23 dL_law_795 (by decide) ?_
    refine W.widen (k := 1000 + (j + 1)) (n := 200000 + 6 * (j + 1)) (by omega) (by omega) ?_
    exact kk c FL (zm.2) ML O H locs ls hrel hP hD hS (lv_sub hl [1, 2, 3, 4, 0] rfl)
set_option maxHeartbeats 4000000 in
set_option maxRecDepth 20000 in
theorem law_case8 {p : Program} {l : Launch} {e : Env} {s : State} {m : MethodId} {below : List Frame} {meth : Method} {cd : Code} {D : va_G} {K : Nat → ClassId} {b L : Nat} {xs : Nat → Int32} {Q : State → Prop} (hL : L ≤ 3072) (C0 : cx p s m #[Value.ref b] meth cd code 7 RL lw_tbl ret D K) (hX : va_X b L xs s s.heap) (hbl : b < s.heap.size) (hl0 : l.stackTraces = false) {adK adV adN : Nat → Nat} (hE : SK adK adV (fun q : Nat => s.heap.size ≤ q) s s.heap) (hT : thK adN (fun q : Nat => s.heap.size ≤ q) s s.heap) {AA : Nat → Nat → Nat} {gH : Nat → Option Nat} {aM : Nat → Nat} {aO : Nat} (hG : gHok gH (AA 9) (AA 10) (AA 11) (AA 12) (AA 13) (AA 14) (AA 15) (AA 16)) {N : Nat} {Rel : (Nat → Rc) → RcL → Rc → RcL → Prop} (sp8 : SP8 N Rel) (j : Nat) (hj : 6 * j + 6 ≤ L) (c : Nat → Rc) (FL : RcL) (M : Rc) (ML : RcL) (O : Nat → Int64) (H : Heap) (locs : List Loc) (ls : Array Slot) (hrel : Rel c FL M ML) (hP : va_P D vwCl (fl (lawW K AA gH aM aO c FL M ML O)) H) (hD : va_D (fun q : Nat => s.heap.size ≤ q) (fl (lawW K AA gH aM aO c FL M ML O))) (hS : va_S (fun q : Nat => s.heap.size ≤ q) s.heap H locs) (hl : lv_has ls 7 [(0, .ref b), (1, .ref (AA 0 0)), (2, .ref (aM 0)), (3, .ref aO), (4, .int (nI (6 * j)))]) (kk : ∀ (c : Nat → Rc) (FL : RcL) (M : Rc) (ML : RcL) (O : Nat → Int64) (H : Heap) (locs : List Loc) (ls : Array Slot), Rel c FL M ML → va_P D vwCl (fl (lawW K AA gH aM aO c FL M ML O)) H → va_D (fun q : Nat => s.heap.size ≤ q) (fl (lawW K AA gH aM aO c FL M ML O)) → va_S (fun q : Nat => s.heap.size ≤ q) s.heap H locs → lv_has ls 7 [(0, .ref b), (1, .ref (AA 0 0)), (2, .ref (aM 0)), (3, .ref aO), (4, .int (nI (6 * (j + 1))))] → W p l e room_1 s m #[Value.ref b] below meth cd H locs (1000 + (j + 1)) (200000 + 6 * (j + 1)) Q (F0 m 23 ls [])) : W p l e room_1 s m #[Value.ref b] below meth cd H locs (1000 + j) (200000 + 6 * j) Q (F0 m 431 ls []) := by
    have hx := C0.1.1
    have hb := C0.1.2.1
    have hA : ∀ q : Nat, s.heap.size ≤ q → (fun q : Nat => s.heap.size ≤ q) q := fun _ h => h
    have hbA : ¬ (fun q : Nat => s.heap.size ≤ q) b := Nat.not_le.mpr hbl
    have hcc : 1000 + j + 0 ≤ room_1.cells := by show 1000 + j + 0 ≤ 601024; omega
    have hss : 200000 + 6 * j + 0 ≤ room_1.slots := by show 200000 + 6 * j + 0 ≤ 7293034; omega
    have hcc1 : 1000 + j + 1 ≤ room_1.cells := by show 1000 + j + 1 ≤ 601024; omega
    have hss1 : 200000 + 6 * j + 6 ≤ room_1.slots := by show 200000 + 6 * j + 6 ≤ 7293034; omega
    have hi1 : vp_in (nI (6 * j) + 1) L := hi_in (k := 1) (by decide) hj hL
    have hi2 : vp_in (nI (6 * j) + 2) L := hi_in (k := 2) (by decide) hj hL
    have hi3 : vp_in (nI (6 * j) + 3) L := hi_in (k := 3) (by decide) hj hL
    have hi4 : vp_in (nI (6 * j) + 4) L := hi_in (k := 4) (by decide) hj hL
    have hi5 : vp_in (nI (6 * j) + 5) L := hi_in (k := 5) (by decide) hj hL
    obtain ⟨zx, zm, hzx, hzm, heq, hrel⟩ := sp8 c FL M ML hrel (xs (nI (6 * j) + 1).toNatClampNeg)
    refine r_aload_n C0 dL_law_431 hl 1 rfl ?_
    refine r_aload_n C0 dL_law_432 hl 0 rfl ?_
    refine r_iload C0 dL_law_433 hl 4 rfl ?_
    refine r_iconst C0 1 dL_law_435 (by decide) ?_
    refine r_iadd C0 dL_law_436 ?_
    refine va_sld hx hb hX hbl hbA hS hi1 dL_law_437 ?_
    have hPc := vaP_sel (Wc := [wCard K (AA 0) (AA 1 0) (AA 2 0) (AA 4 0) (AA 6 0) (AA 3 0) (AA 7 0) (AA 8 0) (c 0), wPlan K (AA 2) (c 1), wLine K (AA 6) (AA 2 0) (c 5)]) hP [0, 2, 6] rfl
    refine r_cI (va_runV (As := [.int (xs (nI (6 * j) + 1).toNatClampNeg)]) (rest := []) C0.1 (ctX5_next l D K (AA 0) (AA 2) (AA 6) (AA 1 0) (AA 4 0) (AA 3 0) (AA 7 0) (AA 8 0) (c 0) (c 1) (c 5) (xs (nI (6 * j) + 1).toNatClampNeg) zx hzx) (cwV 1 C0.1.2.2.2.2 (gdVB wsL_law_in0 wd24_14 wd24_15 wd24_16 wd1_2 wd24_17) rfl rfl rfl (by decide +kernel) ⟨Nat.le_of_ble_eq_true rfl, Nat.le_of_ble_eq_true rfl⟩) ⟨pcR_blind, va_recv C0.2.2.2.1 hPc (ci := 5) (q0 := 0) rfl rfl, pcR_of hPc C0.2.2.2⟩ rfl rfl hl.1 rfl (lv_room (Nat.le_of_ble_eq_true rfl)) dL_law_438 ⟨hcc, hss⟩).run ?_
    refine r_aload_n C0 dL_law_441 hl 2 rfl ?_
    refine r_aload_n C0 dL_law_442 hl 0 rfl ?_
    refine r_iload C0 dL_law_443 hl 4 rfl ?_
    refine r_iconst C0 1 dL_law_445 (by decide) ?_
    refine r_iadd C0 dL_law_446 ?_
    refine va_sld hx hb hX hbl hbA hS hi1 dL_law_447 ?_
    refine r_callIC (Wc := [wModel K aM M ML]) (wf := fun (u : Rc) => [wModel K aM u ML]) (Wn := [wCard K (AA 0) (AA 1 0) (AA 2 0) (AA 4 0) (AA 6 0) (AA 3 0) (AA 7 0) (AA 8 0) (c 0), wArr K (AA 1 0) 440 (c 16 0), wPlan K (AA 2) (c 1), wLine K (AA 3) (AA 2 0) (c 2), wReader K (AA 4) (AA 5 0) (AA 1 0) (c 3), wPlan K (AA 5) (c 4), wLine K (AA 6) (AA 2 0) (c 5), wFinder K (AA 7) (AA 3 0) (c 6) FL, wHist K (AA 8) gH (c 7), wLine K (AA 9) (AA 2 0) (c 8), wLine K (AA 10) (AA 2 0) (c 9), wLine K (AA 11) (AA 2 0) (c 10), wLine K (AA 12) (AA 2 0) (c 11), wLine K (AA 13) (AA 2 0) (c 12), wLine K (AA 14) (AA 2 0) (c 13), wLine K (AA 15) (AA 2 0) (c 14), wLine K (AA 16) (AA 2 0) (c 15), wModel K aM (zm.2) ML, wOut K aO O]) hP hD hS hA [17] [0, 1, 2, 3, 4, 5, 6, 7, 8, 9, 10, 11, 12, 13, 14, 15, 16, 18] [0, 1, 2, 3, 4, 5, 6, 7, 8, 9, 10, 11, 12, 13, 14, 15, 16, 18, 17] 19 rfl rfl (by decide) rfl rfl (by decide) (fun hPc hDc hFc => va_runV (As := [.int (xs (nI (6 * j) + 1).toNatClampNeg)]) (rest := [.int zx]) C0.1 (ctX6_next l D K N aM M ML (xs (nI (6 * j) + 1).toNatClampNeg) H.size zm hzm) (cwV 1 C0.1.2.2.2.2 (gdVB wsL_law_in0 wd24_22 wd24_23 wd25_0 wd1_5 wd25_1) rfl rfl rfl (by decide +kernel) ⟨Nat.le_of_ble_eq_true rfl, Nat.le_of_ble_eq_true rfl⟩) ⟨pcW_blind, va_recv C0.2.2.2.1 hPc (ci := 6) (q0 := 0) rfl rfl, pcW_of hPc hDc C0.2.2.2⟩ rfl rfl hl.1 rfl (lv_room (Nat.le_of_ble_eq_true rfl)) dL_law_448 ⟨hcc, hss⟩) (fun H locs hP hD hS => ?_)
    refine lv_icmp_eq (tgt := 792) C0.1.1 C0.1.2.1 dL_law_451 (by decide) (fun _ => ?_) (fun c9 => absurd heq c9)
    refine lv_iinc (v := nI (6 * (j + 1))) (lv' := [(4, .int (nI (6 * (j + 1)))), (0, .ref b), (1, .ref (AA 0 0)), (2, .ref (aM 0)), (3, .ref aO)]) C0.1.1 C0.1.2.1 dL_law_792 hl (k := 4) rfl (nI6 j) (by decide) rfl (fun ls hl => ?_)
    refine r_goto C0 23 dL_law_795 (by decide) ?_
    refine W.widen (k := 1000 + (j + 1)) (n := 200000 + 6 * (j + 1)) (by omega) (by omega) ?_
    exact kk c FL (zm.2) ML O H locs ls hrel hP hD hS (lv_sub hl [1, 2, 3, 4, 0] rfl)
set_option maxHeartbeats 4000000 in
set_option maxRecDepth 20000 in
theorem law_case9 {p : Program} {l : Launch} {e : Env} {s : State} {m : MethodId} {below : List Frame} {meth : Method} {cd : Code} {D : va_G} {K : Nat → ClassId} {b L : Nat} {xs : Nat → Int32} {Q : State → Prop} (hL : L ≤ 3072) (C0 : cx p s m #[Value.ref b] meth cd code 7 RL lw_tbl ret D K) (hX : va_X b L xs s s.heap) (hbl : b < s.heap.size) (hl0 : l.stackTraces = false) {adK adV adN : Nat → Nat} (hE : SK adK adV (fun q : Nat => s.heap.size ≤ q) s s.heap) (hT : thK adN (fun q : Nat => s.heap.size ≤ q) s s.heap) {AA : Nat → Nat → Nat} {gH : Nat → Option Nat} {aM : Nat → Nat} {aO : Nat} (hG : gHok gH (AA 9) (AA 10) (AA 11) (AA 12) (AA 13) (AA 14) (AA 15) (AA 16)) {N : Nat} {Rel : (Nat → Rc) → RcL → Rc → RcL → Prop} (sp9 : SP9 N Rel) (j : Nat) (hj : 6 * j + 6 ≤ L) (c : Nat → Rc) (FL : RcL) (M : Rc) (ML : RcL) (O : Nat → Int64) (H : Heap) (locs : List Loc) (ls : Array Slot) (hrel : Rel c FL M ML) (hP : va_P D vwCl (fl (lawW K AA gH aM aO c FL M ML O)) H) (hD : va_D (fun q : Nat => s.heap.size ≤ q) (fl (lawW K AA gH aM aO c FL M ML O))) (hS : va_S (fun q : Nat => s.heap.size ≤ q) s.heap H locs) (hl : lv_has ls 7 [(0, .ref b), (1, .ref (AA 0 0)), (2, .ref (aM 0)), (3, .ref aO), (4, .int (nI (6 * j)))]) (kk : ∀ (c : Nat → Rc) (FL : RcL) (M : Rc) (ML : RcL) (O : Nat → Int64) (H : Heap) (locs : List Loc) (ls : Array Slot), Rel c FL M ML → va_P D vwCl (fl (lawW K AA gH aM aO c FL M ML O)) H → va_D (fun q : Nat => s.heap.size ≤ q) (fl (lawW K AA gH aM aO c FL M ML O)) → va_S (fun q : Nat => s.heap.size ≤ q) s.heap H locs → lv_has ls 7 [(0, .ref b), (1, .ref (AA 0 0)), (2, .ref (aM 0)), (3, .ref aO), (4, .int (nI (6 * (j + 1))))] → W p l e room_1 s m #[Value.ref b] below meth cd H locs (1000 + (j + 1)) (200000 + 6 * (j + 1)) Q (F0 m 23 ls [])) : W p l e room_1 s m #[Value.ref b] below meth cd H locs (1000 + j) (200000 + 6 * j) Q (F0 m 456 ls []) := by
    have hx := C0.1.1
    have hb := C0.1.2.1
    have hA : ∀ q : Nat, s.heap.size ≤ q → (fun q : Nat => s.heap.size ≤ q) q := fun _ h => h
    have hbA : ¬ (fun q : Nat => s.heap.size ≤ q) b := Nat.not_le.mpr hbl
    have hcc : 1000 + j + 0 ≤ room_1.cells := by show 1000 + j + 0 ≤ 601024; omega
    have hss : 200000 + 6 * j + 0 ≤ room_1.slots := by show 200000 + 6 * j + 0 ≤ 7293034; omega
    have hcc1 : 1000 + j + 1 ≤ room_1.cells := by show 1000 + j + 1 ≤ 601024; omega
    have hss1 : 200000 + 6 * j + 6 ≤ room_1.slots := by show 200000 + 6 * j + 6 ≤ 7293034; omega
    have hi1 : vp_in (nI (6 * j) + 1) L := hi_in (k := 1) (by decide) hj hL
    have hi2 : vp_in (nI (6 * j) + 2) L := hi_in (k := 2) (by decide) hj hL
    have hi3 : vp_in (nI (6 * j) + 3) L := hi_in (k := 3) (by decide) hj hL
    have hi4 : vp_in (nI (6 * j) + 4) L := hi_in (k := 4) (by decide) hj hL
    have hi5 : vp_in (nI (6 * j) + 5) L := hi_in (k := 5) (by decide) hj hL
    obtain ⟨zx, zm, hzx, hzm, heq, hrel⟩ := sp9 c FL M ML hrel (xs (nI (6 * j) + 1).toNatClampNeg) (xs (nI (6 * j) + 2).toNatClampNeg)
    refine r_aload_n C0 dL_law_456 hl 1 rfl ?_
    refine r_aload_n C0 dL_law_457 hl 0 rfl ?_
    refine r_iload C0 dL_law_458 hl 4 rfl ?_
    refine r_iconst C0 1 dL_law_460 (by decide) ?_
    refine r_iadd C0 dL_law_461 ?_
    refine va_sld hx hb hX hbl hbA hS hi1 dL_law_462 ?_
    refine r_aload_n C0 dL_law_463 hl 0 rfl ?_
    refine r_iload C0 dL_law_464 hl 4 rfl ?_
    refine r_iconst C0 2 dL_law_466 (by decide) ?_
    refine r_iadd C0 dL_law_467 ?_
    refine va_sld hx hb hX hbl hbA hS hi2 dL_law_468 ?_
    refine r_callIC (Wc := [wCard K (AA 0) (AA 1 0) (AA 2 0) (AA 4 0) (AA 6 0) (AA 3 0) (AA 7 0) (AA 8 0) (c 0), wPlan K (AA 2) (c 1), wLine K (AA 6) (AA 2 0) (c 5), wLine K (AA 3) (AA 2 0) (c 2)]) (wf := fun (u : Rc) => [wCard K (AA 0) (AA 1 0) (AA 2 0) (AA 4 0) (AA 6 0) (AA 3 0) (AA 7 0) (AA 8 0) (c 0), wPlan K (AA 2) (c 1), wLine K (AA 6) (AA 2 0) (c 5), wLine K (AA 3) (AA 2 0) u]) (Wn := [wCard K (AA 0) (AA 1 0) (AA 2 0) (AA 4 0) (AA 6 0) (AA 3 0) (AA 7 0) (AA 8 0) (c 0), wArr K (AA 1 0) 440 (c 16 0), wPlan K (AA 2) (c 1), wLine K (AA 3) (AA 2 0) (zx.2), wReader K (AA 4) (AA 5 0) (AA 1 0) (c 3), wPlan K (AA 5) (c 4), wLine K (AA 6) (AA 2 0) (c 5), wFinder K (AA 7) (AA 3 0) (c 6) FL, wHist K (AA 8) gH (c 7), wLine K (AA 9) (AA 2 0) (c 8), wLine K (AA 10) (AA 2 0) (c 9), wLine K (AA 11) (AA 2 0) (c 10), wLine K (AA 12) (AA 2 0) (c 11), wLine K (AA 13) (AA 2 0) (c 12), wLine K (AA 14) (AA 2 0) (c 13), wLine K (AA 15) (AA 2 0) (c 14), wLine K (AA 16) (AA 2 0) (c 15), wModel K aM M ML, wOut K aO O]) hP hD hS hA [0, 2, 6, 3] [1, 4, 5, 7, 8, 9, 10, 11, 12, 13, 14, 15, 16, 17, 18] [15, 0, 16, 18, 1, 2, 17, 3, 4, 5, 6, 7, 8, 9, 10, 11, 12, 13, 14] 19 rfl rfl (by decide) rfl rfl (by decide) (fun hPc hDc hFc => va_runV (As := [.int (xs (nI (6 * j) + 1).toNatClampNeg), .int (xs (nI (6 * j) + 2).toNatClampNeg)]) (rest := []) C0.1 (ctX5_when l D K N (AA 0) (AA 2) (AA 6) (AA 3) (AA 1 0) (AA 4 0) (AA 7 0) (AA 8 0) (c 0) (c 1) (c 5) (c 2) (xs (nI (6 * j) + 1).toNatClampNeg) (xs (nI (6 * j) + 2).toNatClampNeg) H.size zx hzx) (cwV 2 C0.1.2.2.2.2 (gdVB wsL_law_in0 wd25_6 wd25_7 wd25_8 wd1_2 wd25_9) rfl rfl rfl (by decide +kernel) ⟨Nat.le_of_ble_eq_true rfl, Nat.le_of_ble_eq_true rfl⟩) ⟨pcW_blind, va_recv C0.2.2.2.1 hPc (ci := 5) (q0 := 0) rfl rfl, pcW_of hPc hDc C0.2.2.2⟩ rfl rfl hl.1 rfl (lv_room (Nat.le_of_ble_eq_true rfl)) dL_law_469 ⟨hcc, hss⟩) (fun H locs hP hD hS => ?_)
    refine r_aload_n C0 dL_law_472 hl 2 rfl ?_
    refine r_aload_n C0 dL_law_473 hl 0 rfl ?_
    refine r_iload C0 dL_law_474 hl 4 rfl ?_
    refine r_iconst C0 1 dL_law_476 (by decide) ?_
    refine r_iadd C0 dL_law_477 ?_
    refine va_sld hx hb hX hbl hbA hS hi1 dL_law_478 ?_
    refine r_aload_n C0 dL_law_479 hl 0 rfl ?_
    refine r_iload C0 dL_law_480 hl 4 rfl ?_
    refine r_iconst C0 2 dL_law_482 (by decide) ?_
    refine r_iadd C0 dL_law_483 ?_
    refine va_sld hx hb hX hbl hbA hS hi2 dL_law_484 ?_
    refine r_callIC (Wc := [wModel K aM M ML]) (wf := fun (u : Rc) => [wModel K aM u ML]) (Wn := [wCard K (AA 0) (AA 1 0) (AA 2 0) (AA 4 0) (AA 6 0) (AA 3 0) (AA 7 0) (AA 8 0) (c 0), wArr K (AA 1 0) 440 (c 16 0), wPlan K (AA 2) (c 1), wLine K (AA 3) (AA 2 0) (zx.2), wReader K (AA 4) (AA 5 0) (AA 1 0) (c 3), wPlan K (AA 5) (c 4), wLine K (AA 6) (AA 2 0) (c 5), wFinder K (AA 7) (AA 3 0) (c 6) FL, wHist K (AA 8) gH (c 7), wLine K (AA 9) (AA 2 0) (c 8), wLine K (AA 10) (AA 2 0) (c 9), wLine K (AA 11) (AA 2 0) (c 10), wLine K (AA 12) (AA 2 0) (c 11), wLine K (AA 13) (AA 2 0) (c 12), wLine K (AA 14) (AA 2 0) (c 13), wLine K (AA 15) (AA 2 0) (c 14), wLine K (AA 16) (AA 2 0) (c 15), wModel K aM (zm.2) ML, wOut K aO O]) hP hD hS hA [17] [0, 1, 2, 3, 4, 5, 6, 7, 8, 9, 10, 11, 12, 13, 14, 15, 16, 18] [0, 1, 2, 3, 4, 5, 6, 7, 8, 9, 10, 11, 12, 13, 14, 15, 16, 18, 17] 19 rfl rfl (by decide) rfl rfl (by decide) (fun hPc hDc hFc => va_runV (As := [.int (xs (nI (6 * j) + 1).toNatClampNeg), .int (xs (nI (6 * j) + 2).toNatClampNeg)]) (rest := [.int zx.1]) C0.1 (ctX6_when l D K N aM M ML (xs (nI (6 * j) + 1).toNatClampNeg) (xs (nI (6 * j) + 2).toNatClampNeg) H.size zm hzm) (cwV 2 C0.1.2.2.2.2 (gdVB wsL_law_in0 wd26_0 wd26_1 wd26_2 wd1_5 wd26_3) rfl rfl rfl (by decide +kernel) ⟨Nat.le_of_ble_eq_true rfl, Nat.le_of_ble_eq_true rfl⟩) ⟨pcW_blind, va_recv C0.2.2.2.1 hPc (ci := 6) (q0 := 0) rfl rfl, pcW_of hPc hDc C0.2.2.2⟩ rfl rfl hl.1 rfl (lv_room (Nat.le_of_ble_eq_true rfl)) dL_law_485 ⟨hcc, hss⟩) (fun H locs hP hD hS => ?_)
    refine lv_icmp_eq (tgt := 792) C0.1.1 C0.1.2.1 dL_law_488 (by decide) (fun _ => ?_) (fun c9 => absurd heq c9)
    refine lv_iinc (v := nI (6 * (j + 1))) (lv' := [(4, .int (nI (6 * (j + 1)))), (0, .ref b), (1, .ref (AA 0 0)), (2, .ref (aM 0)), (3, .ref aO)]) C0.1.1 C0.1.2.1 dL_law_792 hl (k := 4) rfl (nI6 j) (by decide) rfl (fun ls hl => ?_)
    refine r_goto C0 23 dL_law_795 (by decide) ?_
    refine W.widen (k := 1000 + (j + 1)) (n := 200000 + 6 * (j + 1)) (by omega) (by omega) ?_
    exact kk (va_up c 2 (zx.2)) FL (zm.2) ML O H locs ls hrel hP hD hS (lv_sub hl [1, 2, 3, 4, 0] rfl)
set_option maxHeartbeats 4000000 in
set_option maxRecDepth 20000 in
theorem law_case10 {p : Program} {l : Launch} {e : Env} {s : State} {m : MethodId} {below : List Frame} {meth : Method} {cd : Code} {D : va_G} {K : Nat → ClassId} {b L : Nat} {xs : Nat → Int32} {Q : State → Prop} (hL : L ≤ 3072) (C0 : cx p s m #[Value.ref b] meth cd code 7 RL lw_tbl ret D K) (hX : va_X b L xs s s.heap) (hbl : b < s.heap.size) (hl0 : l.stackTraces = false) {adK adV adN : Nat → Nat} (hE : SK adK adV (fun q : Nat => s.heap.size ≤ q) s s.heap) (hT : thK adN (fun q : Nat => s.heap.size ≤ q) s s.heap) {AA : Nat → Nat → Nat} {gH : Nat → Option Nat} {aM : Nat → Nat} {aO : Nat} (hG : gHok gH (AA 9) (AA 10) (AA 11) (AA 12) (AA 13) (AA 14) (AA 15) (AA 16)) {N : Nat} {Rel : (Nat → Rc) → RcL → Rc → RcL → Prop} (sp10 : SP10 N Rel) (j : Nat) (hj : 6 * j + 6 ≤ L) (c : Nat → Rc) (FL : RcL) (M : Rc) (ML : RcL) (O : Nat → Int64) (H : Heap) (locs : List Loc) (ls : Array Slot) (hrel : Rel c FL M ML) (hP : va_P D vwCl (fl (lawW K AA gH aM aO c FL M ML O)) H) (hD : va_D (fun q : Nat => s.heap.size ≤ q) (fl (lawW K AA gH aM aO c FL M ML O))) (hS : va_S (fun q : Nat => s.heap.size ≤ q) s.heap H locs) (hl : lv_has ls 7 [(0, .ref b), (1, .ref (AA 0 0)), (2, .ref (aM 0)), (3, .ref aO), (4, .int (nI (6 * j)))]) (kk : ∀ (c : Nat → Rc) (FL : RcL) (M : Rc) (ML : RcL) (O : Nat → Int64) (H : Heap) (locs : List Loc) (ls : Array Slot), Rel c FL M ML → va_P D vwCl (fl (lawW K AA gH aM aO c FL M ML O)) H → va_D (fun q : Nat => s.heap.size ≤ q) (fl (lawW K AA gH aM aO c FL M ML O)) → va_S (fun q : Nat => s.heap.size ≤ q) s.heap H locs → lv_has ls 7 [(0, .ref b), (1, .ref (AA 0 0)), (2, .ref (aM 0)), (3, .ref aO), (4, .int (nI (6 * (j + 1))))] → W p l e room_1 s m #[Value.ref b] below meth cd H locs (1000 + (j + 1)) (200000 + 6 * (j + 1)) Q (F0 m 23 ls [])) : W p l e room_1 s m #[Value.ref b] below meth cd H locs (1000 + j) (200000 + 6 * j) Q (F0 m 493 ls []) := by
    have hx := C0.1.1
    have hb := C0.1.2.1
    have hA : ∀ q : Nat, s.heap.size ≤ q → (fun q : Nat => s.heap.size ≤ q) q := fun _ h => h
    have hbA : ¬ (fun q : Nat => s.heap.size ≤ q) b := Nat.not_le.mpr hbl
    have hcc : 1000 + j + 0 ≤ room_1.cells := by show 1000 + j + 0 ≤ 601024; omega
    have hss : 200000 + 6 * j + 0 ≤ room_1.slots := by show 200000 + 6 * j + 0 ≤ 7293034; omega
    have hcc1 : 1000 + j + 1 ≤ room_1.cells := by show 1000 + j + 1 ≤ 601024; omega
    have hss1 : 200000 + 6 * j + 6 ≤ room_1.slots := by show 200000 + 6 * j + 6 ≤ 7293034; omega
    have hi1 : vp_in (nI (6 * j) + 1) L := hi_in (k := 1) (by decide) hj hL
    have hi2 : vp_in (nI (6 * j) + 2) L := hi_in (k := 2) (by decide) hj hL
    have hi3 : vp_in (nI (6 * j) + 3) L := hi_in (k := 3) (by decide) hj hL
    have hi4 : vp_in (nI (6 * j) + 4) L := hi_in (k := 4) (by decide) hj hL
    have hi5 : vp_in (nI (6 * j) + 5) L := hi_in (k := 5) (by decide) hj hL
    obtain ⟨zx, zm, hzx, hzm, heq, hrel⟩ := sp10 c FL M ML hrel (xs (nI (6 * j) + 1).toNatClampNeg)
    refine r_aload_n C0 dL_law_493 hl 1 rfl ?_
    refine r_aload_n C0 dL_law_494 hl 0 rfl ?_
    refine r_iload C0 dL_law_495 hl 4 rfl ?_
    refine r_iconst C0 1 dL_law_497 (by decide) ?_
    refine r_iadd C0 dL_law_498 ?_
    refine va_sld hx hb hX hbl hbA hS hi1 dL_law_499 ?_
    refine r_callIC (Wc := [wCard K (AA 0) (AA 1 0) (AA 2 0) (AA 4 0) (AA 6 0) (AA 3 0) (AA 7 0) (AA 8 0) (c 0), wPlan K (AA 2) (c 1), wLine K (AA 6) (AA 2 0) (c 5), wLine K (AA 3) (AA 2 0) (c 2), wFinder K (AA 7) (AA 3 0) (c 6) FL]) (wf := fun (u : Rc × Rc × Rc × RcL) => [wCard K (AA 0) (AA 1 0) (AA 2 0) (AA 4 0) (AA 6 0) (AA 3 0) (AA 7 0) (AA 8 0) u.1, wPlan K (AA 2) (c 1), wLine K (AA 6) (AA 2 0) (c 5), wLine K (AA 3) (AA 2 0) u.2.1, wFinder K (AA 7) (AA 3 0) u.2.2.1 u.2.2.2]) (Wn := [wCard K (AA 0) (AA 1 0) (AA 2 0) (AA 4 0) (AA 6 0) (AA 3 0) (AA 7 0) (AA 8 0) (zx.2.1), wArr K (AA 1 0) 440 (c 16 0), wPlan K (AA 2) (c 1), wLine K (AA 3) (AA 2 0) (zx.2.2.1), wReader K (AA 4) (AA 5 0) (AA 1 0) (c 3), wPlan K (AA 5) (c 4), wLine K (AA 6) (AA 2 0) (c 5), wFinder K (AA 7) (AA 3 0) (zx.2.2.2.1) (zx.2.2.2.2), wHist K (AA 8) gH (c 7), wLine K (AA 9) (AA 2 0) (c 8), wLine K (AA 10) (AA 2 0) (c 9), wLine K (AA 11) (AA 2 0) (c 10), wLine K (AA 12) (AA 2 0) (c 11), wLine K (AA 13) (AA 2 0) (c 12), wLine K (AA 14) (AA 2 0) (c 13), wLine K (AA 15) (AA 2 0) (c 14), wLine K (AA 16) (AA 2 0) (c 15), wModel K aM M ML, wOut K aO O]) hP hD hS hA [0, 2, 6, 3, 7] [1, 4, 5, 8, 9, 10, 11, 12, 13, 14, 15, 16, 17, 18] [14, 0, 15, 17, 1, 2, 16, 18, 3, 4, 5, 6, 7, 8, 9, 10, 11, 12, 13] 19 rfl rfl (by decide) rfl rfl (by decide) (fun hPc hDc hFc => va_runV (As := [.int (xs (nI (6 * j) + 1).toNatClampNeg)]) (rest := []) C0.1 (ctX5_pace l D K N (AA 0) (AA 2) (AA 6) (AA 3) (AA 7) (AA 1 0) (AA 4 0) (AA 8 0) (c 0) (c 1) (c 5) (c 2) (c 6) FL (xs (nI (6 * j) + 1).toNatClampNeg) H.size zx hzx) (cwV 1 C0.1.2.2.2.2 (gdVB wsL_law_in0 wd26_13 wd26_14 wd26_15 wd1_2 wd26_16) rfl rfl rfl (by decide +kernel) ⟨Nat.le_of_ble_eq_true rfl, Nat.le_of_ble_eq_true rfl⟩) ⟨pcW_blind, va_recv C0.2.2.2.1 hPc (ci := 5) (q0 := 0) rfl rfl, pcW_of hPc hDc C0.2.2.2⟩ rfl rfl hl.1 rfl (lv_room (Nat.le_of_ble_eq_true rfl)) dL_law_500 ⟨hcc, hss⟩) (fun H locs hP hD hS => ?_)
    refine r_aload_n C0 dL_law_503 hl 2 rfl ?_
    refine r_aload_n C0 dL_law_504 hl 0 rfl ?_
    refine r_iload C0 dL_law_505 hl 4 rfl ?_
    refine r_iconst C0 1 dL_law_507 (by decide) ?_
    refine r_iadd C0 dL_law_508 ?_
    refine va_sld hx hb hX hbl hbA hS hi1 dL_law_509 ?_
    refine r_callIC (Wc := [wModel K aM M ML]) (wf := fun (u : Rc × RcL) => [wModel K aM u.1 u.2]) (Wn := [wCard K (AA 0) (AA 1 0) (AA 2 0) (AA 4 0) (AA 6 0) (AA 3 0) (AA 7 0) (AA 8 0) (zx.2.1), wArr K (AA 1 0) 440 (c 16 0), wPlan K (AA 2) (c 1), wLine K (AA 3) (AA 2 0) (zx.2.2.1), wReader K (AA 4) (AA 5 0) (AA 1 0) (c 3), wPlan K (AA 5) (c 4), wLine K (AA 6) (AA 2 0) (c 5), wFinder K (AA 7) (AA 3 0) (zx.2.2.2.1) (zx.2.2.2.2), wHist K (AA 8) gH (c 7), wLine K (AA 9) (AA 2 0) (c 8), wLine K (AA 10) (AA 2 0) (c 9), wLine K (AA 11) (AA 2 0) (c 10), wLine K (AA 12) (AA 2 0) (c 11), wLine K (AA 13) (AA 2 0) (c 12), wLine K (AA 14) (AA 2 0) (c 13), wLine K (AA 15) (AA 2 0) (c 14), wLine K (AA 16) (AA 2 0) (c 15), wModel K aM (zm.2.1) (zm.2.2), wOut K aO O]) hP hD hS hA [17] [0, 1, 2, 3, 4, 5, 6, 7, 8, 9, 10, 11, 12, 13, 14, 15, 16, 18] [0, 1, 2, 3, 4, 5, 6, 7, 8, 9, 10, 11, 12, 13, 14, 15, 16, 18, 17] 19 rfl rfl (by decide) rfl rfl (by decide) (fun hPc hDc hFc => va_runV (As := [.int (xs (nI (6 * j) + 1).toNatClampNeg)]) (rest := [.int zx.1]) C0.1 (ctX6_pace l D K N aM M ML (xs (nI (6 * j) + 1).toNatClampNeg) H.size zm hzm) (cwV 1 C0.1.2.2.2.2 (gdVB wsL_law_in0 wd28_9 wd28_10 wd28_11 wd1_5 wd28_12) rfl rfl rfl (by decide +kernel) ⟨Nat.le_of_ble_eq_true rfl, Nat.le_of_ble_eq_true rfl⟩) ⟨pcW_blind, va_recv C0.2.2.2.1 hPc (ci := 6) (q0 := 0) rfl rfl, pcW_of hPc hDc C0.2.2.2⟩ rfl rfl hl.1 rfl (lv_room (Nat.le_of_ble_eq_true rfl)) dL_law_510 ⟨hcc, hss⟩) (fun H locs hP hD hS => ?_)
    refine lv_icmp_eq (tgt := 792) C0.1.1 C0.1.2.1 dL_law_513 (by decide) (fun _ => ?_) (fun c9 => absurd heq c9)
    refine lv_iinc (v := nI (6 * (j + 1))) (lv' := [(4, .int (nI (6 * (j + 1)))), (0, .ref b), (1, .ref (AA 0 0)), (2, .ref (aM 0)), (3, .ref aO)]) C0.1.1 C0.1.2.1 dL_law_792 hl (k := 4) rfl (nI6 j) (by decide) rfl (fun ls hl => ?_)
    refine r_goto C0 23 dL_law_795 (by decide) ?_
    refine W.widen (k := 1000 + (j + 1)) (n := 200000 + 6 * (j + 1)) (by omega) (by omega) ?_
    exact kk (va_up (va_up (va_up c 0 (zx.2.1)) 2 (zx.2.2.1)) 6 (zx.2.2.2.1)) (zx.2.2.2.2) (zm.2.1) (zm.2.2) O H locs ls hrel hP hD hS (lv_sub hl [1, 2, 3, 4, 0] rfl)
set_option maxHeartbeats 4000000 in
set_option maxRecDepth 20000 in
theorem law_case11 {p : Program} {l : Launch} {e : Env} {s : State} {m : MethodId} {below : List Frame} {meth : Method} {cd : Code} {D : va_G} {K : Nat → ClassId} {b L : Nat} {xs : Nat → Int32} {Q : State → Prop} (hL : L ≤ 3072) (C0 : cx p s m #[Value.ref b] meth cd code 7 RL lw_tbl ret D K) (hX : va_X b L xs s s.heap) (hbl : b < s.heap.size) (hl0 : l.stackTraces = false) {adK adV adN : Nat → Nat} (hE : SK adK adV (fun q : Nat => s.heap.size ≤ q) s s.heap) (hT : thK adN (fun q : Nat => s.heap.size ≤ q) s s.heap) {AA : Nat → Nat → Nat} {gH : Nat → Option Nat} {aM : Nat → Nat} {aO : Nat} (hG : gHok gH (AA 9) (AA 10) (AA 11) (AA 12) (AA 13) (AA 14) (AA 15) (AA 16)) {N : Nat} {Rel : (Nat → Rc) → RcL → Rc → RcL → Prop} (sp11 : SP11 N Rel) (j : Nat) (hj : 6 * j + 6 ≤ L) (c : Nat → Rc) (FL : RcL) (M : Rc) (ML : RcL) (O : Nat → Int64) (H : Heap) (locs : List Loc) (ls : Array Slot) (hrel : Rel c FL M ML) (hP : va_P D vwCl (fl (lawW K AA gH aM aO c FL M ML O)) H) (hD : va_D (fun q : Nat => s.heap.size ≤ q) (fl (lawW K AA gH aM aO c FL M ML O))) (hS : va_S (fun q : Nat => s.heap.size ≤ q) s.heap H locs) (hl : lv_has ls 7 [(0, .ref b), (1, .ref (AA 0 0)), (2, .ref (aM 0)), (3, .ref aO), (4, .int (nI (6 * j)))]) (kk : ∀ (c : Nat → Rc) (FL : RcL) (M : Rc) (ML : RcL) (O : Nat → Int64) (H : Heap) (locs : List Loc) (ls : Array Slot), Rel c FL M ML → va_P D vwCl (fl (lawW K AA gH aM aO c FL M ML O)) H → va_D (fun q : Nat => s.heap.size ≤ q) (fl (lawW K AA gH aM aO c FL M ML O)) → va_S (fun q : Nat => s.heap.size ≤ q) s.heap H locs → lv_has ls 7 [(0, .ref b), (1, .ref (AA 0 0)), (2, .ref (aM 0)), (3, .ref aO), (4, .int (nI (6 * (j + 1))))] → W p l e room_1 s m #[Value.ref b] below meth cd H locs (1000 + (j + 1)) (200000 + 6 * (j + 1)) Q (F0 m 23 ls [])) : W p l e room_1 s m #[Value.ref b] below meth cd H locs (1000 + j) (200000 + 6 * j) Q (F0 m 518 ls []) := by
    have hx := C0.1.1
    have hb := C0.1.2.1
    have hA : ∀ q : Nat, s.heap.size ≤ q → (fun q : Nat => s.heap.size ≤ q) q := fun _ h => h
    have hbA : ¬ (fun q : Nat => s.heap.size ≤ q) b := Nat.not_le.mpr hbl
    have hcc : 1000 + j + 0 ≤ room_1.cells := by show 1000 + j + 0 ≤ 601024; omega
    have hss : 200000 + 6 * j + 0 ≤ room_1.slots := by show 200000 + 6 * j + 0 ≤ 7293034; omega
    have hcc1 : 1000 + j + 1 ≤ room_1.cells := by show 1000 + j + 1 ≤ 601024; omega
    have hss1 : 200000 + 6 * j + 6 ≤ room_1.slots := by show 200000 + 6 * j + 6 ≤ 7293034; omega
    have hi1 : vp_in (nI (6 * j) + 1) L := hi_in (k := 1) (by decide) hj hL
    have hi2 : vp_in (nI (6 * j) + 2) L := hi_in (k := 2) (by decide) hj hL
    have hi3 : vp_in (nI (6 * j) + 3) L := hi_in (k := 3) (by decide) hj hL
    have hi4 : vp_in (nI (6 * j) + 4) L := hi_in (k := 4) (by decide) hj hL
    have hi5 : vp_in (nI (6 * j) + 5) L := hi_in (k := 5) (by decide) hj hL
    obtain ⟨zx, zm, hzx, hzm, heq, hrel⟩ := sp11 c FL M ML hrel (xs (nI (6 * j) + 1).toNatClampNeg)
    refine r_aload_n C0 dL_law_518 hl 1 rfl ?_
    refine r_aload_n C0 dL_law_519 hl 0 rfl ?_
    refine r_iload C0 dL_law_520 hl 4 rfl ?_
    refine r_iconst C0 1 dL_law_522 (by decide) ?_
    refine r_iadd C0 dL_law_523 ?_
    refine va_sld hx hb hX hbl hbA hS hi1 dL_law_524 ?_
    have hPc := vaP_sel (Wc := [wCard K (AA 0) (AA 1 0) (AA 2 0) (AA 4 0) (AA 6 0) (AA 3 0) (AA 7 0) (AA 8 0) (c 0), wPlan K (AA 2) (c 1), wLine K (AA 6) (AA 2 0) (c 5)]) hP [0, 2, 6] rfl
    refine r_cI (va_runV (As := [.int (xs (nI (6 * j) + 1).toNatClampNeg)]) (rest := []) C0.1 (ctX5_bound l D K N (AA 0) (AA 2) (AA 6) (AA 1 0) (AA 4 0) (AA 3 0) (AA 7 0) (AA 8 0) (c 0) (c 1) (c 5) (xs (nI (6 * j) + 1).toNatClampNeg) zx hzx) (cwV 1 C0.1.2.2.2.2 (gdVB wsL_law_in0 wd29_13 wd29_14 wd29_15 wd1_2 wd29_16) rfl rfl rfl (by decide +kernel) ⟨Nat.le_of_ble_eq_true rfl, Nat.le_of_ble_eq_true rfl⟩) ⟨pcR_blind, va_recv C0.2.2.2.1 hPc (ci := 5) (q0 := 0) rfl rfl, pcR_of hPc C0.2.2.2⟩ rfl rfl hl.1 rfl (lv_room (Nat.le_of_ble_eq_true rfl)) dL_law_525 ⟨hcc, hss⟩).run ?_
    refine r_aload_n C0 dL_law_528 hl 2 rfl ?_
    refine r_aload_n C0 dL_law_529 hl 0 rfl ?_
    refine r_iload C0 dL_law_530 hl 4 rfl ?_
    refine r_iconst C0 1 dL_law_532 (by decide) ?_
    refine r_iadd C0 dL_law_533 ?_
    refine va_sld hx hb hX hbl hbA hS hi1 dL_law_534 ?_
    refine r_callIC (Wc := [wModel K aM M ML]) (wf := fun (u : Rc) => [wModel K aM u ML]) (Wn := [wCard K (AA 0) (AA 1 0) (AA 2 0) (AA 4 0) (AA 6 0) (AA 3 0) (AA 7 0) (AA 8 0) (c 0), wArr K (AA 1 0) 440 (c 16 0), wPlan K (AA 2) (c 1), wLine K (AA 3) (AA 2 0) (c 2), wReader K (AA 4) (AA 5 0) (AA 1 0) (c 3), wPlan K (AA 5) (c 4), wLine K (AA 6) (AA 2 0) (c 5), wFinder K (AA 7) (AA 3 0) (c 6) FL, wHist K (AA 8) gH (c 7), wLine K (AA 9) (AA 2 0) (c 8), wLine K (AA 10) (AA 2 0) (c 9), wLine K (AA 11) (AA 2 0) (c 10), wLine K (AA 12) (AA 2 0) (c 11), wLine K (AA 13) (AA 2 0) (c 12), wLine K (AA 14) (AA 2 0) (c 13), wLine K (AA 15) (AA 2 0) (c 14), wLine K (AA 16) (AA 2 0) (c 15), wModel K aM (zm.2) ML, wOut K aO O]) hP hD hS hA [17] [0, 1, 2, 3, 4, 5, 6, 7, 8, 9, 10, 11, 12, 13, 14, 15, 16, 18] [0, 1, 2, 3, 4, 5, 6, 7, 8, 9, 10, 11, 12, 13, 14, 15, 16, 18, 17] 19 rfl rfl (by decide) rfl rfl (by decide) (fun hPc hDc hFc => va_runV (As := [.int (xs (nI (6 * j) + 1).toNatClampNeg)]) (rest := [.int zx]) C0.1 (ctX6_bound l D K N aM M ML (xs (nI (6 * j) + 1).toNatClampNeg) H.size zm hzm) (cwV 1 C0.1.2.2.2.2 (gdVB wsL_law_in0 wd30_6 wd30_7 wd30_8 wd1_5 wd30_9) rfl rfl rfl (by decide +kernel) ⟨Nat.le_of_ble_eq_true rfl, Nat.le_of_ble_eq_true rfl⟩) ⟨pcW_blind, va_recv C0.2.2.2.1 hPc (ci := 6) (q0 := 0) rfl rfl, pcW_of hPc hDc C0.2.2.2⟩ rfl rfl hl.1 rfl (lv_room (Nat.le_of_ble_eq_true rfl)) dL_law_535 ⟨hcc, hss⟩) (fun H locs hP hD hS => ?_)
    refine lv_icmp_eq (tgt := 792) C0.1.1 C0.1.2.1 dL_law_538 (by decide) (fun _ => ?_) (fun c9 => absurd heq c9)
    refine lv_iinc (v := nI (6 * (j + 1))) (lv' := [(4, .int (nI (6 * (j + 1)))), (0, .ref b), (1, .ref (AA 0 0)), (2, .ref (aM 0)), (3, .ref aO)]) C0.1.1 C0.1.2.1 dL_law_792 hl (k := 4) rfl (nI6 j) (by decide) rfl (fun ls hl => ?_)
    refine r_goto C0 23 dL_law_795 (by decide) ?_
    refine W.widen (k := 1000 + (j + 1)) (n := 200000 + 6 * (j + 1)) (by omega) (by omega) ?_
    exact kk c FL (zm.2) ML O H locs ls hrel hP hD hS (lv_sub hl [1, 2, 3, 4, 0] rfl)
set_option maxHeartbeats 4000000 in
set_option maxRecDepth 20000 in
theorem law_case12 {p : Program} {l : Launch} {e : Env} {s : State} {m : MethodId} {below : List Frame} {meth : Method} {cd : Code} {D : va_G} {K : Nat → ClassId} {b L : Nat} {xs : Nat → Int32} {Q : State → Prop} (hL : L ≤ 3072) (C0 : cx p s m #[Value.ref b] meth cd code 7 RL lw_tbl ret D K) (hX : va_X b L xs s s.heap) (hbl : b < s.heap.size) (hl0 : l.stackTraces = false) {adK adV adN : Nat → Nat} (hE : SK adK adV (fun q : Nat => s.heap.size ≤ q) s s.heap) (hT : thK adN (fun q : Nat => s.heap.size ≤ q) s s.heap) {AA : Nat → Nat → Nat} {gH : Nat → Option Nat} {aM : Nat → Nat} {aO : Nat} (hG : gHok gH (AA 9) (AA 10) (AA 11) (AA 12) (AA 13) (AA 14) (AA 15) (AA 16)) {N : Nat} {Rel : (Nat → Rc) → RcL → Rc → RcL → Prop} (sp12 : SP12 N Rel) (j : Nat) (hj : 6 * j + 6 ≤ L) (c : Nat → Rc) (FL : RcL) (M : Rc) (ML : RcL) (O : Nat → Int64) (H : Heap) (locs : List Loc) (ls : Array Slot) (hrel : Rel c FL M ML) (hP : va_P D vwCl (fl (lawW K AA gH aM aO c FL M ML O)) H) (hD : va_D (fun q : Nat => s.heap.size ≤ q) (fl (lawW K AA gH aM aO c FL M ML O))) (hS : va_S (fun q : Nat => s.heap.size ≤ q) s.heap H locs) (hl : lv_has ls 7 [(0, .ref b), (1, .ref (AA 0 0)), (2, .ref (aM 0)), (3, .ref aO), (4, .int (nI (6 * j)))]) (kk : ∀ (c : Nat → Rc) (FL : RcL) (M : Rc) (ML : RcL) (O : Nat → Int64) (H : Heap) (locs : List Loc) (ls : Array Slot), Rel c FL M ML → va_P D vwCl (fl (lawW K AA gH aM aO c FL M ML O)) H → va_D (fun q : Nat => s.heap.size ≤ q) (fl (lawW K AA gH aM aO c FL M ML O)) → va_S (fun q : Nat => s.heap.size ≤ q) s.heap H locs → lv_has ls 7 [(0, .ref b), (1, .ref (AA 0 0)), (2, .ref (aM 0)), (3, .ref aO), (4, .int (nI (6 * (j + 1))))] → W p l e room_1 s m #[Value.ref b] below meth cd H locs (1000 + (j + 1)) (200000 + 6 * (j + 1)) Q (F0 m 23 ls [])) : W p l e room_1 s m #[Value.ref b] below meth cd H locs (1000 + j) (200000 + 6 * j) Q (F0 m 543 ls []) := by
    have hx := C0.1.1
    have hb := C0.1.2.1
    have hA : ∀ q : Nat, s.heap.size ≤ q → (fun q : Nat => s.heap.size ≤ q) q := fun _ h => h
    have hbA : ¬ (fun q : Nat => s.heap.size ≤ q) b := Nat.not_le.mpr hbl
    have hcc : 1000 + j + 0 ≤ room_1.cells := by show 1000 + j + 0 ≤ 601024; omega
    have hss : 200000 + 6 * j + 0 ≤ room_1.slots := by show 200000 + 6 * j + 0 ≤ 7293034; omega
    have hcc1 : 1000 + j + 1 ≤ room_1.cells := by show 1000 + j + 1 ≤ 601024; omega
    have hss1 : 200000 + 6 * j + 6 ≤ room_1.slots := by show 200000 + 6 * j + 6 ≤ 7293034; omega
    have hi1 : vp_in (nI (6 * j) + 1) L := hi_in (k := 1) (by decide) hj hL
    have hi2 : vp_in (nI (6 * j) + 2) L := hi_in (k := 2) (by decide) hj hL
    have hi3 : vp_in (nI (6 * j) + 3) L := hi_in (k := 3) (by decide) hj hL
    have hi4 : vp_in (nI (6 * j) + 4) L := hi_in (k := 4) (by decide) hj hL
    have hi5 : vp_in (nI (6 * j) + 5) L := hi_in (k := 5) (by decide) hj hL
    obtain ⟨zx, zm, hzx, hzm, heq, hrel⟩ := sp12 c FL M ML hrel (xs (nI (6 * j) + 1).toNatClampNeg) (xs (nI (6 * j) + 2).toNatClampNeg) (xs (nI (6 * j) + 3).toNatClampNeg)
    refine r_aload_n C0 dL_law_543 hl 1 rfl ?_
    refine r_aload_n C0 dL_law_544 hl 0 rfl ?_
    refine r_iload C0 dL_law_545 hl 4 rfl ?_
    refine r_iconst C0 1 dL_law_547 (by decide) ?_
    refine r_iadd C0 dL_law_548 ?_
    refine va_sld hx hb hX hbl hbA hS hi1 dL_law_549 ?_
    refine r_aload_n C0 dL_law_550 hl 0 rfl ?_
    refine r_iload C0 dL_law_551 hl 4 rfl ?_
    refine r_iconst C0 2 dL_law_553 (by decide) ?_
    refine r_iadd C0 dL_law_554 ?_
    refine va_sld hx hb hX hbl hbA hS hi2 dL_law_555 ?_
    refine r_aload_n C0 dL_law_556 hl 0 rfl ?_
    refine r_iload C0 dL_law_557 hl 4 rfl ?_
    refine r_iconst C0 3 dL_law_559 (by decide) ?_
    refine r_iadd C0 dL_law_560 ?_
    refine va_sld hx hb hX hbl hbA hS hi3 dL_law_561 ?_
    have hPc := vaP_sel (Wc := [wCard K (AA 0) (AA 1 0) (AA 2 0) (AA 4 0) (AA 6 0) (AA 3 0) (AA 7 0) (AA 8 0) (c 0), wPlan K (AA 2) (c 1)]) hP [0, 2] rfl
    refine r_cI (va_runV (As := [.int (xs (nI (6 * j) + 1).toNatClampNeg), .int (xs (nI (6 * j) + 2).toNatClampNeg), .int (xs (nI (6 * j) + 3).toNatClampNeg)]) (rest := []) C0.1 (ctX5_needs l D K N (AA 0) (AA 2) (AA 1 0) (AA 4 0) (AA 6 0) (AA 3 0) (AA 7 0) (AA 8 0) (c 0) (c 1) (xs (nI (6 * j) + 1).toNatClampNeg) (xs (nI (6 * j) + 2).toNatClampNeg) (xs (nI (6 * j) + 3).toNatClampNeg) zx hzx) (cwV 3 C0.1.2.2.2.2 (gdVB wsL_law_in0 wd30_14 wd30_15 wd30_16 wd1_2 wd30_17) rfl rfl rfl (by decide +kernel) ⟨Nat.le_of_ble_eq_true rfl, Nat.le_of_ble_eq_true rfl⟩) ⟨pcR_blind, va_recv C0.2.2.2.1 hPc (ci := 5) (q0 := 0) rfl rfl, pcR_of hPc C0.2.2.2⟩ rfl rfl hl.1 rfl (lv_room (Nat.le_of_ble_eq_true rfl)) dL_law_562 ⟨hcc, hss⟩).run ?_
    refine r_aload_n C0 dL_law_565 hl 2 rfl ?_
    refine r_aload_n C0 dL_law_566 hl 0 rfl ?_
    refine r_iload C0 dL_law_567 hl 4 rfl ?_
    refine r_iconst C0 1 dL_law_569 (by decide) ?_
    refine r_iadd C0 dL_law_570 ?_
    refine va_sld hx hb hX hbl hbA hS hi1 dL_law_571 ?_
    refine r_aload_n C0 dL_law_572 hl 0 rfl ?_
    refine r_iload C0 dL_law_573 hl 4 rfl ?_
    refine r_iconst C0 2 dL_law_575 (by decide) ?_
    refine r_iadd C0 dL_law_576 ?_
    refine va_sld hx hb hX hbl hbA hS hi2 dL_law_577 ?_
    refine r_aload_n C0 dL_law_578 hl 0 rfl ?_
    refine r_iload C0 dL_law_579 hl 4 rfl ?_
    refine r_iconst C0 3 dL_law_581 (by decide) ?_
    refine r_iadd C0 dL_law_582 ?_
    refine va_sld hx hb hX hbl hbA hS hi3 dL_law_583 ?_
    refine r_callIC (Wc := [wModel K aM M ML]) (wf := fun (u : Rc) => [wModel K aM u ML]) (Wn := [wCard K (AA 0) (AA 1 0) (AA 2 0) (AA 4 0) (AA 6 0) (AA 3 0) (AA 7 0) (AA 8 0) (c 0), wArr K (AA 1 0) 440 (c 16 0), wPlan K (AA 2) (c 1), wLine K (AA 3) (AA 2 0) (c 2), wReader K (AA 4) (AA 5 0) (AA 1 0) (c 3), wPlan K (AA 5) (c 4), wLine K (AA 6) (AA 2 0) (c 5), wFinder K (AA 7) (AA 3 0) (c 6) FL, wHist K (AA 8) gH (c 7), wLine K (AA 9) (AA 2 0) (c 8), wLine K (AA 10) (AA 2 0) (c 9), wLine K (AA 11) (AA 2 0) (c 10), wLine K (AA 12) (AA 2 0) (c 11), wLine K (AA 13) (AA 2 0) (c 12), wLine K (AA 14) (AA 2 0) (c 13), wLine K (AA 15) (AA 2 0) (c 14), wLine K (AA 16) (AA 2 0) (c 15), wModel K aM (zm.2) ML, wOut K aO O]) hP hD hS hA [17] [0, 1, 2, 3, 4, 5, 6, 7, 8, 9, 10, 11, 12, 13, 14, 15, 16, 18] [0, 1, 2, 3, 4, 5, 6, 7, 8, 9, 10, 11, 12, 13, 14, 15, 16, 18, 17] 19 rfl rfl (by decide) rfl rfl (by decide) (fun hPc hDc hFc => va_runV (As := [.int (xs (nI (6 * j) + 1).toNatClampNeg), .int (xs (nI (6 * j) + 2).toNatClampNeg), .int (xs (nI (6 * j) + 3).toNatClampNeg)]) (rest := [.int zx]) C0.1 (ctX6_needs l D K N aM M ML (xs (nI (6 * j) + 1).toNatClampNeg) (xs (nI (6 * j) + 2).toNatClampNeg) (xs (nI (6 * j) + 3).toNatClampNeg) H.size zm hzm) (cwV 3 C0.1.2.2.2.2 (gdVB wsL_law_in0 wd30_21 wd30_22 wd30_23 wd1_5 wd31_0) rfl rfl rfl (by decide +kernel) ⟨Nat.le_of_ble_eq_true rfl, Nat.le_of_ble_eq_true rfl⟩) ⟨pcW_blind, va_recv C0.2.2.2.1 hPc (ci := 6) (q0 := 0) rfl rfl, pcW_of hPc hDc C0.2.2.2⟩ rfl rfl hl.1 rfl (lv_room (Nat.le_of_ble_eq_true rfl)) dL_law_584 ⟨hcc, hss⟩) (fun H locs hP hD hS => ?_)
    refine lv_icmp_eq (tgt := 792) C0.1.1 C0.1.2.1 dL_law_587 (by decide) (fun _ => ?_) (fun c9 => absurd heq c9)
    refine lv_iinc (v := nI (6 * (j + 1))) (lv' := [(4, .int (nI (6 * (j + 1)))), (0, .ref b), (1, .ref (AA 0 0)), (2, .ref (aM 0)), (3, .ref aO)]) C0.1.1 C0.1.2.1 dL_law_792 hl (k := 4) rfl (nI6 j) (by decide) rfl (fun ls hl => ?_)
    refine r_goto C0 23 dL_law_795 (by decide) ?_
    refine W.widen (k := 1000 + (j + 1)) (n := 200000 + 6 * (j + 1)) (by omega) (by omega) ?_
    exact kk c FL (zm.2) ML O H locs ls hrel hP hD hS (lv_sub hl [1, 2, 3, 4, 0] rfl)
set_option maxHeartbeats 4000000 in
set_option maxRecDepth 20000 in
theorem law_case13 {p : Program} {l : Launch} {e : Env} {s : State} {m : MethodId} {below : List Frame} {meth : Method} {cd : Code} {D : va_G} {K : Nat → ClassId} {b L : Nat} {xs : Nat → Int32} {Q : State → Prop} (hL : L ≤ 3072) (C0 : cx p s m #[Value.ref b] meth cd code 7 RL lw_tbl ret D K) (hX : va_X b L xs s s.heap) (hbl : b < s.heap.size) (hl0 : l.stackTraces = false) {adK adV adN : Nat → Nat} (hE : SK adK adV (fun q : Nat => s.heap.size ≤ q) s s.heap) (hT : thK adN (fun q : Nat => s.heap.size ≤ q) s s.heap) {AA : Nat → Nat → Nat} {gH : Nat → Option Nat} {aM : Nat → Nat} {aO : Nat} (hG : gHok gH (AA 9) (AA 10) (AA 11) (AA 12) (AA 13) (AA 14) (AA 15) (AA 16)) {N : Nat} {Rel : (Nat → Rc) → RcL → Rc → RcL → Prop} (sp13 : SP13 N Rel) (j : Nat) (hj : 6 * j + 6 ≤ L) (c : Nat → Rc) (FL : RcL) (M : Rc) (ML : RcL) (O : Nat → Int64) (H : Heap) (locs : List Loc) (ls : Array Slot) (hrel : Rel c FL M ML) (hP : va_P D vwCl (fl (lawW K AA gH aM aO c FL M ML O)) H) (hD : va_D (fun q : Nat => s.heap.size ≤ q) (fl (lawW K AA gH aM aO c FL M ML O))) (hS : va_S (fun q : Nat => s.heap.size ≤ q) s.heap H locs) (hl : lv_has ls 7 [(0, .ref b), (1, .ref (AA 0 0)), (2, .ref (aM 0)), (3, .ref aO), (4, .int (nI (6 * j)))]) (kk : ∀ (c : Nat → Rc) (FL : RcL) (M : Rc) (ML : RcL) (O : Nat → Int64) (H : Heap) (locs : List Loc) (ls : Array Slot), Rel c FL M ML → va_P D vwCl (fl (lawW K AA gH aM aO c FL M ML O)) H → va_D (fun q : Nat => s.heap.size ≤ q) (fl (lawW K AA gH aM aO c FL M ML O)) → va_S (fun q : Nat => s.heap.size ≤ q) s.heap H locs → lv_has ls 7 [(0, .ref b), (1, .ref (AA 0 0)), (2, .ref (aM 0)), (3, .ref aO), (4, .int (nI (6 * (j + 1))))] → W p l e room_1 s m #[Value.ref b] below meth cd H locs (1000 + (j + 1)) (200000 + 6 * (j + 1)) Q (F0 m 23 ls [])) : W p l e room_1 s m #[Value.ref b] below meth cd H locs (1000 + j) (200000 + 6 * j) Q (F0 m 592 ls []) := by
    have hx := C0.1.1
    have hb := C0.1.2.1
    have hA : ∀ q : Nat, s.heap.size ≤ q → (fun q : Nat => s.heap.size ≤ q) q := fun _ h => h
    have hbA : ¬ (fun q : Nat => s.heap.size ≤ q) b := Nat.not_le.mpr hbl
    have hcc : 1000 + j + 0 ≤ room_1.cells := by show 1000 + j + 0 ≤ 601024; omega
    have hss : 200000 + 6 * j + 0 ≤ room_1.slots := by show 200000 + 6 * j + 0 ≤ 7293034; omega
    have hcc1 : 1000 + j + 1 ≤ room_1.cells := by show 1000 + j + 1 ≤ 601024; omega
    have hss1 : 200000 + 6 * j + 6 ≤ room_1.slots := by show 200000 + 6 * j + 6 ≤ 7293034; omega
    have hi1 : vp_in (nI (6 * j) + 1) L := hi_in (k := 1) (by decide) hj hL
    have hi2 : vp_in (nI (6 * j) + 2) L := hi_in (k := 2) (by decide) hj hL
    have hi3 : vp_in (nI (6 * j) + 3) L := hi_in (k := 3) (by decide) hj hL
    have hi4 : vp_in (nI (6 * j) + 4) L := hi_in (k := 4) (by decide) hj hL
    have hi5 : vp_in (nI (6 * j) + 5) L := hi_in (k := 5) (by decide) hj hL
    obtain ⟨zx, zm, hzx, hzm, heq, hrel⟩ := sp13 c FL M ML hrel (xs (nI (6 * j) + 1).toNatClampNeg) (xs (nI (6 * j) + 2).toNatClampNeg) (xs (nI (6 * j) + 3).toNatClampNeg)
    refine r_aload_n C0 dL_law_592 hl 1 rfl ?_
    refine r_aload_n C0 dL_law_593 hl 0 rfl ?_
    refine r_iload C0 dL_law_594 hl 4 rfl ?_
    refine r_iconst C0 1 dL_law_596 (by decide) ?_
    refine r_iadd C0 dL_law_597 ?_
    refine va_sld hx hb hX hbl hbA hS hi1 dL_law_598 ?_
    refine r_aload_n C0 dL_law_599 hl 0 rfl ?_
    refine r_iload C0 dL_law_600 hl 4 rfl ?_
    refine r_iconst C0 2 dL_law_602 (by decide) ?_
    refine r_iadd C0 dL_law_603 ?_
    refine va_sld hx hb hX hbl hbA hS hi2 dL_law_604 ?_
    refine r_aload_n C0 dL_law_605 hl 0 rfl ?_
    refine r_iload C0 dL_law_606 hl 4 rfl ?_
    refine r_iconst C0 3 dL_law_608 (by decide) ?_
    refine r_iadd C0 dL_law_609 ?_
    refine va_sld hx hb hX hbl hbA hS hi3 dL_law_610 ?_
    refine r_callIC (Wc := [wCard K (AA 0) (AA 1 0) (AA 2 0) (AA 4 0) (AA 6 0) (AA 3 0) (AA 7 0) (AA 8 0) (c 0), wPlan K (AA 2) (c 1), wLine K (AA 6) (AA 2 0) (c 5), wLine K (AA 3) (AA 2 0) (c 2), wFinder K (AA 7) (AA 3 0) (c 6) FL]) (wf := fun (u : Rc × Rc × Rc × RcL) => [wCard K (AA 0) (AA 1 0) (AA 2 0) (AA 4 0) (AA 6 0) (AA 3 0) (AA 7 0) (AA 8 0) u.1, wPlan K (AA 2) (c 1), wLine K (AA 6) (AA 2 0) (c 5), wLine K (AA 3) (AA 2 0) u.2.1, wFinder K (AA 7) (AA 3 0) u.2.2.1 u.2.2.2]) (Wn := [wCard K (AA 0) (AA 1 0) (AA 2 0) (AA 4 0) (AA 6 0) (AA 3 0) (AA 7 0) (AA 8 0) (zx.2.1), wArr K (AA 1 0) 440 (c 16 0), wPlan K (AA 2) (c 1), wLine K (AA 3) (AA 2 0) (zx.2.2.1), wReader K (AA 4) (AA 5 0) (AA 1 0) (c 3), wPlan K (AA 5) (c 4), wLine K (AA 6) (AA 2 0) (c 5), wFinder K (AA 7) (AA 3 0) (zx.2.2.2.1) (zx.2.2.2.2), wHist K (AA 8) gH (c 7), wLine K (AA 9) (AA 2 0) (c 8), wLine K (AA 10) (AA 2 0) (c 9), wLine K (AA 11) (AA 2 0) (c 10), wLine K (AA 12) (AA 2 0) (c 11), wLine K (AA 13) (AA 2 0) (c 12), wLine K (AA 14) (AA 2 0) (c 13), wLine K (AA 15) (AA 2 0) (c 14), wLine K (AA 16) (AA 2 0) (c 15), wModel K aM M ML, wOut K aO O]) hP hD hS hA [0, 2, 6, 3, 7] [1, 4, 5, 8, 9, 10, 11, 12, 13, 14, 15, 16, 17, 18] [14, 0, 15, 17, 1, 2, 16, 18, 3, 4, 5, 6, 7, 8, 9, 10, 11, 12, 13] 19 rfl rfl (by decide) rfl rfl (by decide) (fun hPc hDc hFc => va_runV (As := [.int (xs (nI (6 * j) + 1).toNatClampNeg), .int (xs (nI (6 * j) + 2).toNatClampNeg), .int (xs (nI (6 * j) + 3).toNatClampNeg)]) (rest := []) C0.1 (ctX5_least l D K N (AA 0) (AA 2) (AA 6) (AA 3) (AA 7) (AA 1 0) (AA 4 0) (AA 8 0) (c 0) (c 1) (c 5) (c 2) (c 6) FL (xs (nI (6 * j) + 1).toNatClampNeg) (xs (nI (6 * j) + 2).toNatClampNeg) (xs (nI (6 * j) + 3).toNatClampNeg) H.size zx hzx) (cwV 3 C0.1.2.2.2.2 (gdVB wsL_law_in0 wd31_1 wd31_2 wd31_3 wd1_2 wd31_4) rfl rfl rfl (by decide +kernel) ⟨Nat.le_of_ble_eq_true rfl, Nat.le_of_ble_eq_true rfl⟩) ⟨pcW_blind, va_recv C0.2.2.2.1 hPc (ci := 5) (q0 := 0) rfl rfl, pcW_of hPc hDc C0.2.2.2⟩ rfl rfl hl.1 rfl (lv_room (Nat.le_of_ble_eq_true rfl)) dL_law_611 ⟨hcc, hss⟩) (fun H locs hP hD hS => ?_)
    refine r_aload_n C0 dL_law_614 hl 2 rfl ?_
    refine r_aload_n C0 dL_law_615 hl 0 rfl ?_
    refine r_iload C0 dL_law_616 hl 4 rfl ?_
    refine r_iconst C0 1 dL_law_618 (by decide) ?_
    refine r_iadd C0 dL_law_619 ?_
    refine va_sld hx hb hX hbl hbA hS hi1 dL_law_620 ?_
    refine r_aload_n C0 dL_law_621 hl 0 rfl ?_
    refine r_iload C0 dL_law_622 hl 4 rfl ?_
    refine r_iconst C0 2 dL_law_624 (by decide) ?_
    refine r_iadd C0 dL_law_625 ?_
    refine va_sld hx hb hX hbl hbA hS hi2 dL_law_626 ?_
    refine r_aload_n C0 dL_law_627 hl 0 rfl ?_
    refine r_iload C0 dL_law_628 hl 4 rfl ?_
    refine r_iconst C0 3 dL_law_630 (by decide) ?_
    refine r_iadd C0 dL_law_631 ?_
    refine va_sld hx hb hX hbl hbA hS hi3 dL_law_632 ?_
    refine r_callIC (Wc := [wModel K aM M ML]) (wf := fun (u : Rc × RcL) => [wModel K aM u.1 u.2]) (Wn := [wCard K (AA 0) (AA 1 0) (AA 2 0) (AA 4 0) (AA 6 0) (AA 3 0) (AA 7 0) (AA 8 0) (zx.2.1), wArr K (AA 1 0) 440 (c 16 0), wPlan K (AA 2) (c 1), wLine K (AA 3) (AA 2 0) (zx.2.2.1), wReader K (AA 4) (AA 5 0) (AA 1 0) (c 3), wPlan K (AA 5) (c 4), wLine K (AA 6) (AA 2 0) (c 5), wFinder K (AA 7) (AA 3 0) (zx.2.2.2.1) (zx.2.2.2.2), wHist K (AA 8) gH (c 7), wLine K (AA 9) (AA 2 0) (c 8), wLine K (AA 10) (AA 2 0) (c 9), wLine K (AA 11) (AA 2 0) (c 10), wLine K (AA 12) (AA 2 0) (c 11), wLine K (AA 13) (AA 2 0) (c 12), wLine K (AA 14) (AA 2 0) (c 13), wLine K (AA 15) (AA 2 0) (c 14), wLine K (AA 16) (AA 2 0) (c 15), wModel K aM (zm.2.1) (zm.2.2), wOut K aO O]) hP hD hS hA [17] [0, 1, 2, 3, 4, 5, 6, 7, 8, 9, 10, 11, 12, 13, 14, 15, 16, 18] [0, 1, 2, 3, 4, 5, 6, 7, 8, 9, 10, 11, 12, 13, 14, 15, 16, 18, 17] 19 rfl rfl (by decide) rfl rfl (by decide) (fun hPc hDc hFc => va_runV (As := [.int (xs (nI (6 * j) + 1).toNatClampNeg), .int (xs (nI (6 * j) + 2).toNatClampNeg), .int (xs (nI (6 * j) + 3).toNatClampNeg)]) (rest := [.int zx.1]) C0.1 (ctX6_least l D K N aM M ML (xs (nI (6 * j) + 1).toNatClampNeg) (xs (nI (6 * j) + 2).toNatClampNeg) (xs (nI (6 * j) + 3).toNatClampNeg) H.size zm hzm) (cwV 3 C0.1.2.2.2.2 (gdVB wsL_law_in0 wd31_14 wd31_15 wd31_16 wd1_5 wd31_17) rfl rfl rfl (by decide +kernel) ⟨Nat.le_of_ble_eq_true rfl, Nat.le_of_ble_eq_true rfl⟩) ⟨pcW_blind, va_recv C0.2.2.2.1 hPc (ci := 6) (q0 := 0) rfl rfl, pcW_of hPc hDc C0.2.2.2⟩ rfl rfl hl.1 rfl (lv_room (Nat.le_of_ble_eq_true rfl)) dL_law_633 ⟨hcc, hss⟩) (fun H locs hP hD hS => ?_)
    refine lv_icmp_eq (tgt := 792) C0.1.1 C0.1.2.1 dL_law_636 (by decide) (fun _ => ?_) (fun c9 => absurd heq c9)
    refine lv_iinc (v := nI (6 * (j + 1))) (lv' := [(4, .int (nI (6 * (j + 1)))), (0, .ref b), (1, .ref (AA 0 0)), (2, .ref (aM 0)), (3, .ref aO)]) C0.1.1 C0.1.2.1 dL_law_792 hl (k := 4) rfl (nI6 j) (by decide) rfl (fun ls hl => ?_)
    refine r_goto C0 23 dL_law_795 (by decide) ?_
    refine W.widen (k := 1000 + (j + 1)) (n := 200000 + 6 * (j + 1)) (by omega) (by omega) ?_
    exact kk (va_up (va_up (va_up c 0 (zx.2.1)) 2 (zx.2.2.1)) 6 (zx.2.2.2.1)) (zx.2.2.2.2) (zm.2.1) (zm.2.2) O H locs ls hrel hP hD hS (lv_sub hl [1, 2, 3, 4, 0] rfl)
set_option maxHeartbeats 4000000 in
set_option maxRecDepth 20000 in
theorem law_case14 {p : Program} {l : Launch} {e : Env} {s : State} {m : MethodId} {below : List Frame} {meth : Method} {cd : Code} {D : va_G} {K : Nat → ClassId} {b L : Nat} {xs : Nat → Int32} {Q : State → Prop} (hL : L ≤ 3072) (C0 : cx p s m #[Value.ref b] meth cd code 7 RL lw_tbl ret D K) (hX : va_X b L xs s s.heap) (hbl : b < s.heap.size) (hl0 : l.stackTraces = false) {adK adV adN : Nat → Nat} (hE : SK adK adV (fun q : Nat => s.heap.size ≤ q) s s.heap) (hT : thK adN (fun q : Nat => s.heap.size ≤ q) s s.heap) {AA : Nat → Nat → Nat} {gH : Nat → Option Nat} {aM : Nat → Nat} {aO : Nat} (hG : gHok gH (AA 9) (AA 10) (AA 11) (AA 12) (AA 13) (AA 14) (AA 15) (AA 16)) {N : Nat} {Rel : (Nat → Rc) → RcL → Rc → RcL → Prop} (sp14 : SP14 N Rel) (j : Nat) (hj : 6 * j + 6 ≤ L) (c : Nat → Rc) (FL : RcL) (M : Rc) (ML : RcL) (O : Nat → Int64) (H : Heap) (locs : List Loc) (ls : Array Slot) (hrel : Rel c FL M ML) (hP : va_P D vwCl (fl (lawW K AA gH aM aO c FL M ML O)) H) (hD : va_D (fun q : Nat => s.heap.size ≤ q) (fl (lawW K AA gH aM aO c FL M ML O))) (hS : va_S (fun q : Nat => s.heap.size ≤ q) s.heap H locs) (hl : lv_has ls 7 [(0, .ref b), (1, .ref (AA 0 0)), (2, .ref (aM 0)), (3, .ref aO), (4, .int (nI (6 * j)))]) (kk : ∀ (c : Nat → Rc) (FL : RcL) (M : Rc) (ML : RcL) (O : Nat → Int64) (H : Heap) (locs : List Loc) (ls : Array Slot), Rel c FL M ML → va_P D vwCl (fl (lawW K AA gH aM aO c FL M ML O)) H → va_D (fun q : Nat => s.heap.size ≤ q) (fl (lawW K AA gH aM aO c FL M ML O)) → va_S (fun q : Nat => s.heap.size ≤ q) s.heap H locs → lv_has ls 7 [(0, .ref b), (1, .ref (AA 0 0)), (2, .ref (aM 0)), (3, .ref aO), (4, .int (nI (6 * (j + 1))))] → W p l e room_1 s m #[Value.ref b] below meth cd H locs (1000 + (j + 1)) (200000 + 6 * (j + 1)) Q (F0 m 23 ls [])) : W p l e room_1 s m #[Value.ref b] below meth cd H locs (1000 + j) (200000 + 6 * j) Q (F0 m 641 ls []) := by
    have hx := C0.1.1
    have hb := C0.1.2.1
    have hA : ∀ q : Nat, s.heap.size ≤ q → (fun q : Nat => s.heap.size ≤ q) q := fun _ h => h
    have hbA : ¬ (fun q : Nat => s.heap.size ≤ q) b := Nat.not_le.mpr hbl
    have hcc : 1000 + j + 0 ≤ room_1.cells := by show 1000 + j + 0 ≤ 601024; omega
    have hss : 200000 + 6 * j + 0 ≤ room_1.slots := by show 200000 + 6 * j + 0 ≤ 7293034; omega
    have hcc1 : 1000 + j + 1 ≤ room_1.cells := by show 1000 + j + 1 ≤ 601024; omega
    have hss1 : 200000 + 6 * j + 6 ≤ room_1.slots := by show 200000 + 6 * j + 6 ≤ 7293034; omega
    have hi1 : vp_in (nI (6 * j) + 1) L := hi_in (k := 1) (by decide) hj hL
    have hi2 : vp_in (nI (6 * j) + 2) L := hi_in (k := 2) (by decide) hj hL
    have hi3 : vp_in (nI (6 * j) + 3) L := hi_in (k := 3) (by decide) hj hL
    have hi4 : vp_in (nI (6 * j) + 4) L := hi_in (k := 4) (by decide) hj hL
    have hi5 : vp_in (nI (6 * j) + 5) L := hi_in (k := 5) (by decide) hj hL
    obtain ⟨zx, zm, hzx, hzm, heq, hrel⟩ := sp14 c FL M ML hrel (xs (nI (6 * j) + 1).toNatClampNeg) (xs (nI (6 * j) + 2).toNatClampNeg)
    refine r_aload_n C0 dL_law_641 hl 1 rfl ?_
    refine r_aload_n C0 dL_law_642 hl 0 rfl ?_
    refine r_iload C0 dL_law_643 hl 4 rfl ?_
    refine r_iconst C0 1 dL_law_645 (by decide) ?_
    refine r_iadd C0 dL_law_646 ?_
    refine va_sld hx hb hX hbl hbA hS hi1 dL_law_647 ?_
    refine r_aload_n C0 dL_law_648 hl 0 rfl ?_
    refine r_iload C0 dL_law_649 hl 4 rfl ?_
    refine r_iconst C0 2 dL_law_651 (by decide) ?_
    refine r_iadd C0 dL_law_652 ?_
    refine va_sld hx hb hX hbl hbA hS hi2 dL_law_653 ?_
    refine r_callIC (Wc := [wCard K (AA 0) (AA 1 0) (AA 2 0) (AA 4 0) (AA 6 0) (AA 3 0) (AA 7 0) (AA 8 0) (c 0), wPlan K (AA 2) (c 1), wLine K (AA 6) (AA 2 0) (c 5), wLine K (AA 3) (AA 2 0) (c 2), wFinder K (AA 7) (AA 3 0) (c 6) FL]) (wf := fun (u : Rc × Rc × Rc × RcL) => [wCard K (AA 0) (AA 1 0) (AA 2 0) (AA 4 0) (AA 6 0) (AA 3 0) (AA 7 0) (AA 8 0) u.1, wPlan K (AA 2) (c 1), wLine K (AA 6) (AA 2 0) (c 5), wLine K (AA 3) (AA 2 0) u.2.1, wFinder K (AA 7) (AA 3 0) u.2.2.1 u.2.2.2]) (Wn := [wCard K (AA 0) (AA 1 0) (AA 2 0) (AA 4 0) (AA 6 0) (AA 3 0) (AA 7 0) (AA 8 0) (zx.2.1), wArr K (AA 1 0) 440 (c 16 0), wPlan K (AA 2) (c 1), wLine K (AA 3) (AA 2 0) (zx.2.2.1), wReader K (AA 4) (AA 5 0) (AA 1 0) (c 3), wPlan K (AA 5) (c 4), wLine K (AA 6) (AA 2 0) (c 5), wFinder K (AA 7) (AA 3 0) (zx.2.2.2.1) (zx.2.2.2.2), wHist K (AA 8) gH (c 7), wLine K (AA 9) (AA 2 0) (c 8), wLine K (AA 10) (AA 2 0) (c 9), wLine K (AA 11) (AA 2 0) (c 10), wLine K (AA 12) (AA 2 0) (c 11), wLine K (AA 13) (AA 2 0) (c 12), wLine K (AA 14) (AA 2 0) (c 13), wLine K (AA 15) (AA 2 0) (c 14), wLine K (AA 16) (AA 2 0) (c 15), wModel K aM M ML, wOut K aO O]) hP hD hS hA [0, 2, 6, 3, 7] [1, 4, 5, 8, 9, 10, 11, 12, 13, 14, 15, 16, 17, 18] [14, 0, 15, 17, 1, 2, 16, 18, 3, 4, 5, 6, 7, 8, 9, 10, 11, 12, 13] 19 rfl rfl (by decide) rfl rfl (by decide) (fun hPc hDc hFc => va_runV (As := [.int (xs (nI (6 * j) + 1).toNatClampNeg), .int (xs (nI (6 * j) + 2).toNatClampNeg)]) (rest := []) C0.1 (ctX5_longer l D K N (AA 0) (AA 2) (AA 6) (AA 3) (AA 7) (AA 1 0) (AA 4 0) (AA 8 0) (c 0) (c 1) (c 5) (c 2) (c 6) FL (xs (nI (6 * j) + 1).toNatClampNeg) (xs (nI (6 * j) + 2).toNatClampNeg) H.size zx hzx) (cwV 2 C0.1.2.2.2.2 (gdVB wsL_law_in0 wd31_18 wd31_19 wd31_20 wd1_2 wd31_21) rfl rfl rfl (by decide +kernel) ⟨Nat.le_of_ble_eq_true rfl, Nat.le_of_ble_eq_true rfl⟩) ⟨pcW_blind, va_recv C0.2.2.2.1 hPc (ci := 5) (q0 := 0) rfl rfl, pcW_of hPc hDc C0.2.2.2⟩ rfl rfl hl.1 rfl (lv_room (Nat.le_of_ble_eq_true rfl)) dL_law_654 ⟨hcc, hss⟩) (fun H locs hP hD hS => ?_)
    refine r_aload_n C0 dL_law_657 hl 2 rfl ?_
    refine r_aload_n C0 dL_law_658 hl 0 rfl ?_
    refine r_iload C0 dL_law_659 hl 4 rfl ?_
    refine r_iconst C0 1 dL_law_661 (by decide) ?_
    refine r_iadd C0 dL_law_662 ?_
    refine va_sld hx hb hX hbl hbA hS hi1 dL_law_663 ?_
    refine r_aload_n C0 dL_law_664 hl 0 rfl ?_
    refine r_iload C0 dL_law_665 hl 4 rfl ?_
    refine r_iconst C0 2 dL_law_667 (by decide) ?_
    refine r_iadd C0 dL_law_668 ?_
    refine va_sld hx hb hX hbl hbA hS hi2 dL_law_669 ?_
    refine r_callIC (Wc := [wModel K aM M ML]) (wf := fun (u : Rc × RcL) => [wModel K aM u.1 u.2]) (Wn := [wCard K (AA 0) (AA 1 0) (AA 2 0) (AA 4 0) (AA 6 0) (AA 3 0) (AA 7 0) (AA 8 0) (zx.2.1), wArr K (AA 1 0) 440 (c 16 0), wPlan K (AA 2) (c 1), wLine K (AA 3) (AA 2 0) (zx.2.2.1), wReader K (AA 4) (AA 5 0) (AA 1 0) (c 3), wPlan K (AA 5) (c 4), wLine K (AA 6) (AA 2 0) (c 5), wFinder K (AA 7) (AA 3 0) (zx.2.2.2.1) (zx.2.2.2.2), wHist K (AA 8) gH (c 7), wLine K (AA 9) (AA 2 0) (c 8), wLine K (AA 10) (AA 2 0) (c 9), wLine K (AA 11) (AA 2 0) (c 10), wLine K (AA 12) (AA 2 0) (c 11), wLine K (AA 13) (AA 2 0) (c 12), wLine K (AA 14) (AA 2 0) (c 13), wLine K (AA 15) (AA 2 0) (c 14), wLine K (AA 16) (AA 2 0) (c 15), wModel K aM (zm.2.1) (zm.2.2), wOut K aO O]) hP hD hS hA [17] [0, 1, 2, 3, 4, 5, 6, 7, 8, 9, 10, 11, 12, 13, 14, 15, 16, 18] [0, 1, 2, 3, 4, 5, 6, 7, 8, 9, 10, 11, 12, 13, 14, 15, 16, 18, 17] 19 rfl rfl (by decide) rfl rfl (by decide) (fun hPc hDc hFc => va_runV (As := [.int (xs (nI (6 * j) + 1).toNatClampNeg), .int (xs (nI (6 * j) + 2).toNatClampNeg)]) (rest := [.int zx.1]) C0.1 (ctX6_longer l D K N aM M ML (xs (nI (6 * j) + 1).toNatClampNeg) (xs (nI (6 * j) + 2).toNatClampNeg) H.size zm hzm) (cwV 2 C0.1.2.2.2.2 (gdVB wsL_law_in0 wd31_22 wd31_23 wd32_0 wd1_5 wd32_1) rfl rfl rfl (by decide +kernel) ⟨Nat.le_of_ble_eq_true rfl, Nat.le_of_ble_eq_true rfl⟩) ⟨pcW_blind, va_recv C0.2.2.2.1 hPc (ci := 6) (q0 := 0) rfl rfl, pcW_of hPc hDc C0.2.2.2⟩ rfl rfl hl.1 rfl (lv_room (Nat.le_of_ble_eq_true rfl)) dL_law_670 ⟨hcc, hss⟩) (fun H locs hP hD hS => ?_)
    refine lv_icmp_eq (tgt := 792) C0.1.1 C0.1.2.1 dL_law_673 (by decide) (fun _ => ?_) (fun c9 => absurd heq c9)
    refine lv_iinc (v := nI (6 * (j + 1))) (lv' := [(4, .int (nI (6 * (j + 1)))), (0, .ref b), (1, .ref (AA 0 0)), (2, .ref (aM 0)), (3, .ref aO)]) C0.1.1 C0.1.2.1 dL_law_792 hl (k := 4) rfl (nI6 j) (by decide) rfl (fun ls hl => ?_)
    refine r_goto C0 23 dL_law_795 (by decide) ?_
    refine W.widen (k := 1000 + (j + 1)) (n := 200000 + 6 * (j + 1)) (by omega) (by omega) ?_
    exact kk (va_up (va_up (va_up c 0 (zx.2.1)) 2 (zx.2.2.1)) 6 (zx.2.2.2.1)) (zx.2.2.2.2) (zm.2.1) (zm.2.2) O H locs ls hrel hP hD hS (lv_sub hl [1, 2, 3, 4, 0] rfl)
set_option maxHeartbeats 4000000 in
set_option maxRecDepth 20000 in
theorem law_case15 {p : Program} {l : Launch} {e : Env} {s : State} {m : MethodId} {below : List Frame} {meth : Method} {cd : Code} {D : va_G} {K : Nat → ClassId} {b L : Nat} {xs : Nat → Int32} {Q : State → Prop} (hL : L ≤ 3072) (C0 : cx p s m #[Value.ref b] meth cd code 7 RL lw_tbl ret D K) (hX : va_X b L xs s s.heap) (hbl : b < s.heap.size) (hl0 : l.stackTraces = false) {adK adV adN : Nat → Nat} (hE : SK adK adV (fun q : Nat => s.heap.size ≤ q) s s.heap) (hT : thK adN (fun q : Nat => s.heap.size ≤ q) s s.heap) {AA : Nat → Nat → Nat} {gH : Nat → Option Nat} {aM : Nat → Nat} {aO : Nat} (hG : gHok gH (AA 9) (AA 10) (AA 11) (AA 12) (AA 13) (AA 14) (AA 15) (AA 16)) {N : Nat} {Rel : (Nat → Rc) → RcL → Rc → RcL → Prop} (sp15 : SP15 N Rel) (j : Nat) (hj : 6 * j + 6 ≤ L) (c : Nat → Rc) (FL : RcL) (M : Rc) (ML : RcL) (O : Nat → Int64) (H : Heap) (locs : List Loc) (ls : Array Slot) (hrel : Rel c FL M ML) (hP : va_P D vwCl (fl (lawW K AA gH aM aO c FL M ML O)) H) (hD : va_D (fun q : Nat => s.heap.size ≤ q) (fl (lawW K AA gH aM aO c FL M ML O))) (hS : va_S (fun q : Nat => s.heap.size ≤ q) s.heap H locs) (hl : lv_has ls 7 [(0, .ref b), (1, .ref (AA 0 0)), (2, .ref (aM 0)), (3, .ref aO), (4, .int (nI (6 * j)))]) (kk : ∀ (c : Nat → Rc) (FL : RcL) (M : Rc) (ML : RcL) (O : Nat → Int64) (H : Heap) (locs : List Loc) (ls : Array Slot), Rel c FL M ML → va_P D vwCl (fl (lawW K AA gH aM aO c FL M ML O)) H → va_D (fun q : Nat => s.heap.size ≤ q) (fl (lawW K AA gH aM aO c FL M ML O)) → va_S (fun q : Nat => s.heap.size ≤ q) s.heap H locs → lv_has ls 7 [(0, .ref b), (1, .ref (AA 0 0)), (2, .ref (aM 0)), (3, .ref aO), (4, .int (nI (6 * (j + 1))))] → W p l e room_1 s m #[Value.ref b] below meth cd H locs (1000 + (j + 1)) (200000 + 6 * (j + 1)) Q (F0 m 23 ls [])) : W p l e room_1 s m #[Value.ref b] below meth cd H locs (1000 + j) (200000 + 6 * j) Q (F0 m 678 ls []) := by
    have hx := C0.1.1
    have hb := C0.1.2.1
    have hA : ∀ q : Nat, s.heap.size ≤ q → (fun q : Nat => s.heap.size ≤ q) q := fun _ h => h
    have hbA : ¬ (fun q : Nat => s.heap.size ≤ q) b := Nat.not_le.mpr hbl
    have hcc : 1000 + j + 0 ≤ room_1.cells := by show 1000 + j + 0 ≤ 601024; omega
    have hss : 200000 + 6 * j + 0 ≤ room_1.slots := by show 200000 + 6 * j + 0 ≤ 7293034; omega
    have hcc1 : 1000 + j + 1 ≤ room_1.cells := by show 1000 + j + 1 ≤ 601024; omega
    have hss1 : 200000 + 6 * j + 6 ≤ room_1.slots := by show 200000 + 6 * j + 6 ≤ 7293034; omega
    have hi1 : vp_in (nI (6 * j) + 1) L := hi_in (k := 1) (by decide) hj hL
    have hi2 : vp_in (nI (6 * j) + 2) L := hi_in (k := 2) (by decide) hj hL
    have hi3 : vp_in (nI (6 * j) + 3) L := hi_in (k := 3) (by decide) hj hL
    have hi4 : vp_in (nI (6 * j) + 4) L := hi_in (k := 4) (by decide) hj hL
    have hi5 : vp_in (nI (6 * j) + 5) L := hi_in (k := 5) (by decide) hj hL
    obtain ⟨zx, zm, hzx, hzm, heq, hrel⟩ := sp15 c FL M ML hrel ()
    refine r_aload_n C0 dL_law_678 hl 1 rfl ?_
    refine r_callIC (Wc := [wCard K (AA 0) (AA 1 0) (AA 2 0) (AA 4 0) (AA 6 0) (AA 3 0) (AA 7 0) (AA 8 0) (c 0), wPlan K (AA 2) (c 1), wLine K (AA 6) (AA 2 0) (c 5), wLine K (AA 3) (AA 2 0) (c 2), wFinder K (AA 7) (AA 3 0) (c 6) FL]) (wf := fun (u : Rc × Rc × Rc × RcL) => [wCard K (AA 0) (AA 1 0) (AA 2 0) (AA 4 0) (AA 6 0) (AA 3 0) (AA 7 0) (AA 8 0) u.1, wPlan K (AA 2) (c 1), wLine K (AA 6) (AA 2 0) (c 5), wLine K (AA 3) (AA 2 0) u.2.1, wFinder K (AA 7) (AA 3 0) u.2.2.1 u.2.2.2]) (Wn := [wCard K (AA 0) (AA 1 0) (AA 2 0) (AA 4 0) (AA 6 0) (AA 3 0) (AA 7 0) (AA 8 0) (zx.2.1), wArr K (AA 1 0) 440 (c 16 0), wPlan K (AA 2) (c 1), wLine K (AA 3) (AA 2 0) (zx.2.2.1), wReader K (AA 4) (AA 5 0) (AA 1 0) (c 3), wPlan K (AA 5) (c 4), wLine K (AA 6) (AA 2 0) (c 5), wFinder K (AA 7) (AA 3 0) (zx.2.2.2.1) (zx.2.2.2.2), wHist K (AA 8) gH (c 7), wLine K (AA 9) (AA 2 0) (c 8), wLine K (AA 10) (AA 2 0) (c 9), wLine K (AA 11) (AA 2 0) (c 10), wLine K (AA 12) (AA 2 0) (c 11), wLine K (AA 13) (AA 2 0) (c 12), wLine K (AA 14) (AA 2 0) (c 13), wLine K (AA 15) (AA 2 0) (c 14), wLine K (AA 16) (AA 2 0) (c 15), wModel K aM M ML, wOut K aO O]) hP hD hS hA [0, 2, 6, 3, 7] [1, 4, 5, 8, 9, 10, 11, 12, 13, 14, 15, 16, 17, 18] [14, 0, 15, 17, 1, 2, 16, 18, 3, 4, 5, 6, 7, 8, 9, 10, 11, 12, 13] 19 rfl rfl (by decide) rfl rfl (by decide) (fun hPc hDc hFc => va_runV (As := []) (rest := []) C0.1 (ctX5_longest l D K N (AA 0) (AA 2) (AA 6) (AA 3) (AA 7) (AA 1 0) (AA 4 0) (AA 8 0) (c 0) (c 1) (c 5) (c 2) (c 6) FL H.size zx hzx) (cwV 0 C0.1.2.2.2.2 (gdVB wsL_law_in0 wd32_6 wd32_7 wd32_8 wd1_2 wd32_9) rfl rfl rfl (by decide +kernel) ⟨Nat.le_of_ble_eq_true rfl, Nat.le_of_ble_eq_true rfl⟩) ⟨pcW_blind, va_recv C0.2.2.2.1 hPc (ci := 5) (q0 := 0) rfl rfl, pcW_of hPc hDc C0.2.2.2⟩ rfl rfl hl.1 rfl (lv_room (Nat.le_of_ble_eq_true rfl)) dL_law_679 ⟨hcc, hss⟩) (fun H locs hP hD hS => ?_)
    refine r_aload_n C0 dL_law_682 hl 2 rfl ?_
    refine r_callIC (Wc := [wModel K aM M ML]) (wf := fun (u : Rc × RcL) => [wModel K aM u.1 u.2]) (Wn := [wCard K (AA 0) (AA 1 0) (AA 2 0) (AA 4 0) (AA 6 0) (AA 3 0) (AA 7 0) (AA 8 0) (zx.2.1), wArr K (AA 1 0) 440 (c 16 0), wPlan K (AA 2) (c 1), wLine K (AA 3) (AA 2 0) (zx.2.2.1), wReader K (AA 4) (AA 5 0) (AA 1 0) (c 3), wPlan K (AA 5) (c 4), wLine K (AA 6) (AA 2 0) (c 5), wFinder K (AA 7) (AA 3 0) (zx.2.2.2.1) (zx.2.2.2.2), wHist K (AA 8) gH (c 7), wLine K (AA 9) (AA 2 0) (c 8), wLine K (AA 10) (AA 2 0) (c 9), wLine K (AA 11) (AA 2 0) (c 10), wLine K (AA 12) (AA 2 0) (c 11), wLine K (AA 13) (AA 2 0) (c 12), wLine K (AA 14) (AA 2 0) (c 13), wLine K (AA 15) (AA 2 0) (c 14), wLine K (AA 16) (AA 2 0) (c 15), wModel K aM (zm.2.1) (zm.2.2), wOut K aO O]) hP hD hS hA [17] [0, 1, 2, 3, 4, 5, 6, 7, 8, 9, 10, 11, 12, 13, 14, 15, 16, 18] [0, 1, 2, 3, 4, 5, 6, 7, 8, 9, 10, 11, 12, 13, 14, 15, 16, 18, 17] 19 rfl rfl (by decide) rfl rfl (by decide) (fun hPc hDc hFc => va_runV (As := []) (rest := [.int zx.1]) C0.1 (ctX6_longest l D K N aM M ML H.size zm hzm) (cwV 0 C0.1.2.2.2.2 (gdVB wsL_law_in0 wd32_14 wd32_15 wd32_16 wd1_5 wd32_17) rfl rfl rfl (by decide +kernel) ⟨Nat.le_of_ble_eq_true rfl, Nat.le_of_ble_eq_true rfl⟩) ⟨pcW_blind, va_recv C0.2.2.2.1 hPc (ci := 6) (q0 := 0) rfl rfl, pcW_of hPc hDc C0.2.2.2⟩ rfl rfl hl.1 rfl (lv_room (Nat.le_of_ble_eq_true rfl)) dL_law_683 ⟨hcc, hss⟩) (fun H locs hP hD hS => ?_)
    refine lv_icmp_eq (tgt := 792) C0.1.1 C0.1.2.1 dL_law_686 (by decide) (fun _ => ?_) (fun c9 => absurd heq c9)
    refine lv_iinc (v := nI (6 * (j + 1))) (lv' := [(4, .int (nI (6 * (j + 1)))), (0, .ref b), (1, .ref (AA 0 0)), (2, .ref (aM 0)), (3, .ref aO)]) C0.1.1 C0.1.2.1 dL_law_792 hl (k := 4) rfl (nI6 j) (by decide) rfl (fun ls hl => ?_)
    refine r_goto C0 23 dL_law_795 (by decide) ?_
    refine W.widen (k := 1000 + (j + 1)) (n := 200000 + 6 * (j + 1)) (by omega) (by omega) ?_
    exact kk (va_up (va_up (va_up c 0 (zx.2.1)) 2 (zx.2.2.1)) 6 (zx.2.2.2.1)) (zx.2.2.2.2) (zm.2.1) (zm.2.2) O H locs ls hrel hP hD hS (lv_sub hl [1, 2, 3, 4, 0] rfl)
set_option maxHeartbeats 4000000 in
set_option maxRecDepth 20000 in
theorem law_case16 {p : Program} {l : Launch} {e : Env} {s : State} {m : MethodId} {below : List Frame} {meth : Method} {cd : Code} {D : va_G} {K : Nat → ClassId} {b L : Nat} {xs : Nat → Int32} {Q : State → Prop} (hL : L ≤ 3072) (C0 : cx p s m #[Value.ref b] meth cd code 7 RL lw_tbl ret D K) (hX : va_X b L xs s s.heap) (hbl : b < s.heap.size) (hl0 : l.stackTraces = false) {adK adV adN : Nat → Nat} (hE : SK adK adV (fun q : Nat => s.heap.size ≤ q) s s.heap) (hT : thK adN (fun q : Nat => s.heap.size ≤ q) s s.heap) {AA : Nat → Nat → Nat} {gH : Nat → Option Nat} {aM : Nat → Nat} {aO : Nat} (hG : gHok gH (AA 9) (AA 10) (AA 11) (AA 12) (AA 13) (AA 14) (AA 15) (AA 16)) {N : Nat} {Rel : (Nat → Rc) → RcL → Rc → RcL → Prop} (sp16 : SP16 N Rel) (j : Nat) (hj : 6 * j + 6 ≤ L) (c : Nat → Rc) (FL : RcL) (M : Rc) (ML : RcL) (O : Nat → Int64) (H : Heap) (locs : List Loc) (ls : Array Slot) (hrel : Rel c FL M ML) (hP : va_P D vwCl (fl (lawW K AA gH aM aO c FL M ML O)) H) (hD : va_D (fun q : Nat => s.heap.size ≤ q) (fl (lawW K AA gH aM aO c FL M ML O))) (hS : va_S (fun q : Nat => s.heap.size ≤ q) s.heap H locs) (hl : lv_has ls 7 [(0, .ref b), (1, .ref (AA 0 0)), (2, .ref (aM 0)), (3, .ref aO), (4, .int (nI (6 * j)))]) (kk : ∀ (c : Nat → Rc) (FL : RcL) (M : Rc) (ML : RcL) (O : Nat → Int64) (H : Heap) (locs : List Loc) (ls : Array Slot), Rel c FL M ML → va_P D vwCl (fl (lawW K AA gH aM aO c FL M ML O)) H → va_D (fun q : Nat => s.heap.size ≤ q) (fl (lawW K AA gH aM aO c FL M ML O)) → va_S (fun q : Nat => s.heap.size ≤ q) s.heap H locs → lv_has ls 7 [(0, .ref b), (1, .ref (AA 0 0)), (2, .ref (aM 0)), (3, .ref aO), (4, .int (nI (6 * (j + 1))))] → W p l e room_1 s m #[Value.ref b] below meth cd H locs (1000 + (j + 1)) (200000 + 6 * (j + 1)) Q (F0 m 23 ls [])) : W p l e room_1 s m #[Value.ref b] below meth cd H locs (1000 + j) (200000 + 6 * j) Q (F0 m 691 ls []) := by
    have hx := C0.1.1
    have hb := C0.1.2.1
    have hA : ∀ q : Nat, s.heap.size ≤ q → (fun q : Nat => s.heap.size ≤ q) q := fun _ h => h
    have hbA : ¬ (fun q : Nat => s.heap.size ≤ q) b := Nat.not_le.mpr hbl
    have hcc : 1000 + j + 0 ≤ room_1.cells := by show 1000 + j + 0 ≤ 601024; omega
    have hss : 200000 + 6 * j + 0 ≤ room_1.slots := by show 200000 + 6 * j + 0 ≤ 7293034; omega
    have hcc1 : 1000 + j + 1 ≤ room_1.cells := by show 1000 + j + 1 ≤ 601024; omega
    have hss1 : 200000 + 6 * j + 6 ≤ room_1.slots := by show 200000 + 6 * j + 6 ≤ 7293034; omega
    have hi1 : vp_in (nI (6 * j) + 1) L := hi_in (k := 1) (by decide) hj hL
    have hi2 : vp_in (nI (6 * j) + 2) L := hi_in (k := 2) (by decide) hj hL
    have hi3 : vp_in (nI (6 * j) + 3) L := hi_in (k := 3) (by decide) hj hL
    have hi4 : vp_in (nI (6 * j) + 4) L := hi_in (k := 4) (by decide) hj hL
    have hi5 : vp_in (nI (6 * j) + 5) L := hi_in (k := 5) (by decide) hj hL
    obtain ⟨zx, zm, hzx, hzm, heq, hrel⟩ := sp16 c FL M ML hrel (xs (nI (6 * j) + 1).toNatClampNeg)
    refine r_aload_n C0 dL_law_691 hl 1 rfl ?_
    refine r_aload_n C0 dL_law_692 hl 0 rfl ?_
    refine r_iload C0 dL_law_693 hl 4 rfl ?_
    refine r_iconst C0 1 dL_law_695 (by decide) ?_
    refine r_iadd C0 dL_law_696 ?_
    refine va_sld hx hb hX hbl hbA hS hi1 dL_law_697 ?_
    refine r_callIC (Wc := [wCard K (AA 0) (AA 1 0) (AA 2 0) (AA 4 0) (AA 6 0) (AA 3 0) (AA 7 0) (AA 8 0) (c 0), wPlan K (AA 2) (c 1), wLine K (AA 6) (AA 2 0) (c 5), wHist K (AA 8) gH (c 7), wLine K (AA 9) (AA 2 0) (c 8), wLine K (AA 10) (AA 2 0) (c 9), wLine K (AA 11) (AA 2 0) (c 10), wLine K (AA 12) (AA 2 0) (c 11), wLine K (AA 13) (AA 2 0) (c 12), wLine K (AA 14) (AA 2 0) (c 13), wLine K (AA 15) (AA 2 0) (c 14), wLine K (AA 16) (AA 2 0) (c 15)]) (wf := fun (u : Rc × Rc × Rc × Rc × Rc × Rc × Rc × Rc × Rc × Rc) => [wCard K (AA 0) (AA 1 0) (AA 2 0) (AA 4 0) (AA 6 0) (AA 3 0) (AA 7 0) (AA 8 0) (c 0), wPlan K (AA 2) (c 1), wLine K (AA 6) (AA 2 0) u.1, wHist K (AA 8) gH u.2.1, wLine K (AA 9) (AA 2 0) u.2.2.1, wLine K (AA 10) (AA 2 0) u.2.2.2.1, wLine K (AA 11) (AA 2 0) u.2.2.2.2.1, wLine K (AA 12) (AA 2 0) u.2.2.2.2.2.1, wLine K (AA 13) (AA 2 0) u.2.2.2.2.2.2.1, wLine K (AA 14) (AA 2 0) u.2.2.2.2.2.2.2.1, wLine K (AA 15) (AA 2 0) u.2.2.2.2.2.2.2.2.1, wLine K (AA 16) (AA 2 0) u.2.2.2.2.2.2.2.2.2]) (Wn := [wCard K (AA 0) (AA 1 0) (AA 2 0) (AA 4 0) (AA 6 0) (AA 3 0) (AA 7 0) (AA 8 0) (c 0), wArr K (AA 1 0) 440 (c 16 0), wPlan K (AA 2) (c 1), wLine K (AA 3) (AA 2 0) (c 2), wReader K (AA 4) (AA 5 0) (AA 1 0) (c 3), wPlan K (AA 5) (c 4), wLine K (AA 6) (AA 2 0) (zx.2.1), wFinder K (AA 7) (AA 3 0) (c 6) FL, wHist K (AA 8) gH (zx.2.2.1), wLine K (AA 9) (AA 2 0) (zx.2.2.2.1), wLine K (AA 10) (AA 2 0) (zx.2.2.2.2.1), wLine K (AA 11) (AA 2 0) (zx.2.2.2.2.2.1), wLine K (AA 12) (AA 2 0) (zx.2.2.2.2.2.2.1), wLine K (AA 13) (AA 2 0) (zx.2.2.2.2.2.2.2.1), wLine K (AA 14) (AA 2 0) (zx.2.2.2.2.2.2.2.2.1), wLine K (AA 15) (AA 2 0) (zx.2.2.2.2.2.2.2.2.2.1), wLine K (AA 16) (AA 2 0) (zx.2.2.2.2.2.2.2.2.2.2), wModel K aM M ML, wOut K aO O]) hP hD hS hA [0, 2, 6, 8, 9, 10, 11, 12, 13, 14, 15, 16] [1, 3, 4, 5, 7, 17, 18] [7, 0, 8, 1, 2, 3, 9, 4, 10, 11, 12, 13, 14, 15, 16, 17, 18, 5, 6] 19 rfl rfl (by decide) rfl rfl (by decide) (fun hPc hDc hFc => va_runV (As := [.int (xs (nI (6 * j) + 1).toNatClampNeg)]) (rest := []) C0.1 (ctX5_pass l D K N (AA 0) (AA 2) (AA 6) (AA 8) (AA 9) (AA 10) (AA 11) (AA 12) (AA 13) (AA 14) (AA 15) (AA 16) gH (AA 1 0) (AA 4 0) (AA 3 0) (AA 7 0) hG (c 0) (c 1) (c 5) (c 7) (c 8) (c 9) (c 10) (c 11) (c 12) (c 13) (c 14) (c 15) (xs (nI (6 * j) + 1).toNatClampNeg) H.size zx hzx) (cwV 1 C0.1.2.2.2.2 (gdVB wsL_law_in0 wd32_18 wd32_19 wd32_20 wd1_2 wd32_21) rfl rfl rfl (by decide +kernel) ⟨Nat.le_of_ble_eq_true rfl, Nat.le_of_ble_eq_true rfl⟩) ⟨pcW_blind, va_recv C0.2.2.2.1 hPc (ci := 5) (q0 := 0) rfl rfl, pcW_of hPc hDc C0.2.2.2⟩ rfl rfl hl.1 rfl (lv_room (Nat.le_of_ble_eq_true rfl)) dL_law_698 ⟨hcc, hss⟩) (fun H locs hP hD hS => ?_)
    refine r_aload_n C0 dL_law_701 hl 2 rfl ?_
    refine r_aload_n C0 dL_law_702 hl 0 rfl ?_
    refine r_iload C0 dL_law_703 hl 4 rfl ?_
    refine r_iconst C0 1 dL_law_705 (by decide) ?_
    refine r_iadd C0 dL_law_706 ?_
    refine va_sld hx hb hX hbl hbA hS hi1 dL_law_707 ?_
    refine r_callIC (Wc := [wModel K aM M ML]) (wf := fun (u : Rc) => [wModel K aM u ML]) (Wn := [wCard K (AA 0) (AA 1 0) (AA 2 0) (AA 4 0) (AA 6 0) (AA 3 0) (AA 7 0) (AA 8 0) (c 0), wArr K (AA 1 0) 440 (c 16 0), wPlan K (AA 2) (c 1), wLine K (AA 3) (AA 2 0) (c 2), wReader K (AA 4) (AA 5 0) (AA 1 0) (c 3), wPlan K (AA 5) (c 4), wLine K (AA 6) (AA 2 0) (zx.2.1), wFinder K (AA 7) (AA 3 0) (c 6) FL, wHist K (AA 8) gH (zx.2.2.1), wLine K (AA 9) (AA 2 0) (zx.2.2.2.1), wLine K (AA 10) (AA 2 0) (zx.2.2.2.2.1), wLine K (AA 11) (AA 2 0) (zx.2.2.2.2.2.1), wLine K (AA 12) (AA 2 0) (zx.2.2.2.2.2.2.1), wLine K (AA 13) (AA 2 0) (zx.2.2.2.2.2.2.2.1), wLine K (AA 14) (AA 2 0) (zx.2.2.2.2.2.2.2.2.1), wLine K (AA 15) (AA 2 0) (zx.2.2.2.2.2.2.2.2.2.1), wLine K (AA 16) (AA 2 0) (zx.2.2.2.2.2.2.2.2.2.2), wModel K aM (zm.2) ML, wOut K aO O]) hP hD hS hA [17] [0, 1, 2, 3, 4, 5, 6, 7, 8, 9, 10, 11, 12, 13, 14, 15, 16, 18] [0, 1, 2, 3, 4, 5, 6, 7, 8, 9, 10, 11, 12, 13, 14, 15, 16, 18, 17] 19 rfl rfl (by decide) rfl rfl (by decide) (fun hPc hDc hFc => va_runV (As := [.int (xs (nI (6 * j) + 1).toNatClampNeg)]) (rest := [.int zx.1]) C0.1 (ctX6_pass l D K N aM M ML (xs (nI (6 * j) + 1).toNatClampNeg) H.size zm hzm) (cwV 1 C0.1.2.2.2.2 (gdVB wsL_law_in0 wd33_15 wd33_16 wd33_17 wd1_5 wd33_18) rfl rfl rfl (by decide +kernel) ⟨Nat.le_of_ble_eq_true rfl, Nat.le_of_ble_eq_true rfl⟩) ⟨pcW_blind, va_recv C0.2.2.2.1 hPc (ci := 6) (q0 := 0) rfl rfl, pcW_of hPc hDc C0.2.2.2⟩ rfl rfl hl.1 rfl (lv_room (Nat.le_of_ble_eq_true rfl)) dL_law_708 ⟨hcc, hss⟩) (fun H locs hP hD hS => ?_)
    refine lv_icmp_eq (tgt := 792) C0.1.1 C0.1.2.1 dL_law_711 (by decide) (fun _ => ?_) (fun c9 => absurd heq c9)
    refine lv_iinc (v := nI (6 * (j + 1))) (lv' := [(4, .int (nI (6 * (j + 1)))), (0, .ref b), (1, .ref (AA 0 0)), (2, .ref (aM 0)), (3, .ref aO)]) C0.1.1 C0.1.2.1 dL_law_792 hl (k := 4) rfl (nI6 j) (by decide) rfl (fun ls hl => ?_)
    refine r_goto C0 23 dL_law_795 (by decide) ?_
    refine W.widen (k := 1000 + (j + 1)) (n := 200000 + 6 * (j + 1)) (by omega) (by omega) ?_
    exact kk (va_up (va_up (va_up (va_up (va_up (va_up (va_up (va_up (va_up (va_up c 5 (zx.2.1)) 7 (zx.2.2.1)) 8 (zx.2.2.2.1)) 9 (zx.2.2.2.2.1)) 10 (zx.2.2.2.2.2.1)) 11 (zx.2.2.2.2.2.2.1)) 12 (zx.2.2.2.2.2.2.2.1)) 13 (zx.2.2.2.2.2.2.2.2.1)) 14 (zx.2.2.2.2.2.2.2.2.2.1)) 15 (zx.2.2.2.2.2.2.2.2.2.2)) FL (zm.2) ML O H locs ls hrel hP hD hS (lv_sub hl [1, 2, 3, 4, 0] rfl)
set_option maxHeartbeats 4000000 in
set_option maxRecDepth 20000 in
theorem law_case17 {p : Program} {l : Launch} {e : Env} {s : State} {m : MethodId} {below : List Frame} {meth : Method} {cd : Code} {D : va_G} {K : Nat → ClassId} {b L : Nat} {xs : Nat → Int32} {Q : State → Prop} (hL : L ≤ 3072) (C0 : cx p s m #[Value.ref b] meth cd code 7 RL lw_tbl ret D K) (hX : va_X b L xs s s.heap) (hbl : b < s.heap.size) (hl0 : l.stackTraces = false) {adK adV adN : Nat → Nat} (hE : SK adK adV (fun q : Nat => s.heap.size ≤ q) s s.heap) (hT : thK adN (fun q : Nat => s.heap.size ≤ q) s s.heap) {AA : Nat → Nat → Nat} {gH : Nat → Option Nat} {aM : Nat → Nat} {aO : Nat} (hG : gHok gH (AA 9) (AA 10) (AA 11) (AA 12) (AA 13) (AA 14) (AA 15) (AA 16)) {N : Nat} {Rel : (Nat → Rc) → RcL → Rc → RcL → Prop} (sp17 : SP17 N Rel) (j : Nat) (hj : 6 * j + 6 ≤ L) (c : Nat → Rc) (FL : RcL) (M : Rc) (ML : RcL) (O : Nat → Int64) (H : Heap) (locs : List Loc) (ls : Array Slot) (hrel : Rel c FL M ML) (hP : va_P D vwCl (fl (lawW K AA gH aM aO c FL M ML O)) H) (hD : va_D (fun q : Nat => s.heap.size ≤ q) (fl (lawW K AA gH aM aO c FL M ML O))) (hS : va_S (fun q : Nat => s.heap.size ≤ q) s.heap H locs) (hl : lv_has ls 7 [(0, .ref b), (1, .ref (AA 0 0)), (2, .ref (aM 0)), (3, .ref aO), (4, .int (nI (6 * j)))]) (kk : ∀ (c : Nat → Rc) (FL : RcL) (M : Rc) (ML : RcL) (O : Nat → Int64) (H : Heap) (locs : List Loc) (ls : Array Slot), Rel c FL M ML → va_P D vwCl (fl (lawW K AA gH aM aO c FL M ML O)) H → va_D (fun q : Nat => s.heap.size ≤ q) (fl (lawW K AA gH aM aO c FL M ML O)) → va_S (fun q : Nat => s.heap.size ≤ q) s.heap H locs → lv_has ls 7 [(0, .ref b), (1, .ref (AA 0 0)), (2, .ref (aM 0)), (3, .ref aO), (4, .int (nI (6 * (j + 1))))] → W p l e room_1 s m #[Value.ref b] below meth cd H locs (1000 + (j + 1)) (200000 + 6 * (j + 1)) Q (F0 m 23 ls [])) : W p l e room_1 s m #[Value.ref b] below meth cd H locs (1000 + j) (200000 + 6 * j) Q (F0 m 716 ls []) := by
    have hx := C0.1.1
    have hb := C0.1.2.1
    have hA : ∀ q : Nat, s.heap.size ≤ q → (fun q : Nat => s.heap.size ≤ q) q := fun _ h => h
    have hbA : ¬ (fun q : Nat => s.heap.size ≤ q) b := Nat.not_le.mpr hbl
    have hcc : 1000 + j + 0 ≤ room_1.cells := by show 1000 + j + 0 ≤ 601024; omega
    have hss : 200000 + 6 * j + 0 ≤ room_1.slots := by show 200000 + 6 * j + 0 ≤ 7293034; omega
    have hcc1 : 1000 + j + 1 ≤ room_1.cells := by show 1000 + j + 1 ≤ 601024; omega
    have hss1 : 200000 + 6 * j + 6 ≤ room_1.slots := by show 200000 + 6 * j + 6 ≤ 7293034; omega
    have hi1 : vp_in (nI (6 * j) + 1) L := hi_in (k := 1) (by decide) hj hL
    have hi2 : vp_in (nI (6 * j) + 2) L := hi_in (k := 2) (by decide) hj hL
    have hi3 : vp_in (nI (6 * j) + 3) L := hi_in (k := 3) (by decide) hj hL
    have hi4 : vp_in (nI (6 * j) + 4) L := hi_in (k := 4) (by decide) hj hL
    have hi5 : vp_in (nI (6 * j) + 5) L := hi_in (k := 5) (by decide) hj hL
    obtain ⟨zx, zm, hzx, hzm, heq, hrel⟩ := sp17 c FL M ML hrel ()
    refine r_aload_n C0 dL_law_716 hl 1 rfl ?_
    refine r_callIC (Wc := [wCard K (AA 0) (AA 1 0) (AA 2 0) (AA 4 0) (AA 6 0) (AA 3 0) (AA 7 0) (AA 8 0) (c 0), wPlan K (AA 2) (c 1), wLine K (AA 6) (AA 2 0) (c 5), wHist K (AA 8) gH (c 7), wLine K (AA 9) (AA 2 0) (c 8), wLine K (AA 10) (AA 2 0) (c 9), wLine K (AA 11) (AA 2 0) (c 10), wLine K (AA 12) (AA 2 0) (c 11), wLine K (AA 13) (AA 2 0) (c 12), wLine K (AA 14) (AA 2 0) (c 13), wLine K (AA 15) (AA 2 0) (c 14), wLine K (AA 16) (AA 2 0) (c 15)]) (wf := fun (u : Rc × Rc × Rc × Rc × Rc × Rc × Rc × Rc × Rc × Rc) => [wCard K (AA 0) (AA 1 0) (AA 2 0) (AA 4 0) (AA 6 0) (AA 3 0) (AA 7 0) (AA 8 0) (c 0), wPlan K (AA 2) (c 1), wLine K (AA 6) (AA 2 0) u.1, wHist K (AA 8) gH u.2.1, wLine K (AA 9) (AA 2 0) u.2.2.1, wLine K (AA 10) (AA 2 0) u.2.2.2.1, wLine K (AA 11) (AA 2 0) u.2.2.2.2.1, wLine K (AA 12) (AA 2 0) u.2.2.2.2.2.1, wLine K (AA 13) (AA 2 0) u.2.2.2.2.2.2.1, wLine K (AA 14) (AA 2 0) u.2.2.2.2.2.2.2.1, wLine K (AA 15) (AA 2 0) u.2.2.2.2.2.2.2.2.1, wLine K (AA 16) (AA 2 0) u.2.2.2.2.2.2.2.2.2]) (Wn := [wCard K (AA 0) (AA 1 0) (AA 2 0) (AA 4 0) (AA 6 0) (AA 3 0) (AA 7 0) (AA 8 0) (c 0), wArr K (AA 1 0) 440 (c 16 0), wPlan K (AA 2) (c 1), wLine K (AA 3) (AA 2 0) (c 2), wReader K (AA 4) (AA 5 0) (AA 1 0) (c 3), wPlan K (AA 5) (c 4), wLine K (AA 6) (AA 2 0) (zx.2.1), wFinder K (AA 7) (AA 3 0) (c 6) FL, wHist K (AA 8) gH (zx.2.2.1), wLine K (AA 9) (AA 2 0) (zx.2.2.2.1), wLine K (AA 10) (AA 2 0) (zx.2.2.2.2.1), wLine K (AA 11) (AA 2 0) (zx.2.2.2.2.2.1), wLine K (AA 12) (AA 2 0) (zx.2.2.2.2.2.2.1), wLine K (AA 13) (AA 2 0) (zx.2.2.2.2.2.2.2.1), wLine K (AA 14) (AA 2 0) (zx.2.2.2.2.2.2.2.2.1), wLine K (AA 15) (AA 2 0) (zx.2.2.2.2.2.2.2.2.2.1), wLine K (AA 16) (AA 2 0) (zx.2.2.2.2.2.2.2.2.2.2), wModel K aM M ML, wOut K aO O]) hP hD hS hA [0, 2, 6, 8, 9, 10, 11, 12, 13, 14, 15, 16] [1, 3, 4, 5, 7, 17, 18] [7, 0, 8, 1, 2, 3, 9, 4, 10, 11, 12, 13, 14, 15, 16, 17, 18, 5, 6] 19 rfl rfl (by decide) rfl rfl (by decide) (fun hPc hDc hFc => va_runV (As := []) (rest := []) C0.1 (ctX5_step l D K N (AA 0) (AA 2) (AA 6) (AA 8) (AA 9) (AA 10) (AA 11) (AA 12) (AA 13) (AA 14) (AA 15) (AA 16) gH (AA 1 0) (AA 4 0) (AA 3 0) (AA 7 0) hG (c 0) (c 1) (c 5) (c 7) (c 8) (c 9) (c 10) (c 11) (c 12) (c 13) (c 14) (c 15) H.size zx hzx) (cwV 0 C0.1.2.2.2.2 (gdVB wsL_law_in0 wd34_0 wd34_1 wd34_2 wd1_2 wd34_3) rfl rfl rfl (by decide +kernel) ⟨Nat.le_of_ble_eq_true rfl, Nat.le_of_ble_eq_true rfl⟩) ⟨pcW_blind, va_recv C0.2.2.2.1 hPc (ci := 5) (q0 := 0) rfl rfl, pcW_of hPc hDc C0.2.2.2⟩ rfl rfl hl.1 rfl (lv_room (Nat.le_of_ble_eq_true rfl)) dL_law_717 ⟨hcc, hss⟩) (fun H locs hP hD hS => ?_)
    refine r_aload_n C0 dL_law_720 hl 2 rfl ?_
    refine r_callIC (Wc := [wModel K aM M ML]) (wf := fun (u : Rc) => [wModel K aM u ML]) (Wn := [wCard K (AA 0) (AA 1 0) (AA 2 0) (AA 4 0) (AA 6 0) (AA 3 0) (AA 7 0) (AA 8 0) (c 0), wArr K (AA 1 0) 440 (c 16 0), wPlan K (AA 2) (c 1), wLine K (AA 3) (AA 2 0) (c 2), wReader K (AA 4) (AA 5 0) (AA 1 0) (c 3), wPlan K (AA 5) (c 4), wLine K (AA 6) (AA 2 0) (zx.2.1), wFinder K (AA 7) (AA 3 0) (c 6) FL, wHist K (AA 8) gH (zx.2.2.1), wLine K (AA 9) (AA 2 0) (zx.2.2.2.1), wLine K (AA 10) (AA 2 0) (zx.2.2.2.2.1), wLine K (AA 11) (AA 2 0) (zx.2.2.2.2.2.1), wLine K (AA 12) (AA 2 0) (zx.2.2.2.2.2.2.1), wLine K (AA 13) (AA 2 0) (zx.2.2.2.2.2.2.2.1), wLine K (AA 14) (AA 2 0) (zx.2.2.2.2.2.2.2.2.1), wLine K (AA 15) (AA 2 0) (zx.2.2.2.2.2.2.2.2.2.1), wLine K (AA 16) (AA 2 0) (zx.2.2.2.2.2.2.2.2.2.2), wModel K aM (zm.2) ML, wOut K aO O]) hP hD hS hA [17] [0, 1, 2, 3, 4, 5, 6, 7, 8, 9, 10, 11, 12, 13, 14, 15, 16, 18] [0, 1, 2, 3, 4, 5, 6, 7, 8, 9, 10, 11, 12, 13, 14, 15, 16, 18, 17] 19 rfl rfl (by decide) rfl rfl (by decide) (fun hPc hDc hFc => va_runV (As := []) (rest := [.int zx.1]) C0.1 (ctX6_step l D K N aM M ML H.size zm hzm) (cwV 0 C0.1.2.2.2.2 (gdVB wsL_law_in0 wd34_5 wd34_6 wd34_7 wd1_5 wd34_8) rfl rfl rfl (by decide +kernel) ⟨Nat.le_of_ble_eq_true rfl, Nat.le_of_ble_eq_true rfl⟩) ⟨pcW_blind, va_recv C0.2.2.2.1 hPc (ci := 6) (q0 := 0) rfl rfl, pcW_of hPc hDc C0.2.2.2⟩ rfl rfl hl.1 rfl (lv_room (Nat.le_of_ble_eq_true rfl)) dL_law_721 ⟨hcc, hss⟩) (fun H locs hP hD hS => ?_)
    refine lv_icmp_eq (tgt := 792) C0.1.1 C0.1.2.1 dL_law_724 (by decide) (fun _ => ?_) (fun c9 => absurd heq c9)
    refine lv_iinc (v := nI (6 * (j + 1))) (lv' := [(4, .int (nI (6 * (j + 1)))), (0, .ref b), (1, .ref (AA 0 0)), (2, .ref (aM 0)), (3, .ref aO)]) C0.1.1 C0.1.2.1 dL_law_792 hl (k := 4) rfl (nI6 j) (by decide) rfl (fun ls hl => ?_)
    refine r_goto C0 23 dL_law_795 (by decide) ?_
    refine W.widen (k := 1000 + (j + 1)) (n := 200000 + 6 * (j + 1)) (by omega) (by omega) ?_
    exact kk (va_up (va_up (va_up (va_up (va_up (va_up (va_up (va_up (va_up (va_up c 5 (zx.2.1)) 7 (zx.2.2.1)) 8 (zx.2.2.2.1)) 9 (zx.2.2.2.2.1)) 10 (zx.2.2.2.2.2.1)) 11 (zx.2.2.2.2.2.2.1)) 12 (zx.2.2.2.2.2.2.2.1)) 13 (zx.2.2.2.2.2.2.2.2.1)) 14 (zx.2.2.2.2.2.2.2.2.2.1)) 15 (zx.2.2.2.2.2.2.2.2.2.2)) FL (zm.2) ML O H locs ls hrel hP hD hS (lv_sub hl [1, 2, 3, 4, 0] rfl)
set_option maxHeartbeats 4000000 in
set_option maxRecDepth 20000 in
theorem law_case18 {p : Program} {l : Launch} {e : Env} {s : State} {m : MethodId} {below : List Frame} {meth : Method} {cd : Code} {D : va_G} {K : Nat → ClassId} {b L : Nat} {xs : Nat → Int32} {Q : State → Prop} (hL : L ≤ 3072) (C0 : cx p s m #[Value.ref b] meth cd code 7 RL lw_tbl ret D K) (hX : va_X b L xs s s.heap) (hbl : b < s.heap.size) (hl0 : l.stackTraces = false) {adK adV adN : Nat → Nat} (hE : SK adK adV (fun q : Nat => s.heap.size ≤ q) s s.heap) (hT : thK adN (fun q : Nat => s.heap.size ≤ q) s s.heap) {AA : Nat → Nat → Nat} {gH : Nat → Option Nat} {aM : Nat → Nat} {aO : Nat} (hG : gHok gH (AA 9) (AA 10) (AA 11) (AA 12) (AA 13) (AA 14) (AA 15) (AA 16)) {N : Nat} {Rel : (Nat → Rc) → RcL → Rc → RcL → Prop} (sp18 : SP18 N Rel) (j : Nat) (hj : 6 * j + 6 ≤ L) (c : Nat → Rc) (FL : RcL) (M : Rc) (ML : RcL) (O : Nat → Int64) (H : Heap) (locs : List Loc) (ls : Array Slot) (hrel : Rel c FL M ML) (hP : va_P D vwCl (fl (lawW K AA gH aM aO c FL M ML O)) H) (hD : va_D (fun q : Nat => s.heap.size ≤ q) (fl (lawW K AA gH aM aO c FL M ML O))) (hS : va_S (fun q : Nat => s.heap.size ≤ q) s.heap H locs) (hl : lv_has ls 7 [(0, .ref b), (1, .ref (AA 0 0)), (2, .ref (aM 0)), (3, .ref aO), (4, .int (nI (6 * j)))]) (kk : ∀ (c : Nat → Rc) (FL : RcL) (M : Rc) (ML : RcL) (O : Nat → Int64) (H : Heap) (locs : List Loc) (ls : Array Slot), Rel c FL M ML → va_P D vwCl (fl (lawW K AA gH aM aO c FL M ML O)) H → va_D (fun q : Nat => s.heap.size ≤ q) (fl (lawW K AA gH aM aO c FL M ML O)) → va_S (fun q : Nat => s.heap.size ≤ q) s.heap H locs → lv_has ls 7 [(0, .ref b), (1, .ref (AA 0 0)), (2, .ref (aM 0)), (3, .ref aO), (4, .int (nI (6 * (j + 1))))] → W p l e room_1 s m #[Value.ref b] below meth cd H locs (1000 + (j + 1)) (200000 + 6 * (j + 1)) Q (F0 m 23 ls [])) : W p l e room_1 s m #[Value.ref b] below meth cd H locs (1000 + j) (200000 + 6 * j) Q (F0 m 729 ls []) := by
    have hx := C0.1.1
    have hb := C0.1.2.1
    have hA : ∀ q : Nat, s.heap.size ≤ q → (fun q : Nat => s.heap.size ≤ q) q := fun _ h => h
    have hbA : ¬ (fun q : Nat => s.heap.size ≤ q) b := Nat.not_le.mpr hbl
    have hcc : 1000 + j + 0 ≤ room_1.cells := by show 1000 + j + 0 ≤ 601024; omega
    have hss : 200000 + 6 * j + 0 ≤ room_1.slots := by show 200000 + 6 * j + 0 ≤ 7293034; omega
    have hcc1 : 1000 + j + 1 ≤ room_1.cells := by show 1000 + j + 1 ≤ 601024; omega
    have hss1 : 200000 + 6 * j + 6 ≤ room_1.slots := by show 200000 + 6 * j + 6 ≤ 7293034; omega
    have hi1 : vp_in (nI (6 * j) + 1) L := hi_in (k := 1) (by decide) hj hL
    have hi2 : vp_in (nI (6 * j) + 2) L := hi_in (k := 2) (by decide) hj hL
    have hi3 : vp_in (nI (6 * j) + 3) L := hi_in (k := 3) (by decide) hj hL
    have hi4 : vp_in (nI (6 * j) + 4) L := hi_in (k := 4) (by decide) hj hL
    have hi5 : vp_in (nI (6 * j) + 5) L := hi_in (k := 5) (by decide) hj hL
    obtain ⟨zx, zm, hzx, hzm, heq, hrel⟩ := sp18 c FL M ML hrel (xs (nI (6 * j) + 1).toNatClampNeg) (xs (nI (6 * j) + 2).toNatClampNeg)
    refine r_aload_n C0 dL_law_729 hl 1 rfl ?_
    refine r_aload_n C0 dL_law_730 hl 0 rfl ?_
    refine r_iload C0 dL_law_731 hl 4 rfl ?_
    refine r_iconst C0 1 dL_law_733 (by decide) ?_
    refine r_iadd C0 dL_law_734 ?_
    refine va_sld hx hb hX hbl hbA hS hi1 dL_law_735 ?_
    refine r_aload_n C0 dL_law_736 hl 0 rfl ?_
    refine r_iload C0 dL_law_737 hl 4 rfl ?_
    refine r_iconst C0 2 dL_law_739 (by decide) ?_
    refine r_iadd C0 dL_law_740 ?_
    refine va_sld hx hb hX hbl hbA hS hi2 dL_law_741 ?_
    refine r_callIC (Wc := [wCard K (AA 0) (AA 1 0) (AA 2 0) (AA 4 0) (AA 6 0) (AA 3 0) (AA 7 0) (AA 8 0) (c 0), wPlan K (AA 2) (c 1), wLine K (AA 6) (AA 2 0) (c 5), wHist K (AA 8) gH (c 7), wLine K (AA 9) (AA 2 0) (c 8), wLine K (AA 10) (AA 2 0) (c 9), wLine K (AA 11) (AA 2 0) (c 10), wLine K (AA 12) (AA 2 0) (c 11), wLine K (AA 13) (AA 2 0) (c 12), wLine K (AA 14) (AA 2 0) (c 13), wLine K (AA 15) (AA 2 0) (c 14), wLine K (AA 16) (AA 2 0) (c 15)]) (wf := fun (u : Rc × Rc × Rc × Rc × Rc × Rc × Rc × Rc × Rc × Rc × Rc) => [wCard K (AA 0) (AA 1 0) (AA 2 0) (AA 4 0) (AA 6 0) (AA 3 0) (AA 7 0) (AA 8 0) u.1, wPlan K (AA 2) (c 1), wLine K (AA 6) (AA 2 0) u.2.1, wHist K (AA 8) gH u.2.2.1, wLine K (AA 9) (AA 2 0) u.2.2.2.1, wLine K (AA 10) (AA 2 0) u.2.2.2.2.1, wLine K (AA 11) (AA 2 0) u.2.2.2.2.2.1, wLine K (AA 12) (AA 2 0) u.2.2.2.2.2.2.1, wLine K (AA 13) (AA 2 0) u.2.2.2.2.2.2.2.1, wLine K (AA 14) (AA 2 0) u.2.2.2.2.2.2.2.2.1, wLine K (AA 15) (AA 2 0) u.2.2.2.2.2.2.2.2.2.1, wLine K (AA 16) (AA 2 0) u.2.2.2.2.2.2.2.2.2.2]) (Wn := [wCard K (AA 0) (AA 1 0) (AA 2 0) (AA 4 0) (AA 6 0) (AA 3 0) (AA 7 0) (AA 8 0) (zx.2.1), wArr K (AA 1 0) 440 (c 16 0), wPlan K (AA 2) (c 1), wLine K (AA 3) (AA 2 0) (c 2), wReader K (AA 4) (AA 5 0) (AA 1 0) (c 3), wPlan K (AA 5) (c 4), wLine K (AA 6) (AA 2 0) (zx.2.2.1), wFinder K (AA 7) (AA 3 0) (c 6) FL, wHist K (AA 8) gH (zx.2.2.2.1), wLine K (AA 9) (AA 2 0) (zx.2.2.2.2.1), wLine K (AA 10) (AA 2 0) (zx.2.2.2.2.2.1), wLine K (AA 11) (AA 2 0) (zx.2.2.2.2.2.2.1), wLine K (AA 12) (AA 2 0) (zx.2.2.2.2.2.2.2.1), wLine K (AA 13) (AA 2 0) (zx.2.2.2.2.2.2.2.2.1), wLine K (AA 14) (AA 2 0) (zx.2.2.2.2.2.2.2.2.2.1), wLine K (AA 15) (AA 2 0) (zx.2.2.2.2.2.2.2.2.2.2.1), wLine K (AA 16) (AA 2 0) (zx.2.2.2.2.2.2.2.2.2.2.2), wModel K aM M ML, wOut K aO O]) hP hD hS hA [0, 2, 6, 8, 9, 10, 11, 12, 13, 14, 15, 16] [1, 3, 4, 5, 7, 17, 18] [7, 0, 8, 1, 2, 3, 9, 4, 10, 11, 12, 13, 14, 15, 16, 17, 18, 5, 6] 19 rfl rfl (by decide) rfl rfl (by decide) (fun hPc hDc hFc => va_runV (As := [.int (xs (nI (6 * j) + 1).toNatClampNeg), .int (xs (nI (6 * j) + 2).toNatClampNeg)]) (rest := []) C0.1 (ctX5_cards l D K N (AA 0) (AA 2) (AA 6) (AA 8) (AA 9) (AA 10) (AA 11) (AA 12) (AA 13) (AA 14) (AA 15) (AA 16) gH (AA 1 0) (AA 4 0) (AA 3 0) (AA 7 0) hG (c 0) (c 1) (c 5) (c 7) (c 8) (c 9) (c 10) (c 11) (c 12) (c 13) (c 14) (c 15) (xs (nI (6 * j) + 1).toNatClampNeg) (xs (nI (6 * j) + 2).toNatClampNeg) H.size zx hzx) (cwV 2 C0.1.2.2.2.2 (gdVB wsL_law_in0 wd34_9 wd34_10 wd34_11 wd1_2 wd34_12) rfl rfl rfl (by decide +kernel) ⟨Nat.le_of_ble_eq_true rfl, Nat.le_of_ble_eq_true rfl⟩) ⟨pcW_blind, va_recv C0.2.2.2.1 hPc (ci := 5) (q0 := 0) rfl rfl, pcW_of hPc hDc C0.2.2.2⟩ rfl rfl hl.1 rfl (lv_room (Nat.le_of_ble_eq_true rfl)) dL_law_742 ⟨hcc, hss⟩) (fun H locs hP hD hS => ?_)
    refine r_aload_n C0 dL_law_745 hl 2 rfl ?_
    refine r_aload_n C0 dL_law_746 hl 0 rfl ?_
    refine r_iload C0 dL_law_747 hl 4 rfl ?_
    refine r_iconst C0 1 dL_law_749 (by decide) ?_
    refine r_iadd C0 dL_law_750 ?_
    refine va_sld hx hb hX hbl hbA hS hi1 dL_law_751 ?_
    refine r_aload_n C0 dL_law_752 hl 0 rfl ?_
    refine r_iload C0 dL_law_753 hl 4 rfl ?_
    refine r_iconst C0 2 dL_law_755 (by decide) ?_
    refine r_iadd C0 dL_law_756 ?_
    refine va_sld hx hb hX hbl hbA hS hi2 dL_law_757 ?_
    refine r_callIC (Wc := [wModel K aM M ML]) (wf := fun (u : Rc) => [wModel K aM u ML]) (Wn := [wCard K (AA 0) (AA 1 0) (AA 2 0) (AA 4 0) (AA 6 0) (AA 3 0) (AA 7 0) (AA 8 0) (zx.2.1), wArr K (AA 1 0) 440 (c 16 0), wPlan K (AA 2) (c 1), wLine K (AA 3) (AA 2 0) (c 2), wReader K (AA 4) (AA 5 0) (AA 1 0) (c 3), wPlan K (AA 5) (c 4), wLine K (AA 6) (AA 2 0) (zx.2.2.1), wFinder K (AA 7) (AA 3 0) (c 6) FL, wHist K (AA 8) gH (zx.2.2.2.1), wLine K (AA 9) (AA 2 0) (zx.2.2.2.2.1), wLine K (AA 10) (AA 2 0) (zx.2.2.2.2.2.1), wLine K (AA 11) (AA 2 0) (zx.2.2.2.2.2.2.1), wLine K (AA 12) (AA 2 0) (zx.2.2.2.2.2.2.2.1), wLine K (AA 13) (AA 2 0) (zx.2.2.2.2.2.2.2.2.1), wLine K (AA 14) (AA 2 0) (zx.2.2.2.2.2.2.2.2.2.1), wLine K (AA 15) (AA 2 0) (zx.2.2.2.2.2.2.2.2.2.2.1), wLine K (AA 16) (AA 2 0) (zx.2.2.2.2.2.2.2.2.2.2.2), wModel K aM (zm.2) ML, wOut K aO O]) hP hD hS hA [17] [0, 1, 2, 3, 4, 5, 6, 7, 8, 9, 10, 11, 12, 13, 14, 15, 16, 18] [0, 1, 2, 3, 4, 5, 6, 7, 8, 9, 10, 11, 12, 13, 14, 15, 16, 18, 17] 19 rfl rfl (by decide) rfl rfl (by decide) (fun hPc hDc hFc => va_runV (As := [.int (xs (nI (6 * j) + 1).toNatClampNeg), .int (xs (nI (6 * j) + 2).toNatClampNeg)]) (rest := [.int zx.1]) C0.1 (ctX6_cards l D K N aM M ML (xs (nI (6 * j) + 1).toNatClampNeg) (xs (nI (6 * j) + 2).toNatClampNeg) H.size zm hzm) (cwV 2 C0.1.2.2.2.2 (gdVB wsL_law_in0 wd34_14 wd34_15 wd34_16 wd1_5 wd34_17) rfl rfl rfl (by decide +kernel) ⟨Nat.le_of_ble_eq_true rfl, Nat.le_of_ble_eq_true rfl⟩) ⟨pcW_blind, va_recv C0.2.2.2.1 hPc (ci := 6) (q0 := 0) rfl rfl, pcW_of hPc hDc C0.2.2.2⟩ rfl rfl hl.1 rfl (lv_room (Nat.le_of_ble_eq_true rfl)) dL_law_758 ⟨hcc, hss⟩) (fun H locs hP hD hS => ?_)
    refine lv_icmp_eq (tgt := 792) C0.1.1 C0.1.2.1 dL_law_761 (by decide) (fun _ => ?_) (fun c9 => absurd heq c9)
    refine lv_iinc (v := nI (6 * (j + 1))) (lv' := [(4, .int (nI (6 * (j + 1)))), (0, .ref b), (1, .ref (AA 0 0)), (2, .ref (aM 0)), (3, .ref aO)]) C0.1.1 C0.1.2.1 dL_law_792 hl (k := 4) rfl (nI6 j) (by decide) rfl (fun ls hl => ?_)
    refine r_goto C0 23 dL_law_795 (by decide) ?_
    refine W.widen (k := 1000 + (j + 1)) (n := 200000 + 6 * (j + 1)) (by omega) (by omega) ?_
    exact kk (va_up (va_up (va_up (va_up (va_up (va_up (va_up (va_up (va_up (va_up (va_up c 0 (zx.2.1)) 5 (zx.2.2.1)) 7 (zx.2.2.2.1)) 8 (zx.2.2.2.2.1)) 9 (zx.2.2.2.2.2.1)) 10 (zx.2.2.2.2.2.2.1)) 11 (zx.2.2.2.2.2.2.2.1)) 12 (zx.2.2.2.2.2.2.2.2.1)) 13 (zx.2.2.2.2.2.2.2.2.2.1)) 14 (zx.2.2.2.2.2.2.2.2.2.2.1)) 15 (zx.2.2.2.2.2.2.2.2.2.2.2)) FL (zm.2) ML O H locs ls hrel hP hD hS (lv_sub hl [1, 2, 3, 4, 0] rfl)
set_option maxHeartbeats 4000000 in
set_option maxRecDepth 20000 in
theorem law_case19 {p : Program} {l : Launch} {e : Env} {s : State} {m : MethodId} {below : List Frame} {meth : Method} {cd : Code} {D : va_G} {K : Nat → ClassId} {b L : Nat} {xs : Nat → Int32} {Q : State → Prop} (hL : L ≤ 3072) (C0 : cx p s m #[Value.ref b] meth cd code 7 RL lw_tbl ret D K) (hX : va_X b L xs s s.heap) (hbl : b < s.heap.size) (hl0 : l.stackTraces = false) {adK adV adN : Nat → Nat} (hE : SK adK adV (fun q : Nat => s.heap.size ≤ q) s s.heap) (hT : thK adN (fun q : Nat => s.heap.size ≤ q) s s.heap) {AA : Nat → Nat → Nat} {gH : Nat → Option Nat} {aM : Nat → Nat} {aO : Nat} (hG : gHok gH (AA 9) (AA 10) (AA 11) (AA 12) (AA 13) (AA 14) (AA 15) (AA 16)) {N : Nat} {Rel : (Nat → Rc) → RcL → Rc → RcL → Prop} (sp19 : SP19 N Rel) (j : Nat) (hj : 6 * j + 6 ≤ L) (c : Nat → Rc) (FL : RcL) (M : Rc) (ML : RcL) (O : Nat → Int64) (H : Heap) (locs : List Loc) (ls : Array Slot) (hrel : Rel c FL M ML) (hP : va_P D vwCl (fl (lawW K AA gH aM aO c FL M ML O)) H) (hD : va_D (fun q : Nat => s.heap.size ≤ q) (fl (lawW K AA gH aM aO c FL M ML O))) (hS : va_S (fun q : Nat => s.heap.size ≤ q) s.heap H locs) (hl : lv_has ls 7 [(0, .ref b), (1, .ref (AA 0 0)), (2, .ref (aM 0)), (3, .ref aO), (4, .int (nI (6 * j)))]) (kk : ∀ (c : Nat → Rc) (FL : RcL) (M : Rc) (ML : RcL) (O : Nat → Int64) (H : Heap) (locs : List Loc) (ls : Array Slot), Rel c FL M ML → va_P D vwCl (fl (lawW K AA gH aM aO c FL M ML O)) H → va_D (fun q : Nat => s.heap.size ≤ q) (fl (lawW K AA gH aM aO c FL M ML O)) → va_S (fun q : Nat => s.heap.size ≤ q) s.heap H locs → lv_has ls 7 [(0, .ref b), (1, .ref (AA 0 0)), (2, .ref (aM 0)), (3, .ref aO), (4, .int (nI (6 * (j + 1))))] → W p l e room_1 s m #[Value.ref b] below meth cd H locs (1000 + (j + 1)) (200000 + 6 * (j + 1)) Q (F0 m 23 ls [])) : W p l e room_1 s m #[Value.ref b] below meth cd H locs (1000 + j) (200000 + 6 * j) Q (F0 m 766 ls []) := by
    have hx := C0.1.1
    have hb := C0.1.2.1
    have hA : ∀ q : Nat, s.heap.size ≤ q → (fun q : Nat => s.heap.size ≤ q) q := fun _ h => h
    have hbA : ¬ (fun q : Nat => s.heap.size ≤ q) b := Nat.not_le.mpr hbl
    have hcc : 1000 + j + 0 ≤ room_1.cells := by show 1000 + j + 0 ≤ 601024; omega
    have hss : 200000 + 6 * j + 0 ≤ room_1.slots := by show 200000 + 6 * j + 0 ≤ 7293034; omega
    have hcc1 : 1000 + j + 1 ≤ room_1.cells := by show 1000 + j + 1 ≤ 601024; omega
    have hss1 : 200000 + 6 * j + 6 ≤ room_1.slots := by show 200000 + 6 * j + 6 ≤ 7293034; omega
    have hi1 : vp_in (nI (6 * j) + 1) L := hi_in (k := 1) (by decide) hj hL
    have hi2 : vp_in (nI (6 * j) + 2) L := hi_in (k := 2) (by decide) hj hL
    have hi3 : vp_in (nI (6 * j) + 3) L := hi_in (k := 3) (by decide) hj hL
    have hi4 : vp_in (nI (6 * j) + 4) L := hi_in (k := 4) (by decide) hj hL
    have hi5 : vp_in (nI (6 * j) + 5) L := hi_in (k := 5) (by decide) hj hL
    obtain ⟨zx, zm, hzx, hzm, heq, hrel⟩ := sp19 c FL M ML hrel ()
    refine r_aload_n C0 dL_law_766 hl 1 rfl ?_
    refine r_callIC (Wc := [wCard K (AA 0) (AA 1 0) (AA 2 0) (AA 4 0) (AA 6 0) (AA 3 0) (AA 7 0) (AA 8 0) (c 0), wPlan K (AA 2) (c 1), wLine K (AA 6) (AA 2 0) (c 5), wHist K (AA 8) gH (c 7), wLine K (AA 9) (AA 2 0) (c 8), wLine K (AA 10) (AA 2 0) (c 9), wLine K (AA 11) (AA 2 0) (c 10), wLine K (AA 12) (AA 2 0) (c 11), wLine K (AA 13) (AA 2 0) (c 12), wLine K (AA 14) (AA 2 0) (c 13), wLine K (AA 15) (AA 2 0) (c 14), wLine K (AA 16) (AA 2 0) (c 15)]) (wf := fun (u : Rc × Rc × Rc × Rc × Rc × Rc × Rc × Rc × Rc × Rc) => [wCard K (AA 0) (AA 1 0) (AA 2 0) (AA 4 0) (AA 6 0) (AA 3 0) (AA 7 0) (AA 8 0) (c 0), wPlan K (AA 2) (c 1), wLine K (AA 6) (AA 2 0) u.1, wHist K (AA 8) gH u.2.1, wLine K (AA 9) (AA 2 0) u.2.2.1, wLine K (AA 10) (AA 2 0) u.2.2.2.1, wLine K (AA 11) (AA 2 0) u.2.2.2.2.1, wLine K (AA 12) (AA 2 0) u.2.2.2.2.2.1, wLine K (AA 13) (AA 2 0) u.2.2.2.2.2.2.1, wLine K (AA 14) (AA 2 0) u.2.2.2.2.2.2.2.1, wLine K (AA 15) (AA 2 0) u.2.2.2.2.2.2.2.2.1, wLine K (AA 16) (AA 2 0) u.2.2.2.2.2.2.2.2.2]) (Wn := [wCard K (AA 0) (AA 1 0) (AA 2 0) (AA 4 0) (AA 6 0) (AA 3 0) (AA 7 0) (AA 8 0) (c 0), wArr K (AA 1 0) 440 (c 16 0), wPlan K (AA 2) (c 1), wLine K (AA 3) (AA 2 0) (c 2), wReader K (AA 4) (AA 5 0) (AA 1 0) (c 3), wPlan K (AA 5) (c 4), wLine K (AA 6) (AA 2 0) (zx.2.1), wFinder K (AA 7) (AA 3 0) (c 6) FL, wHist K (AA 8) gH (zx.2.2.1), wLine K (AA 9) (AA 2 0) (zx.2.2.2.1), wLine K (AA 10) (AA 2 0) (zx.2.2.2.2.1), wLine K (AA 11) (AA 2 0) (zx.2.2.2.2.2.1), wLine K (AA 12) (AA 2 0) (zx.2.2.2.2.2.2.1), wLine K (AA 13) (AA 2 0) (zx.2.2.2.2.2.2.2.1), wLine K (AA 14) (AA 2 0) (zx.2.2.2.2.2.2.2.2.1), wLine K (AA 15) (AA 2 0) (zx.2.2.2.2.2.2.2.2.2.1), wLine K (AA 16) (AA 2 0) (zx.2.2.2.2.2.2.2.2.2.2), wModel K aM M ML, wOut K aO O]) hP hD hS hA [0, 2, 6, 8, 9, 10, 11, 12, 13, 14, 15, 16] [1, 3, 4, 5, 7, 17, 18] [7, 0, 8, 1, 2, 3, 9, 4, 10, 11, 12, 13, 14, 15, 16, 17, 18, 5, 6] 19 rfl rfl (by decide) rfl rfl (by decide) (fun hPc hDc hFc => va_runV (As := []) (rest := []) C0.1 (ctX5_anew l D K N (AA 0) (AA 2) (AA 6) (AA 8) (AA 9) (AA 10) (AA 11) (AA 12) (AA 13) (AA 14) (AA 15) (AA 16) gH (AA 1 0) (AA 4 0) (AA 3 0) (AA 7 0) hG (c 0) (c 1) (c 5) (c 7) (c 8) (c 9) (c 10) (c 11) (c 12) (c 13) (c 14) (c 15) H.size zx hzx) (cwV 0 C0.1.2.2.2.2 (gdVB wsL_law_in0 wd34_18 wd34_19 wd34_20 wd1_2 wd34_21) rfl rfl rfl (by decide +kernel) ⟨Nat.le_of_ble_eq_true rfl, Nat.le_of_ble_eq_true rfl⟩) ⟨pcW_blind, va_recv C0.2.2.2.1 hPc (ci := 5) (q0 := 0) rfl rfl, pcW_of hPc hDc C0.2.2.2⟩ rfl rfl hl.1 rfl (lv_room (Nat.le_of_ble_eq_true rfl)) dL_law_767 ⟨hcc, hss⟩) (fun H locs hP hD hS => ?_)
    refine r_aload_n C0 dL_law_770 hl 2 rfl ?_
    refine r_callIC (Wc := [wModel K aM M ML]) (wf := fun (u : Rc) => [wModel K aM u ML]) (Wn := [wCard K (AA 0) (AA 1 0) (AA 2 0) (AA 4 0) (AA 6 0) (AA 3 0) (AA 7 0) (AA 8 0) (c 0), wArr K (AA 1 0) 440 (c 16 0), wPlan K (AA 2) (c 1), wLine K (AA 3) (AA 2 0) (c 2), wReader K (AA 4) (AA 5 0) (AA 1 0) (c 3), wPlan K (AA 5) (c 4), wLine K (AA 6) (AA 2 0) (zx.2.1), wFinder K (AA 7) (AA 3 0) (c 6) FL, wHist K (AA 8) gH (zx.2.2.1), wLine K (AA 9) (AA 2 0) (zx.2.2.2.1), wLine K (AA 10) (AA 2 0) (zx.2.2.2.2.1), wLine K (AA 11) (AA 2 0) (zx.2.2.2.2.2.1), wLine K (AA 12) (AA 2 0) (zx.2.2.2.2.2.2.1), wLine K (AA 13) (AA 2 0) (zx.2.2.2.2.2.2.2.1), wLine K (AA 14) (AA 2 0) (zx.2.2.2.2.2.2.2.2.1), wLine K (AA 15) (AA 2 0) (zx.2.2.2.2.2.2.2.2.2.1), wLine K (AA 16) (AA 2 0) (zx.2.2.2.2.2.2.2.2.2.2), wModel K aM (zm.2) ML, wOut K aO O]) hP hD hS hA [17] [0, 1, 2, 3, 4, 5, 6, 7, 8, 9, 10, 11, 12, 13, 14, 15, 16, 18] [0, 1, 2, 3, 4, 5, 6, 7, 8, 9, 10, 11, 12, 13, 14, 15, 16, 18, 17] 19 rfl rfl (by decide) rfl rfl (by decide) (fun hPc hDc hFc => va_runV (As := []) (rest := [.int zx.1]) C0.1 (ctX6_anew l D K N aM M ML H.size zm hzm) (cwV 0 C0.1.2.2.2.2 (gdVB wsL_law_in0 wd34_22 wd34_23 wd35_0 wd1_5 wd35_1) rfl rfl rfl (by decide +kernel) ⟨Nat.le_of_ble_eq_true rfl, Nat.le_of_ble_eq_true rfl⟩) ⟨pcW_blind, va_recv C0.2.2.2.1 hPc (ci := 6) (q0 := 0) rfl rfl, pcW_of hPc hDc C0.2.2.2⟩ rfl rfl hl.1 rfl (lv_room (Nat.le_of_ble_eq_true rfl)) dL_law_771 ⟨hcc, hss⟩) (fun H locs hP hD hS => ?_)
    refine lv_icmp_eq (tgt := 792) C0.1.1 C0.1.2.1 dL_law_774 (by decide) (fun _ => ?_) (fun c9 => absurd heq c9)
    refine lv_iinc (v := nI (6 * (j + 1))) (lv' := [(4, .int (nI (6 * (j + 1)))), (0, .ref b), (1, .ref (AA 0 0)), (2, .ref (aM 0)), (3, .ref aO)]) C0.1.1 C0.1.2.1 dL_law_792 hl (k := 4) rfl (nI6 j) (by decide) rfl (fun ls hl => ?_)
    refine r_goto C0 23 dL_law_795 (by decide) ?_
    refine W.widen (k := 1000 + (j + 1)) (n := 200000 + 6 * (j + 1)) (by omega) (by omega) ?_
    exact kk (va_up (va_up (va_up (va_up (va_up (va_up (va_up (va_up (va_up (va_up c 5 (zx.2.1)) 7 (zx.2.2.1)) 8 (zx.2.2.2.1)) 9 (zx.2.2.2.2.1)) 10 (zx.2.2.2.2.2.1)) 11 (zx.2.2.2.2.2.2.1)) 12 (zx.2.2.2.2.2.2.2.1)) 13 (zx.2.2.2.2.2.2.2.2.1)) 14 (zx.2.2.2.2.2.2.2.2.2.1)) 15 (zx.2.2.2.2.2.2.2.2.2.2)) FL (zm.2) ML O H locs ls hrel hP hD hS (lv_sub hl [1, 2, 3, 4, 0] rfl)
set_option maxHeartbeats 4000000 in
set_option maxRecDepth 20000 in
theorem law_case20 {p : Program} {l : Launch} {e : Env} {s : State} {m : MethodId} {below : List Frame} {meth : Method} {cd : Code} {D : va_G} {K : Nat → ClassId} {b L : Nat} {xs : Nat → Int32} {Q : State → Prop} (hL : L ≤ 3072) (C0 : cx p s m #[Value.ref b] meth cd code 7 RL lw_tbl ret D K) (hX : va_X b L xs s s.heap) (hbl : b < s.heap.size) (hl0 : l.stackTraces = false) {adK adV adN : Nat → Nat} (hE : SK adK adV (fun q : Nat => s.heap.size ≤ q) s s.heap) (hT : thK adN (fun q : Nat => s.heap.size ≤ q) s s.heap) {AA : Nat → Nat → Nat} {gH : Nat → Option Nat} {aM : Nat → Nat} {aO : Nat} (hG : gHok gH (AA 9) (AA 10) (AA 11) (AA 12) (AA 13) (AA 14) (AA 15) (AA 16)) {N : Nat} {Rel : (Nat → Rc) → RcL → Rc → RcL → Prop} (sp20 : SP20 N Rel) (j : Nat) (hj : 6 * j + 6 ≤ L) (c : Nat → Rc) (FL : RcL) (M : Rc) (ML : RcL) (O : Nat → Int64) (H : Heap) (locs : List Loc) (ls : Array Slot) (hrel : Rel c FL M ML) (hP : va_P D vwCl (fl (lawW K AA gH aM aO c FL M ML O)) H) (hD : va_D (fun q : Nat => s.heap.size ≤ q) (fl (lawW K AA gH aM aO c FL M ML O))) (hS : va_S (fun q : Nat => s.heap.size ≤ q) s.heap H locs) (hl : lv_has ls 7 [(0, .ref b), (1, .ref (AA 0 0)), (2, .ref (aM 0)), (3, .ref aO), (4, .int (nI (6 * j)))]) (kk : ∀ (c : Nat → Rc) (FL : RcL) (M : Rc) (ML : RcL) (O : Nat → Int64) (H : Heap) (locs : List Loc) (ls : Array Slot), Rel c FL M ML → va_P D vwCl (fl (lawW K AA gH aM aO c FL M ML O)) H → va_D (fun q : Nat => s.heap.size ≤ q) (fl (lawW K AA gH aM aO c FL M ML O)) → va_S (fun q : Nat => s.heap.size ≤ q) s.heap H locs → lv_has ls 7 [(0, .ref b), (1, .ref (AA 0 0)), (2, .ref (aM 0)), (3, .ref aO), (4, .int (nI (6 * (j + 1))))] → W p l e room_1 s m #[Value.ref b] below meth cd H locs (1000 + (j + 1)) (200000 + 6 * (j + 1)) Q (F0 m 23 ls [])) : W p l e room_1 s m #[Value.ref b] below meth cd H locs (1000 + j) (200000 + 6 * j) Q (F0 m 779 ls []) := by
    have hx := C0.1.1
    have hb := C0.1.2.1
    have hA : ∀ q : Nat, s.heap.size ≤ q → (fun q : Nat => s.heap.size ≤ q) q := fun _ h => h
    have hbA : ¬ (fun q : Nat => s.heap.size ≤ q) b := Nat.not_le.mpr hbl
    have hcc : 1000 + j + 0 ≤ room_1.cells := by show 1000 + j + 0 ≤ 601024; omega
    have hss : 200000 + 6 * j + 0 ≤ room_1.slots := by show 200000 + 6 * j + 0 ≤ 7293034; omega
    have hcc1 : 1000 + j + 1 ≤ room_1.cells := by show 1000 + j + 1 ≤ 601024; omega
    have hss1 : 200000 + 6 * j + 6 ≤ room_1.slots := by show 200000 + 6 * j + 6 ≤ 7293034; omega
    have hi1 : vp_in (nI (6 * j) + 1) L := hi_in (k := 1) (by decide) hj hL
    have hi2 : vp_in (nI (6 * j) + 2) L := hi_in (k := 2) (by decide) hj hL
    have hi3 : vp_in (nI (6 * j) + 3) L := hi_in (k := 3) (by decide) hj hL
    have hi4 : vp_in (nI (6 * j) + 4) L := hi_in (k := 4) (by decide) hj hL
    have hi5 : vp_in (nI (6 * j) + 5) L := hi_in (k := 5) (by decide) hj hL
    obtain ⟨zx, zm, hzx, hzm, heq, hrel⟩ := sp20 c FL M ML hrel ()
    refine r_aload_n C0 dL_law_779 hl 1 rfl ?_
    refine r_callIC (Wc := [wCard K (AA 0) (AA 1 0) (AA 2 0) (AA 4 0) (AA 6 0) (AA 3 0) (AA 7 0) (AA 8 0) (c 0), wLine K (AA 6) (AA 2 0) (c 5), wHist K (AA 8) gH (c 7), wLine K (AA 9) (AA 2 0) (c 8), wLine K (AA 10) (AA 2 0) (c 9), wLine K (AA 11) (AA 2 0) (c 10), wLine K (AA 12) (AA 2 0) (c 11), wLine K (AA 13) (AA 2 0) (c 12), wLine K (AA 14) (AA 2 0) (c 13), wLine K (AA 15) (AA 2 0) (c 14), wLine K (AA 16) (AA 2 0) (c 15)]) (wf := fun (u : Rc × Rc × Rc) => [wCard K (AA 0) (AA 1 0) (AA 2 0) (AA 4 0) (AA 6 0) (AA 3 0) (AA 7 0) (AA 8 0) u.1, wLine K (AA 6) (AA 2 0) u.2.1, wHist K (AA 8) gH u.2.2, wLine K (AA 9) (AA 2 0) (c 8), wLine K (AA 10) (AA 2 0) (c 9), wLine K (AA 11) (AA 2 0) (c 10), wLine K (AA 12) (AA 2 0) (c 11), wLine K (AA 13) (AA 2 0) (c 12), wLine K (AA 14) (AA 2 0) (c 13), wLine K (AA 15) (AA 2 0) (c 14), wLine K (AA 16) (AA 2 0) (c 15)]) (Wn := [wCard K (AA 0) (AA 1 0) (AA 2 0) (AA 4 0) (AA 6 0) (AA 3 0) (AA 7 0) (AA 8 0) (zx.2.1), wArr K (AA 1 0) 440 (c 16 0), wPlan K (AA 2) (c 1), wLine K (AA 3) (AA 2 0) (c 2), wReader K (AA 4) (AA 5 0) (AA 1 0) (c 3), wPlan K (AA 5) (c 4), wLine K (AA 6) (AA 2 0) (zx.2.2.1), wFinder K (AA 7) (AA 3 0) (c 6) FL, wHist K (AA 8) gH (zx.2.2.2), wLine K (AA 9) (AA 2 0) (c 8), wLine K (AA 10) (AA 2 0) (c 9), wLine K (AA 11) (AA 2 0) (c 10), wLine K (AA 12) (AA 2 0) (c 11), wLine K (AA 13) (AA 2 0) (c 12), wLine K (AA 14) (AA 2 0) (c 13), wLine K (AA 15) (AA 2 0) (c 14), wLine K (AA 16) (AA 2 0) (c 15), wModel K aM M ML, wOut K aO O]) hP hD hS hA [0, 6, 8, 9, 10, 11, 12, 13, 14, 15, 16] [1, 2, 3, 4, 5, 7, 17, 18] [8, 0, 1, 2, 3, 4, 9, 5, 10, 11, 12, 13, 14, 15, 16, 17, 18, 6, 7] 19 rfl rfl (by decide) rfl rfl (by decide) (fun hPc hDc hFc => va_runV (As := []) (rest := []) C0.1 (ctX5_undo l D K N (AA 0) (AA 6) (AA 8) (AA 9) (AA 10) (AA 11) (AA 12) (AA 13) (AA 14) (AA 15) (AA 16) gH (AA 1 0) (AA 2 0) (AA 4 0) (AA 3 0) (AA 7 0) (AA 2 0) (AA 2 0) (AA 2 0) (AA 2 0) (AA 2 0) (AA 2 0) (AA 2 0) (AA 2 0) (AA 2 0) hG (c 0) (c 5) (c 7) (c 8) (c 9) (c 10) (c 11) (c 12) (c 13) (c 14) (c 15) H.size zx hzx) (cwV 0 C0.1.2.2.2.2 (gdVB wsL_law_in0 wd35_2 wd35_3 wd35_4 wd1_2 wd35_5) rfl rfl rfl (by decide +kernel) ⟨Nat.le_of_ble_eq_true rfl, Nat.le_of_ble_eq_true rfl⟩) ⟨pcW_blind, va_recv C0.2.2.2.1 hPc (ci := 5) (q0 := 0) rfl rfl, pcW_of hPc hDc C0.2.2.2⟩ rfl rfl hl.1 rfl (lv_room (Nat.le_of_ble_eq_true rfl)) dL_law_780 ⟨hcc, hss⟩) (fun H locs hP hD hS => ?_)
    refine r_aload_n C0 dL_law_783 hl 2 rfl ?_
    refine r_callIC (Wc := [wModel K aM M ML]) (wf := fun (u : Rc) => [wModel K aM u ML]) (Wn := [wCard K (AA 0) (AA 1 0) (AA 2 0) (AA 4 0) (AA 6 0) (AA 3 0) (AA 7 0) (AA 8 0) (zx.2.1), wArr K (AA 1 0) 440 (c 16 0), wPlan K (AA 2) (c 1), wLine K (AA 3) (AA 2 0) (c 2), wReader K (AA 4) (AA 5 0) (AA 1 0) (c 3), wPlan K (AA 5) (c 4), wLine K (AA 6) (AA 2 0) (zx.2.2.1), wFinder K (AA 7) (AA 3 0) (c 6) FL, wHist K (AA 8) gH (zx.2.2.2), wLine K (AA 9) (AA 2 0) (c 8), wLine K (AA 10) (AA 2 0) (c 9), wLine K (AA 11) (AA 2 0) (c 10), wLine K (AA 12) (AA 2 0) (c 11), wLine K (AA 13) (AA 2 0) (c 12), wLine K (AA 14) (AA 2 0) (c 13), wLine K (AA 15) (AA 2 0) (c 14), wLine K (AA 16) (AA 2 0) (c 15), wModel K aM (zm.2) ML, wOut K aO O]) hP hD hS hA [17] [0, 1, 2, 3, 4, 5, 6, 7, 8, 9, 10, 11, 12, 13, 14, 15, 16, 18] [0, 1, 2, 3, 4, 5, 6, 7, 8, 9, 10, 11, 12, 13, 14, 15, 16, 18, 17] 19 rfl rfl (by decide) rfl rfl (by decide) (fun hPc hDc hFc => va_runV (As := []) (rest := [.int zx.1]) C0.1 (ctX6_undo l D K N aM M ML H.size zm hzm) (cwV 0 C0.1.2.2.2.2 (gdVB wsL_law_in0 wd35_10 wd35_11 wd35_12 wd1_5 wd35_13) rfl rfl rfl (by decide +kernel) ⟨Nat.le_of_ble_eq_true rfl, Nat.le_of_ble_eq_true rfl⟩) ⟨pcW_blind, va_recv C0.2.2.2.1 hPc (ci := 6) (q0 := 0) rfl rfl, pcW_of hPc hDc C0.2.2.2⟩ rfl rfl hl.1 rfl (lv_room (Nat.le_of_ble_eq_true rfl)) dL_law_784 ⟨hcc, hss⟩) (fun H locs hP hD hS => ?_)
    refine lv_icmp_eq (tgt := 792) C0.1.1 C0.1.2.1 dL_law_787 (by decide) (fun _ => ?_) (fun c9 => absurd heq c9)
    refine lv_iinc (v := nI (6 * (j + 1))) (lv' := [(4, .int (nI (6 * (j + 1)))), (0, .ref b), (1, .ref (AA 0 0)), (2, .ref (aM 0)), (3, .ref aO)]) C0.1.1 C0.1.2.1 dL_law_792 hl (k := 4) rfl (nI6 j) (by decide) rfl (fun ls hl => ?_)
    refine r_goto C0 23 dL_law_795 (by decide) ?_
    refine W.widen (k := 1000 + (j + 1)) (n := 200000 + 6 * (j + 1)) (by omega) (by omega) ?_
    exact kk (va_up (va_up (va_up c 0 (zx.2.1)) 5 (zx.2.2.1)) 7 (zx.2.2.2)) FL (zm.2) ML O H locs ls hrel hP hD hS (lv_sub hl [1, 2, 3, 4, 0] rfl)
