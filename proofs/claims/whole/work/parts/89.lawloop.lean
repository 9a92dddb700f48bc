set_option maxRecDepth 20000 in
theorem law_head {p : Program} {l : Launch} {e : Env} {s : State} {m : MethodId} {below : List Frame} {meth : Method} {cd : Code} {D : va_G} {K : Nat → ClassId} {b L : Nat} {xs : Nat → Int32} {Q : State → Prop} (hL : L ≤ 3072) (C0 : cx p s m #[Value.ref b] meth cd code 7 RL lw_tbl ret D K) (hX : va_X b L xs s s.heap) (hbl : b < s.heap.size) {AA : Nat → Nat → Nat} {aM : Nat → Nat} {aO : Nat} (j : Nat) (hj : 6 * j ≤ L + 6) (H : Heap) (locs : List Loc) (ls : Array Slot) (hS : va_S (fun q : Nat => s.heap.size ≤ q) s.heap H locs) (hl : lv_has ls 7 [(0, .ref b), (1, .ref (AA 0 0)), (2, .ref (aM 0)), (3, .ref aO), (4, .int (nI (6 * j)))]) (h1 : W p l e room_1 s m #[Value.ref b] below meth cd H locs (1000 + j) (200000 + 6 * j) Q (F0 m 798 ls [])) (h2 : 6 * j + 6 ≤ L → W p l e room_1 s m #[Value.ref b] below meth cd H locs (1000 + j) (200000 + 6 * j) Q (F0 m 33 ls [])) : W p l e room_1 s m #[Value.ref b] below meth cd H locs (1000 + j) (200000 + 6 * j) Q (F0 m 23 ls []) := by
  have hx := C0.1.1
  have hb := C0.1.2.1
  have hbA : ¬ (fun q : Nat => s.heap.size ≤ q) b := Nat.not_le.mpr hbl
  refine r_iload C0 dL_law_23 hl 4 rfl ?_
  refine r_aload_n C0 dL_law_25 hl 0 rfl ?_
  refine va_slen hx hb hX hbl hbA hS dL_law_26 ?_
  refine r_bipush C0 6 dL_law_27 (by decide) ?_
  refine r_isub C0 dL_law_29 ?_
  refine lv_icmp_gt (tgt := 798) hx hb dL_law_30 (by decide) (fun _ => h1) (fun c9 => h2 ?_)
  have e1 : (nI L - nI 6).toInt = (L : Int) - 6 := pk_sub_toInt (by omega) (by omega)
  have e2 : (nI (6 * j)).toInt = ((6 * j : Nat) : Int) := nI_toInt (by omega)
  have e3 : ¬ (nI L - nI 6).toInt < (nI (6 * j)).toInt := fun h => c9 (Int32.lt_iff_toInt_lt.mpr h)
  rw [e1, e2] at e3
  omega
set_option maxHeartbeats 4000000 in
set_option maxRecDepth 20000 in
theorem law_loop {p : Program} {l : Launch} {e : Env} {s : State} {m : MethodId} {below : List Frame} {meth : Method} {cd : Code} {D : va_G} {K : Nat → ClassId} {b L : Nat} {xs : Nat → Int32} (hL : L ≤ 3072) (C0 : cx p s m #[Value.ref b] meth cd code 7 RL lw_tbl ret D K) (hX : va_X b L xs s s.heap) (hbl : b < s.heap.size) (hl0 : l.stackTraces = false) {adK adV adN : Nat → Nat} (hE : SK adK adV (fun q : Nat => s.heap.size ≤ q) s s.heap) (hT : thK adN (fun q : Nat => s.heap.size ≤ q) s s.heap) {AA : Nat → Nat → Nat} {gH : Nat → Option Nat} {aM : Nat → Nat} {aO : Nat} (hG : gHok gH (AA 9) (AA 10) (AA 11) (AA 12) (AA 13) (AA 14) (AA 15) (AA 16)) {N : Nat} {Rel : (Nat → Rc) → RcL → Rc → RcL → Prop} (sp0 : SP0 N Rel) (sp1 : SP1 N Rel) (sp2 : SP2 N Rel) (sp3 : SP3 N Rel) (sp4 : SP4 N Rel) (sp5 : SP5 N Rel) (sp6 : SP6 N Rel) (sp7 : SP7 N Rel) (sp8 : SP8 N Rel) (sp9 : SP9 N Rel) (sp10 : SP10 N Rel) (sp11 : SP11 N Rel) (sp12 : SP12 N Rel) (sp13 : SP13 N Rel) (sp14 : SP14 N Rel) (sp15 : SP15 N Rel) (sp16 : SP16 N Rel) (sp17 : SP17 N Rel) (sp18 : SP18 N Rel) (sp19 : SP19 N Rel) (sp20 : SP20 N Rel) : ∀ (n j : Nat) (c : Nat → Rc) (FL : RcL) (M : Rc) (ML : RcL) (O : Nat → Int64) (H : Heap) (locs : List Loc) (ls : Array Slot), L < 6 * j + n → 6 * j ≤ L + 6 → Rel c FL M ML → va_P D vwCl (fl (lawW K AA gH aM aO c FL M ML O)) H → va_D (fun q : Nat => s.heap.size ≤ q) (fl (lawW K AA gH aM aO c FL M ML O)) → va_S (fun q : Nat => s.heap.size ≤ q) s.heap H locs → lv_has ls 7 [(0, .ref b), (1, .ref (AA 0 0)), (2, .ref (aM 0)), (3, .ref aO), (4, .int (nI (6 * j)))] → W p l e room_1 s m #[Value.ref b] below meth cd H locs (1000 + j) (200000 + 6 * j) (lw_Z below #[Value.ref b] s) (F0 m 23 ls []) := by
  have hx := C0.1.1
  have hb := C0.1.2.1
  have hbA : ¬ (fun q : Nat => s.heap.size ≤ q) b := Nat.not_le.mpr hbl
  have out : ∀ (j : Nat) (H : Heap) (locs : List Loc) (ls : Array Slot), 6 * j ≤ L + 6 → va_S (fun q : Nat => s.heap.size ≤ q) s.heap H locs → W p l e room_1 s m #[Value.ref b] below meth cd H locs (1000 + j) (200000 + 6 * j) (lw_Z below #[Value.ref b] s) (F0 m 798 ls []) := by
    intro j H locs ls hj hS
    refine r_iconst C0 1 dL_law_798 (by decide) ?_
    refine va_forget (fun q hq => hS.2.2 q hq) ?_
    refine W.widen (k := 601024) (n := 7293034) (by omega) (by omega) ?_
    exact lw_ret hx hb C0.2.1 C0.2.2.1 dL_law_799
  intro n
  induction n with
  | zero =>
    intro j c FL M ML O H locs ls h1 h2 hrel hP hD hS hl
    exact law_head hL C0 hX hbl j h2 H locs ls hS hl (out j H locs ls h2 hS) (fun h => absurd h (by omega))
  | succ n ih =>
    intro j c FL M ML O H locs ls h1 h2 hrel hP hD hS hl
    refine law_head hL C0 hX hbl j h2 H locs ls hS hl (out j H locs ls h2 hS) (fun hj => ?_)
    have kk : ∀ (c : Nat → Rc) (FL : RcL) (M : Rc) (ML : RcL) (O : Nat → Int64) (H : Heap) (locs : List Loc) (ls : Array Slot), Rel c FL M ML → va_P D vwCl (fl (lawW K AA gH aM aO c FL M ML O)) H → va_D (fun q : Nat => s.heap.size ≤ q) (fl (lawW K AA gH aM aO c FL M ML O)) → va_S (fun q : Nat => s.heap.size ≤ q) s.heap H locs → lv_has ls 7 [(0, .ref b), (1, .ref (AA 0 0)), (2, .ref (aM 0)), (3, .ref aO), (4, .int (nI (6 * (j + 1))))] → W p l e room_1 s m #[Value.ref b] below meth cd H locs (1000 + (j + 1)) (200000 + 6 * (j + 1)) (lw_Z below #[Value.ref b] s) (F0 m 23 ls []) := fun c FL M ML O H locs ls q1 q2 q3 q4 q5 => ih (j + 1) c FL M ML O H locs ls (by omega) (by omega) q1 q2 q3 q4 q5
    refine r_aload_n C0 dL_law_33 hl 0 rfl ?_
    refine r_iload C0 dL_law_34 hl 4 rfl ?_
    have hi0 : vp_in (nI (6 * j)) L := vp_in_nI (by omega) (by omega)
    refine va_sld hx hb hX hbl hbA hS hi0 dL_law_36 ?_
    refine r_bipush C0 31 dL_law_37 (by decide) ?_
    refine r_iand C0 dL_law_39 ?_
    refine lv_topi (fun v _ => ?_)
    by_cases hx0 : v = 0
    · refine lv_tableIn hx hb (tgt := 140) dL_law_40 (by rw [hx0]; decide) (by rw [hx0]; decide) (by rw [hx0]; rfl) (by decide) ?_
      exact law_case0 hL C0 hX hbl hl0 hE hT hG sp0 j hj c FL M ML O H locs ls hrel hP hD hS hl kk
    by_cases hx1 : v = 1
    · refine lv_tableIn hx hb (tgt := 213) dL_law_40 (by rw [hx1]; decide) (by rw [hx1]; decide) (by rw [hx1]; rfl) (by decide) ?_
      exact law_case1 hL C0 hX hbl hl0 hE hT hG sp1 j hj c FL M ML O H locs ls hrel hP hD hS hl kk
    by_cases hx2 : v = 2
    · refine lv_tableIn hx hb (tgt := 238) dL_law_40 (by rw [hx2]; decide) (by rw [hx2]; decide) (by rw [hx2]; rfl) (by decide) ?_
      exact law_case2 hL C0 hX hbl hl0 hE hT hG sp2 j hj c FL M ML O H locs ls hrel hP hD hS hl kk
    by_cases hx3 : v = 3
    · refine lv_tableIn hx hb (tgt := 251) dL_law_40 (by rw [hx3]; decide) (by rw [hx3]; decide) (by rw [hx3]; rfl) (by decide) ?_
      exact law_case3 hL C0 hX hbl hl0 hE hT hG sp3 j hj c FL M ML O H locs ls hrel hP hD hS hl kk
    by_cases hx4 : v = 4
    · refine lv_tableIn hx hb (tgt := 264) dL_law_40 (by rw [hx4]; decide) (by rw [hx4]; decide) (by rw [hx4]; rfl) (by decide) ?_
      exact law_case4 hL C0 hX hbl hl0 hE hT hG sp4 j hj c FL M ML O H locs ls hrel hP hD hS hl kk
    by_cases hx5 : v = 5
    · refine lv_tableIn hx hb (tgt := 289) dL_law_40 (by rw [hx5]; decide) (by rw [hx5]; decide) (by rw [hx5]; rfl) (by decide) ?_
      exact law_case5 hL C0 hX hbl hl0 hE hT hG sp5 j hj c FL M ML O H locs ls hrel hP hD hS hl kk
    by_cases hx6 : v = 6
    · refine lv_tableIn hx hb (tgt := 357) dL_law_40 (by rw [hx6]; decide) (by rw [hx6]; decide) (by rw [hx6]; rfl) (by decide) ?_
      exact law_case6 hL C0 hX hbl hl0 hE hT hG sp6 j hj c FL M ML O H locs ls hrel hP hD hS hl kk
    by_cases hx7 : v = 7
    · refine lv_tableIn hx hb (tgt := 394) dL_law_40 (by rw [hx7]; decide) (by rw [hx7]; decide) (by rw [hx7]; rfl) (by decide) ?_
      exact law_case7 hL C0 hX hbl hl0 hE hT hG sp7 j hj c FL M ML O H locs ls hrel hP hD hS hl kk
    by_cases hx8 : v = 8
    · refine lv_tableIn hx hb (tgt := 431) dL_law_40 (by rw [hx8]; decide) (by rw [hx8]; decide) (by rw [hx8]; rfl) (by decide) ?_
      exact law_case8 hL C0 hX hbl hl0 hE hT hG sp8 j hj c FL M ML O H locs ls hrel hP hD hS hl kk
    by_cases hx9 : v = 9
    · refine lv_tableIn hx hb (tgt := 456) dL_law_40 (by rw [hx9]; decide) (by rw [hx9]; decide) (by rw [hx9]; rfl) (by decide) ?_
      exact law_case9 hL C0 hX hbl hl0 hE hT hG sp9 j hj c FL M ML O H locs ls hrel hP hD hS hl kk
    by_cases hx10 : v = 10
    · refine lv_tableIn hx hb (tgt := 493) dL_law_40 (by rw [hx10]; decide) (by rw [hx10]; decide) (by rw [hx10]; rfl) (by decide) ?_
      exact law_case10 hL C0 hX hbl hl0 hE hT hG sp10 j hj c FL M ML O H locs ls hrel hP hD hS hl kk
    by_cases hx11 : v = 11
    · refine lv_tableIn hx hb (tgt := 518) dL_law_40 (by rw [hx11]; decide) (by rw [hx11]; decide) (by rw [hx11]; rfl) (by decide) ?_
      exact law_case11 hL C0 hX hbl hl0 hE hT hG sp11 j hj c FL M ML O H locs ls hrel hP hD hS hl kk
    by_cases hx12 : v = 12
    · refine lv_tableIn hx hb (tgt := 543) dL_law_40 (by rw [hx12]; decide) (by rw [hx12]; decide) (by rw [hx12]; rfl) (by decide) ?_
      exact law_case12 hL C0 hX hbl hl0 hE hT hG sp12 j hj c FL M ML O H locs ls hrel hP hD hS hl kk
    by_cases hx13 : v = 13
    · refine lv_tableIn hx hb (tgt := 592) dL_law_40 (by rw [hx13]; decide) (by rw [hx13]; decide) (by rw [hx13]; rfl) (by decide) ?_
      exact law_case13 hL C0 hX hbl hl0 hE hT hG sp13 j hj c FL M ML O H locs ls hrel hP hD hS hl kk
    by_cases hx14 : v = 14
    · refine lv_tableIn hx hb (tgt := 641) dL_law_40 (by rw [hx14]; decide) (by rw [hx14]; decide) (by rw [hx14]; rfl) (by decide) ?_
      exact law_case14 hL C0 hX hbl hl0 hE hT hG sp14 j hj c FL M ML O H locs ls hrel hP hD hS hl kk
    by_cases hx15 : v = 15
    · refine lv_tableIn hx hb (tgt := 678) dL_law_40 (by rw [hx15]; decide) (by rw [hx15]; decide) (by rw [hx15]; rfl) (by decide) ?_
      exact law_case15 hL C0 hX hbl hl0 hE hT hG sp15 j hj c FL M ML O H locs ls hrel hP hD hS hl kk
    by_cases hx16 : v = 16
    · refine lv_tableIn hx hb (tgt := 691) dL_law_40 (by rw [hx16]; decide) (by rw [hx16]; decide) (by rw [hx16]; rfl) (by decide) ?_
      exact law_case16 hL C0 hX hbl hl0 hE hT hG sp16 j hj c FL M ML O H locs ls hrel hP hD hS hl kk
    by_cases hx17 : v = 17
    · refine lv_tableIn hx hb (tgt := 716) dL_law_40 (by rw [hx17]; decide) (by rw [hx17]; decide) (by rw [hx17]; rfl) (by decide) ?_
      exact law_case17 hL C0 hX hbl hl0 hE hT hG sp17 j hj c FL M ML O H locs ls hrel hP hD hS hl kk
    by_cases hx18 : v = 18
    · refine lv_tableIn hx hb (tgt := 729) dL_law_40 (by rw [hx18]; decide) (by rw [hx18]; decide) (by rw [hx18]; rfl) (by decide) ?_
      exact law_case18 hL C0 hX hbl hl0 hE hT hG sp18 j hj c FL M ML O H locs ls hrel hP hD hS hl kk
    by_cases hx19 : v = 19
    · refine lv_tableIn hx hb (tgt := 766) dL_law_40 (by rw [hx19]; decide) (by rw [hx19]; decide) (by rw [hx19]; rfl) (by decide) ?_
      exact law_case19 hL C0 hX hbl hl0 hE hT hG sp19 j hj c FL M ML O H locs ls hrel hP hD hS hl kk
    by_cases hx20 : v = 20
    · refine lv_tableIn hx hb (tgt := 779) dL_law_40 (by rw [hx20]; decide) (by rw [hx20]; decide) (by rw [hx20]; rfl) (by decide) ?_
      exact law_case20 hL C0 hX hbl hl0 hE hT hG sp20 j hj c FL M ML O H locs ls hrel hP hD hS hl kk
    refine lv_tableOut hx hb (tgt := 792) dL_law_40 (sw_out21 hx0 hx1 hx2 hx3 hx4 hx5 hx6 hx7 hx8 hx9 hx10 hx11 hx12 hx13 hx14 hx15 hx16 hx17 hx18 hx19 hx20) (by decide) ?_
    refine lv_iinc (v := nI (6 * (j + 1))) (lv' := [(4, .int (nI (6 * (j + 1)))), (0, .ref b), (1, .ref (AA 0 0)), (2, .ref (aM 0)), (3, .ref aO)]) hx hb dL_law_792 hl (k := 4) rfl (nI6 j) (by decide) rfl (fun ls hl => ?_)
    refine r_goto C0 23 dL_law_795 (by decide) ?_
    refine W.widen (k := 1000 + (j + 1)) (n := 200000 + 6 * (j + 1)) (by omega) (by omega) ?_
    exact kk c FL M ML O H locs ls hrel hP hD hS (lv_sub hl [1, 2, 3, 4, 0] rfl)
