/-! text -/
theorem Rel_gen {c c' : Nat → Rc} {FL FL' : RcL} {M M' : Rc} {ML ML' : RcL} (hc : ∀ a, a = 1 ∨ a = 5 ∨ a = 7 ∨ (8 ≤ a ∧ a ≤ 15) → c' a = c a) (h9 : c' 0 9 = c 0 9) (h10 : c' 0 10 = c 0 10) (hM : ∀ a, a = 11 ∨ a = 14 ∨ a = 15 → M' a = M a) (ht : Tpe c' M') (h3 : c' 3 3 0 = M' 8 0) (hq : ∃ q, c' 4 = embP q ∧ ∀ i, q 5 i < 2 ^ 31) (h : Rel c FL M ML) : Rel c' FL' M' ML' := by
  obtain ⟨_, _, _, p, p1, p2, h4⟩ := h
  refine ⟨ht, h3, hq, p, ?_, p2, ?_⟩
  · rw [hc 1 (by omega)]; exact p1
  · rcases h4 with h4 | ⟨g, x, w1, w2, w3, w4, ⟨n, d, r1, r2, r3, r4, r5, r6⟩, w6⟩
    · refine Or.inl ?_
      unfold Em at h4 ⊢
      rw [hc 5 (by omega), hc 7 (by omega), hM 15 (by omega), hM 11 (by omega)]
      exact h4
    · refine Or.inr ⟨g, x, w1, w2, ?_, ?_, ⟨n, d, r1, r2, ?_, ?_, ?_, fun i hi => ?_⟩, ?_⟩
      · rw [hc 5 (by omega)]; exact w3
      · rw [hM 11 (by omega)]; exact w4
      · rw [hc 7 (by omega)]; exact r3
      · rw [hc 7 (by omega)]; exact r4
      · rw [hM 15 (by omega)]; exact r5
      · obtain ⟨y, y1, y2⟩ := r6 i hi
        refine ⟨y, ?_, ?_⟩
        · rw [hc _ (by omega)]; exact y1
        · rw [hM 14 (by omega)]; exact y2
      · intro f q1 q2
        rw [h9, h10]
        exact w6 f q1 q2
theorem neg_s {s : Nat} (h : s ≤ 440) : ¬ (0 : Int32) ≤ (-1 : Int32) - nI s := by
  have e : (-1 : Int32) - nI s = nI 0 - nI (s + 1) := by
    rw [← nI_add, show (-1 : Int32) = nI 0 - nI 1 from by decide]
    simp only [Int32.sub_eq_add_neg, Int32.neg_add, Int32.add_assoc]
    rw [Int32.add_comm (-nI 1) (-nI s)]
  rw [e, Int32.le_iff_toInt_le, pk_sub_toInt (by omega) (by omega)]
  have z : (0 : Int32).toInt = 0 := by decide
  omega
theorem m_r0 {S : Nat → Int32} {N : Nat} (hN : 10 < N) (h : S 1 = nI 0) : fX6_rounds N S = some (nI 0, S) := by
  obtain ⟨u, rfl⟩ : ∃ u, N = u + 1 := ⟨N - 1, by omega⟩
  have e : nI 0 - nI 1 = (-1 : Int32) := by decide
  unfold fX6_rounds
  rw [nm_s, h, e, nm_s]
  unfold fX6_rounds_8
  rw [itn_s]
  unfold fX6_rounds_8b
  rw [if_pos (by decide), h, e, nm_s]
  unfold fX6_rounds_53
  rw [itn_s]
  unfold fX6_rounds_53b
  rw [if_pos (by decide)]
theorem c_r0 {P L : Rc} {N : Nat} (hN : 10 < N) (h : P 6 0 = nI 0) : fX1_round N P L = some L := by
  obtain ⟨u, rfl⟩ : ∃ u, N = u + 1 := ⟨N - 1, by omega⟩
  have e : nI 0 - nI 1 = (-1 : Int32) := by decide
  unfold fX1_round
  rw [h, e, nm_s]
  unfold fX1_round_10
  rw [itn_s]
  unfold fX1_round_10b
  rw [if_pos (by decide), h, e, nm_s]
  unfold fX1_round_56
  rw [itn_s]
  unfold fX1_round_56b
  rw [if_pos (by decide)]
theorem c_new0 {P L : Rc} {N : Nat} (hN : 100 < N) (h : P 6 0 = nI 0) : ∃ L', fX1_startAnewp N P L (nI 1) = some L' ∧ L' 8 0 = nI 0 ∧ L' 1 0 = nI 0 ∧ L' 9 0 = -1 ∧ L' 10 0 = -1 := by
  unfold fX1_startAnewp
  simp only [↓nm_s, ↓bnd_s, s_fill (show (6 : Nat) < 2 ^ 31 from by omega) (show 6 < N from by omega), s_fill (show (24 : Nat) < 2 ^ 31 from by omega) (show 24 < N from by omega)]
  rw [c_r0 (by omega) h, bnd_s]
  refine ⟨_, rfl, ?_, ?_, ?_, ?_⟩
  · simp (disch := omega) only [va_up_ne, va_up_self]
  · simp (disch := omega) only [va_up_ne, va_up_self]
    rfl
  · simp (disch := omega) only [va_up_ne, va_up_self]
  · simp (disch := omega) only [va_up_self]
theorem c_clear (q : Nx) : fX3_clear (embP q) = some (embP (up1 (up1 (up1 (up1 q 6 0) 7 0) 8 0) 9 0)) := by
  unfold fX3_clear
  simp only [↓nm_s, embP_up1]
/-- both read the same -/
theorem read_both {T : Nat → Int32} {t : Nat → Nat} {N L : Nat} {q : Nx} {R M : Rc} {ML : RcL} (hT : TP T t) (hT' : TP (M 1) t) (hN : 1000 < N) (hL : L ≤ 440) (hq : ∀ i, q 5 i < 2 ^ 31) (hM : M 2 0 = nI L) : ∃ M0, TxR M0 N (fX4_read N T (embP q) R (nI L)) (fX6_text N M ML) ∧ M0 2 0 = nI 0 ∧ M0 8 0 = nI 0 ∧ ∀ a, a = 1 ∨ a = 11 ∨ a = 13 ∨ a = 14 ∨ a = 15 → M0 a = M a := by
  generalize hM5 : va_up (va_up (va_up (va_up (va_up M 0 (fun _ => nI 0)) 3 (fun _ => nI L)) 2 (fun _ => nI 0)) 8 (fun _ => nI 0)) 4 (fun _ => nI 0) = M5
  have f1 : M5 1 = M 1 := by rw [← hM5]; simp (disch := omega) only [va_up_ne]
  have f2 : M5 2 0 = nI 0 := by rw [← hM5]; simp (disch := omega) only [va_up_ne, va_up_self]
  have f3 : M5 3 0 = nI L := by rw [← hM5]; simp (disch := omega) only [va_up_ne, va_up_self]
  have f4 : M5 4 0 = nI 0 := by rw [← hM5, va_up_self]
  have f8 : M5 8 0 = nI 0 := by rw [← hM5]; simp (disch := omega) only [va_up_ne, va_up_self]
  have fo : ∀ a, a = 1 ∨ a = 11 ∨ a = 13 ∨ a = 14 ∨ a = 15 → M5 a = M a := by
    intro a ha
    rw [← hM5, va_up_ne _ _ (by omega), va_up_ne _ _ (by omega), va_up_ne _ _ (by omega), va_up_ne _ _ (by omega), va_up_ne _ _ (by omega)]
  obtain ⟨M6, z1, z2, z3, z4⟩ := m_zero (ML := ML) (N := N) (v := nI 0) (d := 353) (i := 0) (u := N) (M := M5) (by omega) (by omega)
  obtain ⟨M7, ML7, g1, g2, g3⟩ := tokM (N := N) (L := L) (a := 0) (M := M6) (ML := ML) (by omega) hL (by omega) (by rw [z4 1 (by omega), f1]; exact hT') (by rw [z4 4 (by omega)]; exact f4) (by rw [z4 3 (by omega)]; exact f3)
  have mb : MB t L 0 M7 ML7 := ⟨g2, by rw [g3 1 (by omega) (by omega) (by omega) (by omega), z4 1 (by omega), f1]; exact hT', by rw [g3 3 (by omega) (by omega) (by omega) (by omega), z4 3 (by omega)]; exact f3, by omega⟩
  have et : fX6_text N M ML = itn (fX6_text_56b N) (fun _ _ _ => none) N M7 ML7 (nI 0) := by
    unfold fX6_text
    rw [nm_s, va_up_ne _ _ (show (2 : Nat) ≠ 0 from by omega), hM, nm_s, nm_s, nm_s, nm_s, nm_s, nm_s, hM5]
    unfold fX6_text_32
    rw [z1, g1, bnd_s]
    rfl
  generalize hR3 : va_up (va_up (va_up R 2 (fun _ => nI L)) 5 (fun _ => nI 0)) 3 (fun _ => nI 0) = R3
  have r2 : R3 2 0 = nI L := by rw [← hR3]; simp (disch := omega) only [va_up_ne, va_up_self]
  have r3 : R3 3 0 = nI 0 := by rw [← hR3, va_up_self]
  have r5 : R3 5 0 = nI 0 := by rw [← hR3]; simp (disch := omega) only [va_up_ne, va_up_self]
  obtain ⟨R4, k1, k2, k3, k4, k5⟩ := tokC (t := t) hT (N := N) (L := L) (a := 0) (R := R3) (by omega) hL (by omega) r5 r2
  have ec : fX4_read N T (embP q) R (nI L) = itn (fX4_read_36b N) (fun _ _ _ _ => none) N T (embP (up1 (up1 (up1 (up1 q 6 0) 7 0) 8 0) 9 0)) R4 (nI 0) := by
    unfold fX4_read
    rw [if_nlt (by omega) (by omega), nm_s, nm_s, nm_s, hR3, c_clear, bnd_s, nm_s, k1, bnd_s]
    rfl
  have eb := tE_b (t := t) (L := L) (a := 0) (by omega)
  have rd := rd_loop hT (N := N) (L := L) (by omega) hL (d := L + 1) (u := N) (w := N) (a := 0) (n := 0) (R := R4) (q := up1 (up1 (up1 (up1 q 6 0) 7 0) 8 0) 9 0) (g := fun _ _ => 0) (M := M7) (ML := ML7) (by omega) (by omega) (by omega) (by omega) ⟨by rw [k5 2 (by omega) (by omega) (by omega)]; exact r2, k2, eb.2.1⟩ (show R4 3 0 = nI 0 from by rw [k5 3 (by omega) (by omega) (by omega)]; exact r3) k3 k4 mb (Or.inl ⟨rfl, ⟨fun j hj => by rw [g3 12 (by omega) (by omega) (by omega) (by omega)]; exact z2 j (by omega) hj, by simp (disch := omega) only [up1_ne, up1_at], by simp (disch := omega) only [up1_ne, up1_at], by simp (disch := omega) only [up1_ne, up1_at], by rw [up1_at], fun i => by simp (disch := omega) only [up1_ne]; exact hq i⟩⟩)
  refine ⟨M7, by rw [ec, et]; exact rd, ?_, ?_, fun a ha => ?_⟩
  · rw [g3 2 (by omega) (by omega) (by omega) (by omega), z4 2 (by omega)]; exact f2
  · rw [g3 8 (by omega) (by omega) (by omega) (by omega), z4 8 (by omega)]; exact f8
  · rw [g3 a (by omega) (by omega) (by omega) (by omega), z4 a (by omega)]; exact fo a ha
theorem SP2_ok {N : Nat} (hN : 100000 < N) : SP2 N Rel := by
  intro c FL M ML h _
  obtain ⟨⟨t, L, t1, t2, t3, t4, t5⟩, h3, ⟨q, q1, q2⟩, p, p1, p2, h4⟩ := id h
  have top : ∃ d, d < 8 ∧ c 7 2 0 = nI d := by
    rcases h4 with ⟨e1, e2, e3, e4⟩ | ⟨g, x, w1, w2, w3, w4, ⟨n, d, r1, r2, r3, r4, r5, r6⟩, w6⟩
    · exact e3.2.1
    · exact ⟨d, r2, r4⟩
  obtain ⟨d, d8, hd⟩ := top
  obtain ⟨M0, tx, a2, a8, ao⟩ := read_both (N := N) (q := q) (R := c 3) (M := M) (ML := ML) t4 t5 (by omega) t1 q2 t3
  unfold fX5_text
  rw [q1, t2]
  rcases tx with ⟨f, q', R', M', ML', x1, x2, x3, x4, x5⟩ | ⟨n, q', g', R', M', ML', x1, x2, x3, x4, x5, x6, x7⟩
  · have x2' : R' 3 0 = nI f.1 ∧ R' 4 0 = nI f.2 ∧ 1 ≤ f.1 ∧ f.1 ≤ 3 ∧ f.2 ≤ 440 := x2
    rw [x1, bnd_s, nm_s, nm_s, if_neg (neg_s x2'.2.2.2.2), x4]
    refine ⟨_, _, rfl, rfl, rfl, Rel_gen (fun a ha => ?_) ?_ ?_ (fun a ha => ?_) ⟨t, 0, by omega, ?_, ?_, ?_, ?_⟩ ?_ ⟨q', ?_, x3⟩ h⟩
    · rcases ha with rfl | rfl | rfl | ha
      · simp (disch := omega) only [va_up_ne, va_up_self]
      · simp (disch := omega) only [va_up_ne, va_up_self]
      · simp (disch := omega) only [va_up_self]
      · simp (disch := omega) only [va_up_ne]
    · simp (disch := omega) only [va_up_ne, va_up_self]
    · simp (disch := omega) only [va_up_ne, va_up_self]
    · exact (x5.2.2 a (by omega) (by omega) (by omega) (by omega) (by omega) (by omega) (by omega)).trans (ao a (by omega))
    · simp (disch := omega) only [va_up_ne, va_up_self]
    · exact (congrFun (x5.2.2 2 (by omega) (by omega) (by omega) (by omega) (by omega) (by omega) (by omega)) 0).trans a2
    · simp (disch := omega) only [va_up_ne]; exact t4
    · rw [show TP ((((-1 : Int32) - nI f.2, M', ML').2.1) 1) t = TP (M' 1) t from rfl, x5.2.2 1 (by omega) (by omega) (by omega) (by omega) (by omega) (by omega) (by omega), ao 1 (by omega)]; exact t5
    · simp (disch := omega) only [va_up_ne, va_up_self]; exact x2'.1.trans x5.1.symm
    · simp (disch := omega) only [va_up_ne, va_up_self]
  · obtain ⟨X', g1, g2, g3⟩ := c_forget (X := va_up (c 0) 1 (fun _ => nI 0)) (N := N) (by omega)
    have x10 : X' 1 0 = nI 0 := by rw [g2 1 (by omega), va_up_self]
    have q5 := DN_5 x5
    have p5 : ∀ i, pCpy p q' 5 i < 2 ^ 31 := by
      intro i
      rw [pCpy_5]
      split
      · exact q5 i
      · exact p2 i
    have m2 : M' 2 0 = nI 0 := by rw [x7 2 (by omega) (by omega) (by omega) (by omega) (by omega)]; exact a2
    have m8 : M' 8 0 = nI 0 := by rw [x7 8 (by omega) (by omega) (by omega) (by omega) (by omega)]; exact a8
    have m1 : TP (M' 1) t := by rw [x7 1 (by omega) (by omega) (by omega) (by omega) (by omega), ao 1 (by omega)]; exact t5
    have cY : fX0_clear (c 7) = some (va_up (c 7) 1 (fun _ => nI 0)) := by unfold fX0_clear; rw [nm_s]
    rw [x1, bnd_s, nm_s, nm_s, if_pos (nI_pos' (by omega)), p1]
    dsimp only
    rw [c_pCpy, bnd_s, x4]
    unfold fX6_text_116
    rw [nm_s, va_up_self]
    rcases x5 with ⟨z, ⟨z0, z6, z7, z8, z9, z5⟩⟩ | ⟨z, dr⟩
    · -- an empty text
      have e6 : pCpy p q' 6 0 = 0 := by rw [pCpy_6 (by omega)]; exact z6
      obtain ⟨L', l1, l2, l3, l4, l5⟩ := c_new0 (P := embP (pCpy p q')) (L := c 5) (N := N) (by omega) (by rw [embP_a, e6])
      obtain ⟨T, c1, c2, c3, c4, c5, c6, c7⟩ := m_clears (N := N) (q := 0) (S := upd (M' 12) 16 (M' 12 1 - nI 1)) (by omega) (by omega) (by rw [upd_ne (by omega)]; exact z0 14 (by omega))
      have tj : ∀ j, j < 48 → j ≠ 16 → T j = nI 0 := fun j h1 h2 => by rw [c2 j h1 (fun l hl => by omega), upd_ne h2]; exact z0 j (by omega)
      have r0 := m_r0 (N := N) (by omega) (tj 1 (by omega) (by omega))
      have cp := m_copy (nU := 353) (nV := 353) (N := N) (a := 0) (b := 0) (by omega) (by omega) (by omega) (by omega) (by omega) (U := T) (V := M' 11)
      have be : fX6_begins N (upd (M' 12) 16 (M' 12 1 - nI 1)) = some T := by
        unfold fX6_begins
        rw [c1, bnd_s, r0, bnd_s]
      rw [l1, bnd_s, cY, bnd_s, g1, bnd_s, be, bnd_s, bx_uu, nm_s, va_up_self, va_up_ne _ _ (show (11 : Nat) ≠ 12 from by omega), cp, bnd_s, nm_s, nm_s]
      have v11 : ∀ j, j < 353 → (fun j => if 0 ≤ j ∧ j < 0 + 353 then T (0 + (j - 0)) else M' 11 j) j = T j := by
        intro j hj
        show (if 0 ≤ j ∧ j < 0 + 353 then T (0 + (j - 0)) else M' 11 j) = _
        rw [if_pos (by omega)]
        congr 1
        omega
      generalize (fun j => if 0 ≤ j ∧ j < 0 + 353 then T (0 + (j - 0)) else M' 11 j) = V at v11
      refine ⟨_, _, rfl, rfl, rfl, ⟨t, 0, by omega, ?_, ?_, ?_, ?_⟩, ?_, ⟨q', ?_, q5⟩, pCpy p q', ?_, p5, Or.inl ⟨⟨e6, by rw [pCpy_6 (by omega)]; exact z7, by rw [pCpy_6 (by omega)]; exact z8⟩, ?_, ?_, ?_⟩⟩
      · simp (disch := omega) only [va_up_ne, va_up_self]; exact x10
      · simp (disch := omega) only [va_up_ne]; exact m2
      · simp (disch := omega) only [va_up_ne]; exact t4
      · simp (disch := omega) only [va_up_ne]; exact m1
      · simp (disch := omega) only [va_up_ne, va_up_self]; exact x2.trans m8.symm
      · simp (disch := omega) only [va_up_ne, va_up_self]
      · simp (disch := omega) only [va_up_ne, va_up_self]
      · simp (disch := omega) only [va_up_ne, va_up_self]; exact ⟨l2, l3, l4, l5⟩
      · simp (disch := omega) only [va_up_ne, va_up_self]; exact ⟨trivial, ⟨d, d8, hd⟩, trivial⟩
      · simp (disch := omega) only [va_up_ne, va_up_self]
        rw [v11 0 (by omega), v11 1 (by omega), v11 14 (by omega), v11 35 (by omega), v11 48 (by omega), v11 49 (by omega), v11 50 (by omega), v11 51 (by omega), v11 52 (by omega)]
        exact ⟨tj 0 (by omega) (by omega), tj 1 (by omega) (by omega), tj 14 (by omega) (by omega), tj 35 (by omega) (by omega), c7 48 (by omega) (by omega) (by omega) (by omega) (fun k _ => by omega), c7 49 (by omega) (by omega) (by omega) (by omega) (fun k _ => by omega), c7 50 (by omega) (by omega) (by omega) (by omega) (fun k _ => by omega), c5, c6⟩
    · -- a works
      obtain ⟨w1, w2, wC, wS⟩ := tx_plan (p0 := p) dr (x6 z) p2
      rw [← dr.1.2.1] at wS
      obtain ⟨x, hx⟩ := embL_all (c 5)
      obtain ⟨T, b1, b2, b3⟩ := m_begins (x := x) (N := N) w1 w2 (by omega) (by omega) wC wS
      have nw : fX1_startAnewp N (embP (pCpy p q')) (embL x) (nI 1) = some (embL (sRound (pCpy p q') (sClr x (pCpy p q' 4) 1))) := s_new (x := x) (C := pCpy p q' 4) (f := 1) w1 (N := N) (by omega) (by omega) wC (D := embP (pCpy p q') 4) (fun l _ => embP_a _ _ _)
      have sn := Stt_new (x := x) (C := pCpy p q' 4) (f := 1) w1 (by omega) wC
      generalize sRound (pCpy p q') (sClr x (pCpy p q' 4) 1) = x' at nw sn b2 b3
      have cp := m_copy (nU := 353) (nV := 353) (N := N) (a := 0) (b := 0) (by omega) (by omega) (by omega) (by omega) (by omega) (U := T) (V := M' 11)
      rw [hx, nw, bnd_s, cY, bnd_s, g1, bnd_s, b1, bnd_s, bx_uu, nm_s, va_up_self, va_up_ne _ _ (show (11 : Nat) ≠ 12 from by omega), cp, bnd_s, nm_s, nm_s]
      have v11 : ∀ j, j < 353 → (fun j => if 0 ≤ j ∧ j < 0 + 353 then T (0 + (j - 0)) else M' 11 j) j = T j := by
        intro j hj
        show (if 0 ≤ j ∧ j < 0 + 353 then T (0 + (j - 0)) else M' 11 j) = _
        rw [if_pos (by omega)]
        congr 1
        omega
      generalize (fun j => if 0 ≤ j ∧ j < 0 + 353 then T (0 + (j - 0)) else M' 11 j) = V at v11
      refine ⟨_, _, rfl, rfl, rfl, ⟨t, 0, by omega, ?_, ?_, ?_, ?_⟩, ?_, ⟨q', ?_, q5⟩, pCpy p q', ?_, p5, Or.inr ⟨g', x', w1, w2, ?_, ?_, ⟨0, d, by omega, d8, ?_, ?_, ?_, fun i hi => by omega⟩, ?_⟩⟩
      · simp (disch := omega) only [va_up_ne, va_up_self]; exact x10
      · simp (disch := omega) only [va_up_ne]; exact m2
      · simp (disch := omega) only [va_up_ne]; exact t4
      · simp (disch := omega) only [va_up_ne]; exact m1
      · simp (disch := omega) only [va_up_ne, va_up_self]; exact x2.trans m8.symm
      · simp (disch := omega) only [va_up_ne, va_up_self]
      · simp (disch := omega) only [va_up_ne, va_up_self]
      · simp (disch := omega) only [va_up_ne, va_up_self]
      · simp (disch := omega) only [va_up_ne, va_up_self]
        exact ⟨sn.1, sn.2.2.2.1, by have := sn.2.1; omega, RelS_eq w1 w2 sn.1.1 v11 b2, SumS_eq w1 v11 b3⟩
      · simp (disch := omega) only [va_up_self]
      · simp (disch := omega) only [va_up_ne, va_up_self]; exact hd
      · simp (disch := omega) only [va_up_self]
      · simp (disch := omega) only [va_up_ne, va_up_self]
        exact KN_0 g3
