/-! each line, by both -/
theorem nI_ran {v lo hi : Nat} (hv : v ≤ 99) (hlo : lo < 2 ^ 31) (hhi : hi < 2 ^ 31) (h1 : ¬ nI v < nI lo) (h2 : nI v ≤ nI hi) : lo ≤ v ∧ v ≤ hi := by
  rw [nI_ltI (by omega) hlo] at h1
  rw [nI_leI (by omega) hhi] at h2
  omega
theorem ln_st {T : Nat → Int32} {t : Nat → Nat} (hT : TP T t) {N L a : Nat} (hN : 500 < N) (hL : L ≤ 440) {R : Rc} {q g : Nx} {M : Rc} {ML : RcL} (h : RC R L (tE t L a)) (ho : FO R none) (h7 : R 7 0 = nI (tS t L a)) (hk : tK t L a = 2) (hM : MB t L a M ML) (hd : DR q g (M 12)) : LnR N t L a q M (fX4_readStation N T (embP q) R) (fX6_readStation N M ML) := by
  have s1 := hd.1.2.1
  have b6 := hd.2.1.1
  have sb := tS_b (t := t) hM.2.2.2 hL
  have tc := tK_c (t := t) hM.2.2.2
  have aE : a < tE t L a := by omega
  unfold fX4_readStation fX6_readStation
  rw [embP_a, s1, nm_s]
  by_cases c : q 6 0 = 6
  · obtain ⟨R1, f1, f2, f3⟩ := c_fail (k := 3) (by omega) sb ho h7
    have rc1 : RC R1 L (tE t L a) := ⟨by rw [f3 2 (by omega) (by omega)]; exact h.1, by rw [f3 5 (by omega) (by omega)]; exact h.2.1, h.2.2⟩
    obtain ⟨R2, r1, r2, r3, r4⟩ := c_st17 hT hN hL (Q := embP q) rc1 f2
    obtain ⟨M', b1, b2⟩ := m_bad (k := 3) hM hL (fun z => by omega)
    rw [if_nlt (by omega) (by omega), f1, bnd_s, if_eq c, b1, bnd_s, gdb_0, r4 _ rfl]
    exact Or.inl ⟨_, R2, _, M', ML, rfl, r1, r2, Or.inl rfl, b2⟩
  · obtain ⟨R2, r1, r2, r3, r4⟩ := c_st17 hT hN hL (Q := embP q) h ho
    obtain ⟨M1, ML1, g1, g2, g3⟩ := m_go hN hL hM (by omega)
    rw [if_lt (by omega) (by omega), if_neq c (by omega) (by omega), g1, bnd_s, nI_add]
    have o1 : ∀ i, i ≠ 4 → i ≠ 5 → i ≠ 6 → i ≠ 7 → i ≠ 12 → M1 i = M i := fun i q1 q2 q3 q4 _ => g3 i q1 q2 q3 q4
    have t1 := m_told (lo := nI 1) (hi := nI 60) hN hL (j := 2 + q 6 0) (by omega) g2
    cases e1 : rnO t L (nI 1) (nI 60) none (tE t L a) with
    | some f =>
      obtain ⟨M2, u1, u2⟩ := t1.2 f e1
      rw [e1] at r2 r4
      rw [u1, bnd_s, if_e0 rfl, r4 _ rfl]
      exact Or.inl ⟨f, R2, _, M2, ML1, rfl, r1, r2, Or.inl rfl, MF_mv u2 o1⟩
    | none =>
      obtain ⟨M2, ML2, u1, u2, u3, u4, u5, u6, u7, u8⟩ := t1.1 e1
      rw [u1, bnd_s, if_n0 (by omega) (by omega), nI_add]
      have o2 : ∀ i, i ≠ 4 → i ≠ 5 → i ≠ 6 → i ≠ 7 → i ≠ 12 → M2 i = M i := fun i q1 q2 q3 q4 q5 => (u8 i q1 q2 q3 q4 q5).trans (o1 i q1 q2 q3 q4 q5)
      have t2 := m_told (lo := nI 0) (hi := nI 60) hN hL (j := 8 + q 6 0) (by omega) u2
      rw [e1] at r2 r3 r4
      cases e2 : rnO t L (nI 0) (nI 60) none (tE t L (tE t L a)) with
      | some f =>
        obtain ⟨M3, v1, v2⟩ := t2.2 f e2
        rw [e2] at r2 r4
        rw [v1, bnd_s, if_e0 rfl, r4 _ rfl]
        exact Or.inl ⟨f, R2, _, M3, ML2, rfl, r1, r2, Or.inl rfl, MF_mv v2 o2⟩
      | none =>
        obtain ⟨M3, ML3, v1, v2, v3, v4, v5, v6, v7, v8⟩ := t2.1 e2
        have o3 : ∀ i, i ≠ 4 → i ≠ 5 → i ≠ 6 → i ≠ 7 → i ≠ 12 → M3 i = M i := fun i q1 q2 q3 q4 q5 => (v8 i q1 q2 q3 q4 q5).trans (o2 i q1 q2 q3 q4 q5)
        have w12 : M3 12 = upd (upd (M 12) (2 + q 6 0) (nI (tV t L (tE t L a)))) (8 + q 6 0) (nI (tV t L (tE t L (tE t L a)))) := by
          rw [v3, u3, g3 12 (by omega) (by omega) (by omega) (by omega)]
        have w1 : M3 12 1 = nI (q 6 0) := by rw [w12, upd_ne (by omega), upd_ne (by omega)]; exact s1
        rw [v1, bnd_s, if_n0 (by omega) (by omega)]
        dsimp only
        rw [w1, nI_add, nm_s]
        have te := m_end hN hL (MB_12 (S := upd (M3 12) 1 (nI (q 6 0 + 1))) v2)
        have o4 : ∀ i, i ≠ 4 → i ≠ 5 → i ≠ 6 → i ≠ 7 → i ≠ 12 → va_up M3 12 (upd (M3 12) 1 (nI (q 6 0 + 1))) i = M i := fun i q1 q2 q3 q4 q5 => by rw [va_up_ne _ _ q5]; exact o3 i q1 q2 q3 q4 q5
        have ran1 := nI_ran u5 (by omega) (by omega) u6 u7
        have ran2 := nI_ran v5 (by omega) (by omega) v6 v7
        rw [e2] at r2 r3 r4
        cases e3 : rsO t L none (tE t L (tE t L (tE t L a))) with
        | some f =>
          obtain ⟨M4, x1, x2⟩ := te.2 f e3
          rw [e3] at r2 r4
          rw [r4 _ rfl]
          exact Or.inl ⟨f, R2, _, M4, ML3, rfl, r1, r2, Or.inr ⟨_, _, rfl, x1⟩, MF_mv x2 o4⟩
        | none =>
          obtain ⟨M4, ML4, x1, x2, x3, x4⟩ := te.1 e3
          rw [e3] at r2 r3
          rw [r3 rfl, c_addSt (by omega), bnd_s]
          refine Or.inr ⟨_, g, _, R2, _, _, M4, ML4, rfl, r1, r2, by omega, rfl, x1, x2, ?_, fun i q1 q2 q3 q4 q5 => (x4 i q1 q2 q3 q4).trans (o4 i q1 q2 q3 q4 q5)⟩
          rw [x4 12 (by omega) (by omega) (by omega) (by omega), va_up_self, w12]
          exact DR_st hd (by omega) ran1 ran2.2
theorem ln_rn {T : Nat → Int32} {t : Nat → Nat} (hT : TP T t) {N L a : Nat} (hN : 500 < N) (hL : L ≤ 440) {R : Rc} {q g : Nx} {M : Rc} {ML : RcL} (h : RC R L (tE t L a)) (ho : FO R none) (h7 : R 7 0 = nI (tS t L a)) (hk : tK t L a = 2) (hM : MB t L a M ML) (hd : DR q g (M 12)) : LnR N t L a q M (fX4_readRun N T (embP q) R) (fX6_readRun N M ML) := by
  have s1 := hd.1.2.2.2.1
  have b8 := hd.2.2.2.1.1
  have sb := tS_b (t := t) hM.2.2.2 hL
  have tc := tK_c (t := t) hM.2.2.2
  have aE : a < tE t L a := by omega
  unfold fX4_readRun fX6_readRun
  rw [embP_a, s1]
  by_cases c : q 8 0 = 6
  · obtain ⟨R1, f1, f2, f3⟩ := c_fail (k := 3) (by omega) sb ho h7
    have rc1 : RC R1 L (tE t L a) := ⟨by rw [f3 2 (by omega) (by omega)]; exact h.1, by rw [f3 5 (by omega) (by omega)]; exact h.2.1, h.2.2⟩
    obtain ⟨R2, r1, r2, r3, r4⟩ := c_rn17 hT hN hL (Q := embP q) rc1 f2
    obtain ⟨M', b1, b2⟩ := m_bad (k := 3) hM hL (fun z => by omega)
    rw [if_nlt (by omega) (by omega), f1, bnd_s, if_eq c, b1, bnd_s, gdb_0, r4 _ rfl]
    exact Or.inl ⟨_, R2, _, M', ML, rfl, r1, r2, Or.inl rfl, b2⟩
  · obtain ⟨R2, r1, r2, r3, r4⟩ := c_rn17 hT hN hL (Q := embP q) h ho
    obtain ⟨M1, ML1, g1, g2, g3⟩ := m_go hN hL hM (by omega)
    have s1' : M1 12 35 = nI (q 8 0) := by rw [g3 12 (by omega) (by omega) (by omega) (by omega)]; exact s1
    rw [if_lt (by omega) (by omega), if_neq c (by omega) (by omega), g1, bnd_s]
    dsimp only
    rw [s1', pk_mul, nI_add, nm_s]
    have o1 : ∀ i, i ≠ 4 → i ≠ 5 → i ≠ 6 → i ≠ 7 → i ≠ 12 → M1 i = M i := fun i q1 q2 q3 q4 _ => g3 i q1 q2 q3 q4
    have t1 := m_told (lo := nI 0) (hi := nI 3) hN hL (j := 36 + 2 * q 8 0) (by omega) g2
    cases e1 : rnO t L (nI 0) (nI 3) none (tE t L a) with
    | some f =>
      obtain ⟨M2, u1, u2⟩ := t1.2 f e1
      rw [e1] at r2 r4
      rw [u1, bnd_s, if_e0 rfl, r4 _ rfl]
      exact Or.inl ⟨f, R2, _, M2, ML1, rfl, r1, r2, Or.inl rfl, MF_mv u2 o1⟩
    | none =>
      obtain ⟨M2, ML2, u1, u2, u3, u4, u5, u6, u7, u8⟩ := t1.1 e1
      rw [u1, bnd_s, if_n0 (by omega) (by omega), nI_add]
      have o2 : ∀ i, i ≠ 4 → i ≠ 5 → i ≠ 6 → i ≠ 7 → i ≠ 12 → M2 i = M i := fun i q1 q2 q3 q4 q5 => (u8 i q1 q2 q3 q4 q5).trans (o1 i q1 q2 q3 q4 q5)
      have t2 := m_told (lo := nI 1) (hi := nI 20) hN hL (j := 36 + 2 * q 8 0 + 1) (by omega) u2
      rw [e1] at r2 r3 r4
      cases e2 : rnO t L (nI 1) (nI 20) none (tE t L (tE t L a)) with
      | some f =>
        obtain ⟨M3, v1, v2⟩ := t2.2 f e2
        rw [e2] at r2 r4
        rw [v1, bnd_s, if_e0 rfl, r4 _ rfl]
        exact Or.inl ⟨f, R2, _, M3, ML2, rfl, r1, r2, Or.inl rfl, MF_mv v2 o2⟩
      | none =>
        obtain ⟨M3, ML3, v1, v2, v3, v4, v5, v6, v7, v8⟩ := t2.1 e2
        have o3 : ∀ i, i ≠ 4 → i ≠ 5 → i ≠ 6 → i ≠ 7 → i ≠ 12 → M3 i = M i := fun i q1 q2 q3 q4 q5 => (v8 i q1 q2 q3 q4 q5).trans (o2 i q1 q2 q3 q4 q5)
        have w12 : M3 12 = upd (upd (M 12) (36 + 2 * q 8 0) (nI (tV t L (tE t L a)))) (36 + 2 * q 8 0 + 1) (nI (tV t L (tE t L (tE t L a)))) := by
          rw [v3, u3, g3 12 (by omega) (by omega) (by omega) (by omega)]
        have w1 : M3 12 35 = nI (q 8 0) := by rw [w12, upd_ne (by omega), upd_ne (by omega)]; exact s1
        rw [v1, bnd_s, if_n0 (by omega) (by omega)]
        dsimp only
        rw [w1, nI_add, nm_s]
        have te := m_end hN hL (MB_12 (S := upd (M3 12) 35 (nI (q 8 0 + 1))) v2)
        have o4 : ∀ i, i ≠ 4 → i ≠ 5 → i ≠ 6 → i ≠ 7 → i ≠ 12 → va_up M3 12 (upd (M3 12) 35 (nI (q 8 0 + 1))) i = M i := fun i q1 q2 q3 q4 q5 => by rw [va_up_ne _ _ q5]; exact o3 i q1 q2 q3 q4 q5
        have ran1 := nI_ran u5 (by omega) (by omega) u6 u7
        have ran2 := nI_ran v5 (by omega) (by omega) v6 v7
        rw [e2] at r2 r3 r4
        cases e3 : rsO t L none (tE t L (tE t L (tE t L a))) with
        | some f =>
          obtain ⟨M4, x1, x2⟩ := te.2 f e3
          rw [e3] at r2 r4
          rw [r4 _ rfl]
          exact Or.inl ⟨f, R2, _, M4, ML3, rfl, r1, r2, Or.inr ⟨_, _, rfl, x1⟩, MF_mv x2 o4⟩
        | none =>
          obtain ⟨M4, ML4, x1, x2, x3, x4⟩ := te.1 e3
          have dr := DR_rn hd (by omega) ran1.2 ran2
          rw [e3] at r2 r3
          rw [r3 rfl, c_addRn hN ran2.2 (by omega) dr.2, bnd_s]
          refine Or.inr ⟨_, up2 (up2 g 0 (q 8 0) (tV t L (tE t L a))) 1 (q 8 0) (tV t L (tE t L (tE t L a))), _, R2, _, _, M4, ML4, rfl, r1, r2, by omega, rfl, x1, x2, ?_, fun i q1 q2 q3 q4 q5 => (x4 i q1 q2 q3 q4).trans (o4 i q1 q2 q3 q4 q5)⟩
          rw [x4 12 (by omega) (by omega) (by omega) (by omega), va_up_self, w12]
          exact dr.1
theorem ln_wk {T : Nat → Int32} {t : Nat → Nat} (hT : TP T t) {N L a : Nat} (hN : 500 < N) (hL : L ≤ 440) {R : Rc} {q : Nx} {M : Rc} {ML : RcL} (h : RC R L (tE t L a)) (ho : FO R none) (hk : tK t L a = 2) (hM : MB t L a M ML) (hd : DR0 q (M 12)) : LnR N t L a q M (fX4_readWorks N T (embP q) R) (fX6_readWorks N M ML) := by
  have tc := tK_c (t := t) hM.2.2.2
  have aE : a < tE t L a := by omega
  unfold fX6_readWorks
  obtain ⟨R2, r1, r2, r3, r4⟩ := c_wk hT hN hL (Q := embP q) h ho
  obtain ⟨M1, ML1, g1, g2, g3⟩ := m_go hN hL hM (by omega)
  rw [g1, bnd_s]
  have o1 : ∀ i, i ≠ 4 → i ≠ 5 → i ≠ 6 → i ≠ 7 → i ≠ 12 → M1 i = M i := fun i q1 q2 q3 q4 _ => g3 i q1 q2 q3 q4
  have t1 := m_told (lo := nI 1) (hi := nI 20) hN hL (j := 17) (by omega) g2
  cases e1 : rnO t L (nI 1) (nI 20) none (tE t L a) with
  | some f =>
    obtain ⟨M2, u1, u2⟩ := t1.2 f e1
    rw [e1] at r2 r4
    rw [u1, bnd_s, if_e0 rfl, r4 _ rfl]
    exact Or.inl ⟨f, R2, _, M2, ML1, rfl, r1, r2, Or.inl rfl, MF_mv u2 o1⟩
  | none =>
    obtain ⟨M2, ML2, u1, u2, u3, u4, u5, u6, u7, u8⟩ := t1.1 e1
    have o2 : ∀ i, i ≠ 4 → i ≠ 5 → i ≠ 6 → i ≠ 7 → i ≠ 12 → M2 i = M i := fun i q1 q2 q3 q4 q5 => (u8 i q1 q2 q3 q4 q5).trans (o1 i q1 q2 q3 q4 q5)
    have w12 : M2 12 = upd (M 12) 17 (nI (tV t L (tE t L a))) := by
      rw [u3, g3 12 (by omega) (by omega) (by omega) (by omega)]
    rw [u1, bnd_s, if_n0 (by omega) (by omega)]
    dsimp only
    rw [nm_s, va_up_self, nm_s]
    have te := m_end hN hL (MB_12 (S := upd (upd (M2 12) 0 (nI 1)) 14 (nI 1)) (MB_12 (S := upd (M2 12) 0 (nI 1)) u2))
    have o4 : ∀ i, i ≠ 4 → i ≠ 5 → i ≠ 6 → i ≠ 7 → i ≠ 12 → va_up (va_up M2 12 (upd (M2 12) 0 (nI 1))) 12 (upd (upd (M2 12) 0 (nI 1)) 14 (nI 1)) i = M i := fun i q1 q2 q3 q4 q5 => by rw [va_up_ne _ _ q5, va_up_ne _ _ q5]; exact o2 i q1 q2 q3 q4 q5
    have ran1 := nI_ran u5 (by omega) (by omega) u6 u7
    rw [e1] at r2 r3 r4
    cases e3 : rsO t L none (tE t L (tE t L a)) with
    | some f =>
      obtain ⟨M4, x1, x2⟩ := te.2 f e3
      rw [e3] at r2 r4
      rw [r4 _ rfl]
      exact Or.inl ⟨f, R2, _, M4, ML2, rfl, r1, r2, Or.inr ⟨_, _, rfl, x1⟩, MF_mv x2 o4⟩
    | none =>
      obtain ⟨M4, ML4, x1, x2, x3, x4⟩ := te.1 e3
      rw [e3] at r2 r3
      rw [r3 rfl, c_addLp (by have := hd.2.2.1; omega), bnd_s]
      refine Or.inr ⟨_, fun _ _ => 0, _, R2, _, _, M4, ML4, rfl, r1, r2, by omega, rfl, x1, x2, ?_, fun i q1 q2 q3 q4 q5 => (x4 i q1 q2 q3 q4).trans (o4 i q1 q2 q3 q4 q5)⟩
      rw [x4 12 (by omega) (by omega) (by omega) (by omega), va_up_self, w12]
      exact DR_wk hd ran1
/-- numbers against one that may be below 0 -/
theorem nI_le_m1 {v s : Nat} (hv : v ≤ 99) (hs : s ≤ 6) (h : nI v ≤ nI s - nI 1) : v < s := by
  by_cases c : s = 0
  · exfalso
    rw [c, show nI 0 - nI 1 = -1 from by decide, m1le (by omega)] at h
    exact h
  · rw [nI_sub' (by omega), nI_leI (by omega) (by omega)] at h
    omega
theorem ln_lp {T : Nat → Int32} {t : Nat → Nat} (hT : TP T t) {N L a : Nat} (hN : 500 < N) (hL : L ≤ 440) {R : Rc} {q g : Nx} {M : Rc} {ML : RcL} (h : RC R L (tE t L a)) (ho : FO R none) (h7 : R 7 0 = nI (tS t L a)) (hk : tK t L a = 2) (hM : MB t L a M ML) (hd : DR q g (M 12)) : LnR N t L a q M (fX4_readLoop N T (embP q) R) (fX6_readLoop N M ML) := by
  have s1 := hd.1.2.2.1
  have s6 := hd.1.2.1
  have b6 := hd.2.1.1
  have b7 := hd.2.2.1.1
  have sb := tS_b (t := t) hM.2.2.2 hL
  have tc := tK_c (t := t) hM.2.2.2
  have aE : a < tE t L a := by omega
  unfold fX4_readLoop fX6_readLoop
  rw [embP_a, s1]
  by_cases c : q 7 0 = 5
  · obtain ⟨R1, f1, f2, f3⟩ := c_fail (k := 3) (by omega) sb ho h7
    have rc1 : RC R1 L (tE t L a) := ⟨by rw [f3 2 (by omega) (by omega)]; exact h.1, by rw [f3 5 (by omega) (by omega)]; exact h.2.1, h.2.2⟩
    obtain ⟨w, R2, r0, r1, r2, r3, r4⟩ := c_lp16 hT hN hL (Q := embP q) rc1 f2
    obtain ⟨M', b1, b2⟩ := m_bad (k := 3) hM hL (fun z => by omega)
    rw [if_nlt (by omega) (by omega), f1, bnd_s, if_eq c, b1, bnd_s, gdb_0, r4 _ rfl]
    exact Or.inl ⟨_, R2, _, M', ML, rfl, r1, r2, Or.inl rfl, b2⟩
  · obtain ⟨w, R2, r0, r1, r2, r3, r4⟩ := c_lp16 hT hN hL (Q := embP q) h ho
    rw [embP_a] at r0 r2 r3 r4
    obtain ⟨M1, ML1, g1, g2, g3⟩ := m_go hN hL hM (by omega)
    have g12 := g3 12 (by omega) (by omega) (by omega) (by omega)
    have s1' : M1 12 14 = nI (q 7 0) := by rw [g12]; exact s1
    have s6' : M1 12 1 = nI (q 6 0) := by rw [g12]; exact s6
    rw [if_lt (by omega) (by omega), if_neq c (by omega) (by omega), g1, bnd_s]
    dsimp only
    rw [s1', pk_mul, nI_add, nm_s, s6']
    have o1 : ∀ i, i ≠ 4 → i ≠ 5 → i ≠ 6 → i ≠ 7 → i ≠ 12 → M1 i = M i := fun i q1 q2 q3 q4 _ => g3 i q1 q2 q3 q4
    have t1 := m_told (lo := nI 0) (hi := nI (q 6 0) - nI 1) hN hL (j := 15 + 4 * q 7 0) (by omega) g2
    cases e1 : rnO t L (nI 0) (nI (q 6 0) - nI 1) none (tE t L a) with
    | some f =>
      obtain ⟨M2, u1, u2⟩ := t1.2 f e1
      rw [e1] at r2 r4
      rw [u1, bnd_s, if_e0 rfl, r4 _ rfl]
      exact Or.inl ⟨f, R2, _, M2, ML1, rfl, r1, r2, Or.inl rfl, MF_mv u2 o1⟩
    | none =>
      obtain ⟨M2, ML2, u1, u2, u3, u4, u5, u6, u7, u8⟩ := t1.1 e1
      have w0 := r0 e1
      subst w0
      have x1 : M2 12 1 = nI (q 6 0) := by rw [u3, upd_ne (by omega)]; exact s6'
      have x2 : M2 12 (15 + 4 * q 7 0) = nI (tV t L (tE t L a)) := by rw [u3, upd_eq rfl]
      rw [u1, bnd_s, if_n0 (by omega) (by omega), gdi_nI (by omega) (by omega), nI_clamp (by omega)]
      dsimp only
      rw [x1, x2, nI_add]
      have o2 : ∀ i, i ≠ 4 → i ≠ 5 → i ≠ 6 → i ≠ 7 → i ≠ 12 → M2 i = M i := fun i q1 q2 q3 q4 q5 => (u8 i q1 q2 q3 q4 q5).trans (o1 i q1 q2 q3 q4 q5)
      have t2 := m_told (lo := nI (tV t L (tE t L a))) (hi := nI (q 6 0) - nI 1) hN hL (j := 15 + 4 * q 7 0 + 1) (by omega) u2
      rw [e1] at r2 r3 r4
      cases e2 : rnO t L (nI (tV t L (tE t L a))) (nI (q 6 0) - nI 1) none (tE t L (tE t L a)) with
      | some f =>
        obtain ⟨M3, v1, v2⟩ := t2.2 f e2
        rw [e2] at r2 r4
        rw [v1, bnd_s, if_e0 rfl, r4 _ rfl]
        exact Or.inl ⟨f, R2, _, M3, ML2, rfl, r1, r2, Or.inl rfl, MF_mv v2 o2⟩
      | none =>
        obtain ⟨M3, ML3, v1, v2, v3, v4, v5, v6, v7, v8⟩ := t2.1 e2
        have o3 : ∀ i, i ≠ 4 → i ≠ 5 → i ≠ 6 → i ≠ 7 → i ≠ 12 → M3 i = M i := fun i q1 q2 q3 q4 q5 => (v8 i q1 q2 q3 q4 q5).trans (o2 i q1 q2 q3 q4 q5)
        rw [v1, bnd_s, if_n0 (by omega) (by omega), nI_add]
        have t3 := m_told (lo := nI 1) (hi := nI 20) hN hL (j := 15 + 4 * q 7 0 + 2) (by omega) v2
        rw [e2] at r2 r3 r4
        cases e3 : rnO t L (nI 1) (nI 20) none (tE t L (tE t L (tE t L a))) with
        | some f =>
          obtain ⟨M4, y1, y2⟩ := t3.2 f e3
          rw [e3] at r2 r4
          rw [y1, bnd_s, if_e0 rfl, r4 _ rfl]
          exact Or.inl ⟨f, R2, _, M4, ML3, rfl, r1, r2, Or.inl rfl, MF_mv y2 o3⟩
        | none =>
          obtain ⟨M4, ML4, y1, y2, y3, y4, y5, y6, y7, y8⟩ := t3.1 e3
          have o4 : ∀ i, i ≠ 4 → i ≠ 5 → i ≠ 6 → i ≠ 7 → i ≠ 12 → M4 i = M i := fun i q1 q2 q3 q4 q5 => (y8 i q1 q2 q3 q4 q5).trans (o3 i q1 q2 q3 q4 q5)
          have w12 : M4 12 = upd (upd (upd (M 12) (15 + 4 * q 7 0) (nI (tV t L (tE t L a)))) (15 + 4 * q 7 0 + 1) (nI (tV t L (tE t L (tE t L a))))) (15 + 4 * q 7 0 + 2) (nI (tV t L (tE t L (tE t L (tE t L a))))) := by
            rw [y3, v3, u3, g12]
          have w14 : M4 12 14 = nI (q 7 0) := by rw [w12, upd_ne (by omega), upd_ne (by omega), upd_ne (by omega)]; exact s1
          rw [y1, bnd_s, if_n0 (by omega) (by omega)]
          dsimp only
          rw [w14, nI_add, nm_s]
          have te := m_end hN hL (MB_12 (S := upd (M4 12) 14 (nI (q 7 0 + 1))) y2)
          have o5 : ∀ i, i ≠ 4 → i ≠ 5 → i ≠ 6 → i ≠ 7 → i ≠ 12 → va_up M4 12 (upd (M4 12) 14 (nI (q 7 0 + 1))) i = M i := fun i q1 q2 q3 q4 q5 => by rw [va_up_ne _ _ q5]; exact o4 i q1 q2 q3 q4 q5
          have ran2 : tV t L (tE t L a) ≤ tV t L (tE t L (tE t L a)) := by
            rw [nI_ltI (by omega) (by omega)] at v6
            omega
          have ran3 := nI_le_m1 v5 b6 v7
          have ran4 := nI_ran y5 (by omega) (by omega) y6 y7
          rw [e3] at r2 r3 r4
          cases e4 : rsO t L none (tE t L (tE t L (tE t L (tE t L a)))) with
          | some f =>
            obtain ⟨M5, x1, x2⟩ := te.2 f e4
            rw [e4] at r2 r4
            rw [r4 _ rfl]
            exact Or.inl ⟨f, R2, _, M5, ML4, rfl, r1, r2, Or.inr ⟨_, _, rfl, x1⟩, MF_mv x2 o5⟩
          | none =>
            obtain ⟨M5, ML5, x1, x2, x3, x4⟩ := te.1 e4
            rw [e4] at r2 r3
            rw [r3 rfl, c_addLp (by omega), bnd_s]
            refine Or.inr ⟨_, g, _, R2, _, _, M5, ML5, rfl, r1, r2, by omega, rfl, x1, x2, ?_, fun i q1 q2 q3 q4 q5 => (x4 i q1 q2 q3 q4).trans (o5 i q1 q2 q3 q4 q5)⟩
            rw [x4 12 (by omega) (by omega) (by omega) (by omega), va_up_self, w12]
            exact DR_lp hd (by omega) ran2 ran3 ran4
