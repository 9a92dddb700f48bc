/-! a line's word -/
theorem bnd_eta {α β : Type} {o : Option (α × β)} : bnd o (fun z => some (z.1, z.2)) = o := by
  cases o <;> rfl
theorem LnR_eta {N : Nat} {t : Nat → Nat} {L a : Nat} {q : Nx} {M : Rc} {cl : Option (Rc × Rc)} {mo : Option (Int32 × (Rc × RcL))} (h : LnR N t L a q M cl mo) : LnR N t L a q M (bnd cl (fun z => some (z.1, z.2))) (bnd mo (fun z => gdb z.1 (some (z.1, (z.2.1, z.2.2))))) := by
  rw [bnd_eta]
  have e : bnd mo (fun z => gdb z.1 (some (z.1, (z.2.1, z.2.2)))) = mo := by
    rcases h with ⟨f, R', b, M', ML', h1, h2, h3, h4 | ⟨M1, ML1, h4, _⟩, _⟩ | ⟨q', g', b, R', M1, ML1, M', ML', h1, h2, h3, h4, h5, _⟩
    · rw [h4]; rfl
    · rw [h4]; rfl
    · rw [h5]; rfl
  rw [e]
  exact h
theorem ln_bad {N : Nat} {t : Nat → Nat} {L a : Nat} (hL : L ≤ 440) {R : Rc} {q : Nx} {M : Rc} {ML : RcL} (h : RC R L (tE t L a)) (ho : FO R none) (h7 : R 7 0 = nI (tS t L a)) (hM : MB t L a M ML) : LnR N t L a q M (bnd (fX4_fail R (nI 1)) (fun z4 => some (embP q, z4))) (bnd (fX6_bad M ML (nI 1)) (fun z5 => gdb z5.1 (some (z5.1, (z5.2, ML))))) := by
  have sb := tS_b (t := t) hM.2.2.2 hL
  obtain ⟨R1, f1, f2, f3⟩ := c_fail (k := 1) (by omega) sb ho h7
  obtain ⟨M', b1, b2⟩ := m_bad (k := 1) hM hL (fun _ => rfl)
  rw [f1, bnd_s, b1, bnd_s, gdb_0]
  exact Or.inl ⟨_, R1, tE t L a, M', ML, rfl, ⟨by rw [f3 2 (by omega) (by omega)]; exact h.1, by rw [f3 5 (by omega) (by omega)]; exact h.2.1, h.2.2⟩, f2, Or.inl rfl, b2⟩
theorem w0_ok {M : Rc} {ML : RcL} : fX6_isWorks M ML = bnd (fX6_isWord M ML (lN (wdV 0))) (fun z2 => gdb z2 (some z2)) := by
  unfold fX6_isWorks fX6_four
  rw [bnd_s]
  rfl
theorem w1_ok {M : Rc} {ML : RcL} : fX6_isStationWord M ML = bnd (fX6_isWord M ML (lN (wdV 1))) (fun z2 => gdb z2 (some z2)) := by
  unfold fX6_isStationWord fX6_four
  rw [bnd_s]
  rfl
theorem w2_ok : fX6_four (nI 108) (nI 111) (nI 111) (nI 112) = some (lN (wdV 2)) := by
  unfold fX6_four
  rfl
theorem ln_first {T : Nat → Int32} {t : Nat → Nat} (hT : TP T t) {N L a : Nat} (hN : 500 < N) (hL : L ≤ 440) {R : Rc} {q : Nx} {M : Rc} {ML : RcL} (h : RC R L (tE t L a)) (ho : FO R none) (h6 : R 6 0 = nI (cs (tK t L a))) (h7 : R 7 0 = nI (tS t L a)) (hM : MB t L a M ML) (hd : DR0 q (M 12)) : LnR N t L a q M (fX4_readLine N T (embP q) R (nI 1)) (fX6_readLine N M ML) := by
  have cw := c_isWd hT hN hL hM.2.2.2 (wi := 0) (by omega) h.2.1 h6 h7
  have mw := m_isWd (wi := 0) (by omega) hM.2.2.2 hM.1
  unfold fX4_readLine fX6_readLine
  rw [if_n0 (by omega) (by omega), hd.1 0 (by omega), if_e0 rfl, w0_ok]
  by_cases c : tK t L a = 2 ∧ isWp t (tS t L a) (tE t L a - tS t L a) 0
  · rw [cw.1 c, mw.1 c, bnd_s, bnd_s, gdb_1, bnd_s, if_n0 (by omega) (by omega), if_n0 (by omega) (by omega)]
    exact LnR_eta (ln_wk hT hN hL h ho c.1 hM hd)
  · rw [cw.2 c, mw.2 c, bnd_s, bnd_s, gdb_0, bnd_s, if_e0 rfl, if_e0 rfl]
    exact ln_bad hL h ho h7 hM
theorem ln_next {T : Nat → Int32} {t : Nat → Nat} (hT : TP T t) {N L a : Nat} (hN : 500 < N) (hL : L ≤ 440) {R : Rc} {q g : Nx} {M : Rc} {ML : RcL} (h : RC R L (tE t L a)) (ho : FO R none) (h6 : R 6 0 = nI (cs (tK t L a))) (h7 : R 7 0 = nI (tS t L a)) (hM : MB t L a M ML) (hd : DR q g (M 12)) : LnR N t L a q M (fX4_readLine N T (embP q) R (nI 0)) (fX6_readLine N M ML) := by
  have cw1 := c_isWd hT hN hL hM.2.2.2 (wi := 1) (by omega) h.2.1 h6 h7
  have mw1 := m_isWd (wi := 1) (by omega) hM.2.2.2 hM.1
  have cw2 := c_isWd hT hN hL hM.2.2.2 (wi := 2) (by omega) h.2.1 h6 h7
  have mw2 := m_isWd (wi := 2) (by omega) hM.2.2.2 hM.1
  have cw3 := c_isWd hT hN hL hM.2.2.2 (wi := 3) (by omega) h.2.1 h6 h7
  have mw3 := m_isWd (wi := 3) (by omega) hM.2.2.2 hM.1
  unfold fX4_readLine fX6_readLine
  rw [if_e0 rfl, hd.1.1, if_n0 (by omega) (by omega), w1_ok, w2_ok, show (13703 : Int64) = lN (wdV 3) from rfl]
  by_cases c1 : tK t L a = 2 ∧ isWp t (tS t L a) (tE t L a - tS t L a) 1
  · rw [cw1.1 c1, mw1.1 c1, bnd_s, bnd_s, gdb_1, bnd_s, if_n0 (by omega) (by omega), if_n0 (by omega) (by omega)]
    exact LnR_eta (ln_st hT hN hL h ho h7 c1.1 hM hd)
  · rw [cw1.2 c1, mw1.2 c1, bnd_s, bnd_s, gdb_0, bnd_s, if_e0 rfl, if_e0 rfl, bnd_s]
    by_cases c2 : tK t L a = 2 ∧ isWp t (tS t L a) (tE t L a - tS t L a) 2
    · rw [cw2.1 c2, mw2.1 c2, bnd_s, bnd_s, if_n0 (by omega) (by omega), if_n0 (by omega) (by omega)]
      exact LnR_eta (ln_lp hT hN hL h ho h7 c2.1 hM hd)
    · rw [cw2.2 c2, mw2.2 c2, bnd_s, bnd_s, if_e0 rfl, if_e0 rfl]
      by_cases c3 : tK t L a = 2 ∧ isWp t (tS t L a) (tE t L a - tS t L a) 3
      · rw [cw3.1 c3, mw3.1 c3, bnd_s, bnd_s, if_n0 (by omega) (by omega), if_n0 (by omega) (by omega)]
        exact LnR_eta (ln_rn hT hN hL h ho h7 c3.1 hM hd)
      · rw [cw3.2 c3, mw3.2 c3, bnd_s, bnd_s, if_e0 rfl, if_e0 rfl]
        exact ln_bad hL h ho h7 hM
/-! the whole text -/
def DN (n : Nat) (q g : Nx) (S : Nat → Int32) : Prop := (n = 0 ∧ DR0 q S) ∨ (1 ≤ n ∧ DR q g S)
theorem DN_5 {n : Nat} {q g : Nx} {S : Nat → Int32} (h : DN n q g S) : ∀ i, q 5 i < 2 ^ 31 := by
  rcases h with h | h
  · exact h.2.2.2.2.2.2
  · exact h.2.2.2.2.2.2
def TxR (M : Rc) (N : Nat) (cl : Option (Int32 × (Rc × Rc))) (mo : Option (Int32 × (Rc × RcL))) : Prop :=
  (∃ f q' R' M' ML', cl = some ((-1 : Int32) - nI f.2, (embP q', R')) ∧ FO R' (some f) ∧ (∀ i, q' 5 i < 2 ^ 31) ∧ mo = some ((-1 : Int32) - nI f.2, (M', ML')) ∧ MF M M' f) ∨
  (∃ n q' g' R' M' ML', cl = some (nI n, (embP q', R')) ∧ R' 3 0 = nI 0 ∧ n ≤ 440 ∧ mo = fX6_text_116 N M' ML' (nI n) ∧ DN n q' g' (M' 12) ∧ (1 ≤ n → 1 ≤ q' 6 0) ∧ ∀ i, i ≠ 4 → i ≠ 5 → i ≠ 6 → i ≠ 7 → i ≠ 12 → M' i = M i)
theorem TxR_mv {M0 M : Rc} {N : Nat} {cl : Option (Int32 × (Rc × Rc))} {mo : Option (Int32 × (Rc × RcL))} (h : TxR M N cl mo) (ho : ∀ i, i ≠ 4 → i ≠ 5 → i ≠ 6 → i ≠ 7 → i ≠ 12 → M i = M0 i) : TxR M0 N cl mo := by
  rcases h with ⟨f, q', R', M', ML', h1, h2, h3, h4, h5⟩ | ⟨n, q', g', R', M', ML', h1, h2, h3, h4, h5, h6, h7⟩
  · exact Or.inl ⟨f, q', R', M', ML', h1, h2, h3, h4, MF_mv h5 ho⟩
  · exact Or.inr ⟨n, q', g', R', M', ML', h1, h2, h3, h4, h5, h6, fun i q1 q2 q3 q4 q5 => (h7 i q1 q2 q3 q4 q5).trans (ho i q1 q2 q3 q4 q5)⟩
theorem rd_loop {T : Nat → Int32} {t : Nat → Nat} (hT : TP T t) {N L : Nat} (hN : 500 < N) (hL : L ≤ 440) : ∀ {d u w a n : Nat} {R : Rc} {q g : Nx} {M : Rc} {ML : RcL}, L < a + d → d < u → d < w → 2 * n ≤ a → RC R L (tE t L a) → FO R none → R 6 0 = nI (cs (tK t L a)) → R 7 0 = nI (tS t L a) → MB t L a M ML → DN n q g (M 12) → TxR M N (itn (fX4_read_36b N) (fun _ _ _ _ => none) u T (embP q) R (nI n)) (itn (fX6_text_56b N) (fun _ _ _ => none) w M ML (nI n))
  | 0, _, _, a, n, R, q, g, M, ML, h1, _, _, _, h, _, _, _, hM, _ => by have := hM.2.2.2; omega
  | d + 1, 0, _, _, _, _, _, _, _, _, _, h, _, _, _, _, _, _, _, _ => by omega
  | d + 1, u + 1, 0, _, _, _, _, _, _, _, _, _, h, _, _, _, _, _, _, _ => by omega
  | d + 1, u + 1, w + 1, a, n, R, q, g, M, ML, h1, hu, hw, hn, h, ho, h6, h7, hM, hd => by
    have tc := tK_c (t := t) hM.2.2.2
    have eb := tE_b (t := t) hM.2.2.2
    have ab := hM.2.2.2
    have sb := tS_b (t := t) hM.2.2.2 hL
    have r3 : R 3 0 = nI 0 := ho
    have tk4 : tK t L a ≤ 4 := by omega
    by_cases c : tK t L a = 0
    · -- the end
      have ec : fX4_read_36b N (itn (fX4_read_36b N) (fun _ _ _ _ => none) u) T (embP q) R (nI n) = fX4_read_81 N T (embP q) R (nI n) := by
        unfold fX4_read_36b
        rw [r3, if_e0 rfl, h6, if_eq (by rw [c]; rfl)]
      have em : fX6_text_56b N (itn (fX6_text_56b N) (fun _ _ _ => none) w) M ML (nI n) = if nI n ≤ 0 then fX6_text_116 N M ML (nI n) else if M 12 1 = 0 then bnd (fX6_bad M ML (nI 1)) (fun z1 => some ((-1 : Int32) - z1.2 9 0, (z1.2, ML))) else fX6_text_116 N M ML (nI n) := by
        unfold fX6_text_56b
        rw [hM.1.2.1, if_e0 c]
      rw [itn_s, itn_s, ec, em]
      unfold fX4_read_81 fX4_read_107
      rw [r3, if_e0 rfl]
      rcases hd with ⟨z, hd⟩ | ⟨z, hd⟩
      · rw [if_le0 z, if_le0 z, if_e0 rfl]
        exact Or.inr ⟨n, q, g, R, M, ML, rfl, r3, by omega, rfl, Or.inl ⟨z, hd⟩, fun y => by omega, fun _ _ _ _ _ _ => rfl⟩
      · rw [if_nle0 (by omega) (by omega), if_nle0 (by omega) (by omega), embP_a, hd.1.2.1]
        have b6 := hd.2.1.1
        by_cases e : q 6 0 = 0
        · obtain ⟨R1, f1, f2, f3⟩ := c_fail (k := 1) (by omega) sb ho h7
          obtain ⟨M', b1, b2⟩ := m_bad (k := 1) hM hL (fun _ => rfl)
          have f2' : R1 3 0 = nI 1 ∧ R1 4 0 = nI (tS t L a) ∧ 1 ≤ 1 ∧ 1 ≤ 3 ∧ tS t L a ≤ 440 := f2
          rw [if_e0 e, if_e0 e, f1, bnd_s, b1, bnd_s]
          dsimp only
          rw [f2'.1, if_n0 (by omega) (by omega), f2'.2.1, b2.2.1]
          exact Or.inl ⟨(1, tS t L a), q, R1, M', ML, rfl, f2, hd.2.2.2.2.2, rfl, b2⟩
        · rw [if_n0 e (by omega), if_n0 e (by omega), if_e0 rfl]
          exact Or.inr ⟨n, q, g, R, M, ML, rfl, r3, by omega, rfl, Or.inr ⟨z, hd⟩, fun _ => by omega, fun _ _ _ _ _ _ => rfl⟩
    · have ln : ∃ x1 : Int32, LnR N t L a q M (fX4_readLine N T (embP q) R x1) (fX6_readLine N M ML) ∧ fX4_read_36b N (itn (fX4_read_36b N) (fun _ _ _ _ => none) u) T (embP q) R (nI n) = fX4_read_68 N (itn (fX4_read_36b N) (fun _ _ _ _ => none) u) T (embP q) R (nI n) x1 := by
        rcases hd with ⟨z, hd⟩ | ⟨z, hd⟩
        · refine ⟨nI 1, ln_first hT hN hL h ho h6 h7 hM hd, ?_⟩
          unfold fX4_read_36b
          rw [r3, if_e0 rfl, h6, if_neq (by unfold cs; split <;> (try split) <;> omega) (by unfold cs; split <;> (try split) <;> omega) (by omega), if_nle (by omega) (by omega), if_e0 z]
        · refine ⟨nI 0, ln_next hT hN hL h ho h6 h7 hM hd, ?_⟩
          unfold fX4_read_36b
          rw [r3, if_e0 rfl, h6, if_neq (by unfold cs; split <;> (try split) <;> omega) (by unfold cs; split <;> (try split) <;> omega) (by omega), if_nle (by omega) (by omega), if_n0 (by omega) (by omega)]
      obtain ⟨x1, ln, ec⟩ := ln
      have em : fX6_text_56b N (itn (fX6_text_56b N) (fun _ _ _ => none) w) M ML (nI n) = bnd (fX6_readLine N M ML) (fun z2 => if z2.1 = 0 then fX6_text_77 N z2.2.1 z2.2.2 else bnd (fX6_readEnd N z2.2.1 z2.2.2) (fun z3 => if z3.1 = 0 then fX6_text_77 N z3.2.1 z3.2.2 else nm (nI n + (nI 1)) (fun v4 => (itn (fX6_text_56b N) (fun _ _ _ => none) w) z3.2.1 z3.2.2 v4))) := by
        unfold fX6_text_56b
        rw [hM.1.2.1, if_n0 c (by omega)]
      rw [itn_s, itn_s, ec, em]
      unfold fX4_read_68
      rcases ln with ⟨f, R1, b, M', ML', l1, l2, l3, l4, l5⟩ | ⟨q', g', b, R1, M1, ML1, M', ML', l1, l2, l3, l4, l5, l6, l7, l8, l9⟩
      · -- a fault
        obtain ⟨R2, k1, k2, k3, k4, k5⟩ := tokC hT hN hL l2.2.2 l2.2.1 l2.1
        have fo2 : FO R2 (some f) := FO_mv l3 (k5 3 (by omega) (by omega) (by omega)) (k5 4 (by omega) (by omega) (by omega))
        have fo2' : R2 3 0 = nI f.1 ∧ R2 4 0 = nI f.2 ∧ 1 ≤ f.1 ∧ f.1 ≤ 3 ∧ f.2 ≤ 440 := fo2
        obtain ⟨u', rfl⟩ : ∃ u', u = u' + 1 := ⟨u - 1, by omega⟩
        rw [l1, bnd_s, nm_s]
        dsimp only
        rw [k1, bnd_s, itn_s]
        unfold fX4_read_36b fX4_read_81 fX4_read_107
        rw [fo2'.1, if_n0 (by omega) (by omega), if_n0 (by omega) (by omega), if_n0 (by omega) (by omega), fo2'.2.1]
        refine Or.inl ⟨f, q, R2, M', ML', rfl, fo2, DN_5 hd, ?_, l5⟩
        unfold fX6_text_77
        rcases l4 with l4 | ⟨M1, ML1, l4, l4'⟩
        · rw [l4, bnd_s]
          dsimp only
          rw [if_e0 rfl, l5.2.1]
        · rw [l4, bnd_s]
          dsimp only
          rw [if_n0 (by omega) (by omega), l4', bnd_s]
          dsimp only
          rw [if_e0 rfl, l5.2.1]
      · obtain ⟨R2, k1, k2, k3, k4, k5⟩ := tokC hT hN hL l2.2.2 l2.2.1 l2.1
        have bb := tE_b (t := t) l2.2.2
        have r := rd_loop hT hN hL (d := d) (u := u) (w := w) (a := b) (n := n + 1) (R := R2) (q := q') (g := g') (M := M') (ML := ML') (by omega) (by omega) (by omega) (by omega) ⟨by rw [k5 2 (by omega) (by omega) (by omega)]; exact l2.1, k2, bb.2.1⟩ (FO_mv l3 (k5 3 (by omega) (by omega) (by omega)) (k5 4 (by omega) (by omega) (by omega))) k3 k4 l7 (Or.inr ⟨by omega, l8⟩)
        rw [l1, bnd_s, nm_s]
        dsimp only
        rw [k1, bnd_s, nI_add, l5, bnd_s]
        dsimp only
        rw [if_n0 (by omega) (by omega), l6, bnd_s]
        dsimp only
        rw [if_n0 (by omega) (by omega), nm_s]
        exact TxR_mv r l9
theorem m_zero {ML : RcL} {N : Nat} {v : Int32} : ∀ {d i u : Nat} {M : Rc}, d < u → i + d = 353 → ∃ M', itn (fX6_text_32b N) (fun _ _ _ _ => none) u M ML v (nI i) = bnd (fX6_go N M' ML) (fun z1 => fX6_text_56 N z1.1 z1.2 v) ∧ (∀ j, i ≤ j → j < 353 → M' 12 j = nI 0) ∧ (∀ j, j < i → M' 12 j = M 12 j) ∧ ∀ a, a ≠ 12 → M' a = M a
  | _, _, 0, _, h, _ => by omega
  | 0, i, u + 1, M, _, e => by
    refine ⟨M, ?_, fun j h1 h2 => by omega, fun _ _ => rfl, fun _ _ => rfl⟩
    rw [itn_s]
    unfold fX6_text_32b
    rw [if_le (by omega) (by omega)]
  | d + 1, i, u + 1, M, hu, e => by
    obtain ⟨M', r1, r2, r3, r4⟩ := m_zero (ML := ML) (N := N) (v := v) (d := d) (i := i + 1) (u := u) (M := va_up M 12 (upd (M 12) i (nI 0))) (by omega) (by omega)
    refine ⟨M', ?_, fun j q1 q2 => ?_, fun j q1 => ?_, fun a ha => by rw [r4 a ha, va_up_ne _ _ ha]⟩
    · rw [itn_s, ← r1]
      unfold fX6_text_32b
      rw [if_nle (by omega) (by omega), gdi_nI (by omega) (by omega), nI_clamp (by omega), nm_s, nI_add, nm_s]
    · by_cases c : j = i
      · rw [r3 j (by omega), va_up_self, upd_eq c]
      · exact r2 j (by omega) q2
    · rw [r3 j (by omega), va_up_self, upd_ne (by omega)]
