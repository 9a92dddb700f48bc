/-! numbers and signs read by both; o: the first fault (kind, place), if there was one -/
def RC (R : Rc) (L a : Nat) : Prop := R 2 0 = nI L ∧ R 5 0 = nI a ∧ a ≤ L
def FO (R : Rc) : Option (Nat × Nat) → Prop
  | none => R 3 0 = nI 0
  | some f => R 3 0 = nI f.1 ∧ R 4 0 = nI f.2 ∧ 1 ≤ f.1 ∧ f.1 ≤ 3 ∧ f.2 ≤ 440
def tV (t : Nat → Nat) (L a : Nat) : Nat := nv t (tS t L a) (tE t L a - tS t L a)
def rnO (t : Nat → Nat) (L : Nat) (lo hi : Int32) (o : Option (Nat × Nat)) (a : Nat) : Option (Nat × Nat) := match o with
  | some f => some f
  | none => if tK t L a = 3 then (if nI (tV t L a) < lo then some (2, tS t L a) else if nI (tV t L a) ≤ hi then none else some (2, tS t L a)) else some (1, tS t L a)
def rsO (t : Nat → Nat) (L : Nat) (o : Option (Nat × Nat)) (a : Nat) : Option (Nat × Nat) := match o with
  | some f => some f
  | none => if tK t L a = 4 then none else some (1, tS t L a)
theorem c_fail {R : Rc} {o : Option (Nat × Nat)} {k s : Nat} (hk : 1 ≤ k ∧ k ≤ 3) (hs : s ≤ 440) (h : FO R o) (h7 : R 7 0 = nI s) : ∃ R', fX4_fail R (nI k) = some R' ∧ FO R' (some (o.getD (k, s))) ∧ ∀ i, i ≠ 3 → i ≠ 4 → R' i = R i := by
  unfold fX4_fail
  cases o with
  | none =>
    have h : R 3 0 = nI 0 := h
    rw [h, if_e0 rfl, nm_s, nm_s]
    refine ⟨_, rfl, ⟨?_, ?_, hk.1, hk.2, hs⟩, fun i q1 q2 => ?_⟩
    · rw [va_up_ne _ _ (by omega), va_up_self]; rfl
    · rw [va_up_self, va_up_ne _ _ (by omega)]; exact h7
    · rw [va_up_ne _ _ q2, va_up_ne _ _ q1]
  | some f =>
    have h : R 3 0 = nI f.1 ∧ R 4 0 = nI f.2 ∧ 1 ≤ f.1 ∧ f.1 ≤ 3 ∧ f.2 ≤ 440 := h
    rw [h.1, if_n0 (by omega) (by omega)]
    exact ⟨R, rfl, h, fun _ _ _ => rfl⟩
theorem FO_mv {R R' : Rc} {o : Option (Nat × Nat)} (h : FO R o) (h3 : R' 3 = R 3) (h4 : R' 4 = R 4) : FO R' o := by
  cases o with
  | none => show R' 3 0 = nI 0; rw [h3]; exact h
  | some f => show R' 3 0 = nI f.1 ∧ R' 4 0 = nI f.2 ∧ 1 ≤ f.1 ∧ f.1 ≤ 3 ∧ f.2 ≤ 440; rw [h3, h4]; exact h
theorem rnO_some {t : Nat → Nat} {L a : Nat} {lo hi : Int32} {f : Nat × Nat} : rnO t L lo hi (some f) a = some f := rfl
theorem rsO_some {t : Nat → Nat} {L a : Nat} {f : Nat × Nat} : rsO t L (some f) a = some f := rfl
theorem tV_b {t : Nat → Nat} {L a : Nat} (ha : a ≤ L) (h : tK t L a = 3) : tV t L a ≤ 99 ∧ nmb t (tS t L a) (tE t L a - tS t L a) = nI (tV t L a) ∧ a < tE t L a := by
  have tc := tK_c (t := t) ha
  rcases tc with z | z | z | z | z
  · omega
  · omega
  · omega
  · omega
  · have := nmb_nv z.2.2.1 z.2.2.2
    exact ⟨this.2, this.1, z.2.1⟩
theorem c_rn {T : Nat → Int32} {t : Nat → Nat} (hT : TP T t) {N L a : Nat} (hN : 500 < N) (hL : L ≤ 440) {R : Rc} {lo hi : Int32} {o : Option (Nat × Nat)} (h : RC R L a) (ho : FO R o) : ∃ w R', fX4_readNumber N T R lo hi = some (w, R') ∧ RC R' L (tE t L a) ∧ FO R' (rnO t L lo hi o a) ∧ (rnO t L lo hi o a = none → w = nI (tV t L a)) := by
  obtain ⟨R1, r1, r5, r6, r7, ro⟩ := tokC hT hN hL h.2.2 h.2.1 h.1
  have eb := tE_b (t := t) h.2.2
  have sb := tS_b (t := t) h.2.2 hL
  have tc := tK_c (t := t) h.2.2
  have rc1 : RC R1 L (tE t L a) := ⟨by rw [ro 2 (by omega) (by omega) (by omega)]; exact h.1, r5, eb.2.1⟩
  have fo1 : FO R1 o := FO_mv ho (ro 3 (by omega) (by omega) (by omega)) (ro 4 (by omega) (by omega) (by omega))
  have rcm : ∀ R2 : Rc, (∀ i, i ≠ 3 → i ≠ 4 → R2 i = R1 i) → RC R2 L (tE t L a) := fun R2 q => ⟨by rw [q 2 (by omega) (by omega)]; exact rc1.1, by rw [q 5 (by omega) (by omega)]; exact rc1.2.1, rc1.2.2⟩
  unfold fX4_readNumber
  rw [r1, bnd_s, r6]
  by_cases c : tK t L a = 3
  · rw [if_eq (by rw [c]; rfl), nm_s, r7, nm_s]
    have dg : (tE t L a - tS t L a = 1 ∨ tE t L a - tS t L a = 2) ∧ ∀ i, i < tE t L a - tS t L a → 48 ≤ t (tS t L a + i) ∧ t (tS t L a + i) ≤ 57 := by
      rcases tc with z | z | z | z | z
      · omega
      · omega
      · omega
      · omega
      · exact z.2.2
    have nm := c_num hT (N := N) (s := tS t L a) (n := tE t L a - tS t L a) hN (R := R1) (lo := lo) (hi := hi) (by rw [r5]; congr 1; omega) (by omega) dg.1 dg.2
    rw [show nv t (tS t L a) (tE t L a - tS t L a) = tV t L a from rfl] at nm
    obtain ⟨R2, f1, f2, f3⟩ := c_fail (k := 2) (by omega) sb fo1 r7
    have e68 : fX4_readNumber_68 N T R1 (nI (tV t L a)) = some (nI (tV t L a), R2) := by
      unfold fX4_readNumber_68 fX4_readNumber_73
      rw [f1, bnd_s]
    rw [nm]
    by_cases d : nI (tV t L a) < lo
    · rw [if_pos d, e68]
      refine ⟨_, R2, rfl, rcm R2 f3, ?_, ?_⟩
      · cases o with
        | none => unfold rnO; simp only; rw [if_pos c, if_pos d]; exact f2
        | some f => exact f2
      · cases o with
        | none => unfold rnO; simp only; rw [if_pos c, if_pos d]; intro z; cases z
        | some f => intro z; cases z
    · rw [if_neg d]
      by_cases e : nI (tV t L a) ≤ hi
      · rw [if_pos e]
        refine ⟨_, R1, rfl, rc1, ?_, fun _ => rfl⟩
        cases o with
        | none => unfold rnO; simp only; rw [if_pos c, if_neg d, if_pos e]; exact fo1
        | some f => exact fo1
      · rw [if_neg e, e68]
        refine ⟨_, R2, rfl, rcm R2 f3, ?_, ?_⟩
        · cases o with
          | none => unfold rnO; simp only; rw [if_pos c, if_neg d, if_neg e]; exact f2
          | some f => exact f2
        · cases o with
          | none => unfold rnO; simp only; rw [if_pos c, if_neg d, if_neg e]; intro z; cases z
          | some f => intro z; cases z
  · obtain ⟨R2, f1, f2, f3⟩ := c_fail (k := 1) (by omega) sb fo1 r7
    rw [if_neq (by unfold cs; split <;> (try split) <;> omega) (by unfold cs; split <;> (try split) <;> omega) (by omega), f1, bnd_s]
    refine ⟨_, R2, rfl, rcm R2 f3, ?_, ?_⟩
    · cases o with
      | none => unfold rnO; simp only; rw [if_neg c]; exact f2
      | some f => exact f2
    · cases o with
      | none => unfold rnO; simp only; rw [if_neg c]; intro z; cases z
      | some f => intro z; cases z
theorem c_rs {T : Nat → Int32} {t : Nat → Nat} (hT : TP T t) {N L a : Nat} (hN : 500 < N) (hL : L ≤ 440) {R : Rc} {o : Option (Nat × Nat)} (h : RC R L a) (ho : FO R o) : ∃ R', fX4_readSign N T R = some R' ∧ RC R' L (tE t L a) ∧ FO R' (rsO t L o a) := by
  obtain ⟨R1, r1, r5, r6, r7, ro⟩ := tokC hT hN hL h.2.2 h.2.1 h.1
  have eb := tE_b (t := t) h.2.2
  have sb := tS_b (t := t) h.2.2 hL
  have tc := tK_c (t := t) h.2.2
  have rc1 : RC R1 L (tE t L a) := ⟨by rw [ro 2 (by omega) (by omega) (by omega)]; exact h.1, r5, eb.2.1⟩
  have fo1 : FO R1 o := FO_mv ho (ro 3 (by omega) (by omega) (by omega)) (ro 4 (by omega) (by omega) (by omega))
  unfold fX4_readSign
  rw [r1, bnd_s, r6]
  by_cases c : tK t L a = 4
  · rw [if_eq (by rw [c]; rfl)]
    refine ⟨R1, rfl, rc1, ?_⟩
    cases o with
    | none => unfold rsO; simp only; rw [if_pos c]; exact fo1
    | some f => exact fo1
  · obtain ⟨R2, f1, f2, f3⟩ := c_fail (k := 1) (by omega) sb fo1 r7
    rw [if_neq (by unfold cs; split <;> (try split) <;> omega) (by unfold cs; split <;> (try split) <;> omega) (by omega), f1, bnd_s]
    refine ⟨R2, rfl, ⟨by rw [f3 2 (by omega) (by omega)]; exact rc1.1, by rw [f3 5 (by omega) (by omega)]; exact rc1.2.1, rc1.2.2⟩, ?_⟩
    cases o with
    | none => unfold rsO; simp only; rw [if_neg c]; exact f2
    | some f => exact f2
/-! the model's -/
def MB (t : Nat → Nat) (L a : Nat) (M : Rc) (ML : RcL) : Prop := MT t L a M ML ∧ TP (M 1) t ∧ M 3 0 = nI L ∧ a ≤ L
def MF (M M' : Rc) (f : Nat × Nat) : Prop := M' 8 0 = nI f.1 ∧ M' 9 0 = nI f.2 ∧ ∀ i, i ≠ 4 → i ≠ 5 → i ≠ 6 → i ≠ 7 → i ≠ 8 → i ≠ 9 → i ≠ 12 → M' i = M i
theorem m_bad {t : Nat → Nat} {L a k : Nat} {M : Rc} {ML : RcL} (h : MB t L a M ML) (hL : L ≤ 440) (hk : tK t L a = 1 → k = 1) : ∃ M', fX6_bad M ML (nI k) = some (nI 0, M') ∧ MF M M' (k, tS t L a) := by
  have tc := tK_c (t := t) h.2.2.2
  have tk4 : tK t L a ≤ 4 := by omega
  have e : fX6_bad M ML (nI k) = fX6_bad_14 M ML (nI k) := by
    unfold fX6_bad
    rw [h.1.2.1]
    by_cases c : tK t L a = 1
    · rw [if_eq c, hk c]
    · rw [if_neq c (by omega) (by omega)]
  rw [e]
  unfold fX6_bad_14
  rw [nm_s, nm_s]
  refine ⟨_, rfl, ?_, ?_, fun i q1 q2 q3 q4 q5 q6 q7 => ?_⟩
  · rw [va_up_ne _ _ (by omega), va_up_self]
  · rw [va_up_self, va_up_ne _ _ (by omega)]; exact h.1.1
  · rw [va_up_ne _ _ q6, va_up_ne _ _ q5]
theorem m_go {t : Nat → Nat} {L a N : Nat} {M : Rc} {ML : RcL} (hN : 500 < N) (hL : L ≤ 440) (h : MB t L a M ML) (hk : tK t L a ≠ 1) : ∃ M' ML', fX6_go N M ML = some (M', ML') ∧ MB t L (tE t L a) M' ML' ∧ ∀ i, i ≠ 4 → i ≠ 5 → i ≠ 6 → i ≠ 7 → M' i = M i := by
  have eb := tE_b (t := t) h.2.2.2
  obtain ⟨M', ML', a1, a2, a3⟩ := tokM hN hL eb.2.1 (M := M) (ML := ML) h.2.1 (h.1.2.2.1 hk) h.2.2.1
  refine ⟨M', ML', a1, ⟨a2, ?_, ?_, eb.2.1⟩, a3⟩
  · rw [a3 1 (by omega) (by omega) (by omega) (by omega)]; exact h.2.1
  · rw [a3 3 (by omega) (by omega) (by omega) (by omega)]; exact h.2.2.1
theorem isIn_T {v lo hi : Int32} (h1 : ¬ v < lo) (h2 : v ≤ hi) : fX6_isIn v lo hi = some (nI 1) := by
  unfold fX6_isIn
  rw [if_neg h1, if_neg (fun z => Int32.not_lt.mpr h2 z)]
theorem isIn_F {v lo hi : Int32} (h : v < lo ∨ ¬ v ≤ hi) : fX6_isIn v lo hi = some (nI 0) := by
  unfold fX6_isIn fX6_isIn_14
  by_cases c : v < lo
  · rw [if_pos c]
  · rw [if_neg c, if_pos (Int32.not_le.mp (h.resolve_left c))]
theorem m_told {t : Nat → Nat} {L a N j : Nat} {M : Rc} {ML : RcL} {lo hi : Int32} (hN : 500 < N) (hL : L ≤ 440) (hj : j < 353) (h : MB t L a M ML) : (rnO t L lo hi none a = none → ∃ M' ML', fX6_told N M ML (nI j) lo hi = some (nI 1, (M', ML')) ∧ MB t L (tE t L a) M' ML' ∧ M' 12 = upd (M 12) j (nI (tV t L a)) ∧ a < tE t L a ∧ tV t L a ≤ 99 ∧ ¬ nI (tV t L a) < lo ∧ nI (tV t L a) ≤ hi ∧ ∀ i, i ≠ 4 → i ≠ 5 → i ≠ 6 → i ≠ 7 → i ≠ 12 → M' i = M i) ∧ ∀ f, rnO t L lo hi none a = some f → ∃ M', fX6_told N M ML (nI j) lo hi = some (nI 0, (M', ML)) ∧ MF M M' f := by
  have tc := tK_c (t := t) h.2.2.2
  have tk4 : tK t L a ≤ 4 := by omega
  unfold fX6_told
  rw [h.1.2.1]
  by_cases c : tK t L a = 3
  · have vb := tV_b h.2.2.2 c
    have h7 := h.1.2.2.2.1 c
    rw [vb.2.1] at h7
    have bad2 : ∀ f, some (2, tS t L a) = some f → (if (nI 0 : Int32) = 0 then bnd (fX6_bad M ML (nI 2)) (fun z4 => gdb z4.1 (some (z4.1, (z4.2, ML)))) else gdi (nI j) 353 (nm (va_up M 12 (upd (M 12) ((nI j).toNatClampNeg) (M 7 0))) (fun M2 => bnd (fX6_go N M2 ML) (fun z3 => some ((nI 1), (z3.1, z3.2)))))) = some (nI 0, ((fX6_bad M ML (nI 2)).getD (0, M)).2, ML) ∧ MF M ((fX6_bad M ML (nI 2)).getD (0, M)).2 f := by
      intro f hf
      cases hf
      obtain ⟨M', b1, b2⟩ := m_bad (k := 2) h hL (fun z => by omega)
      rw [if_e0 rfl, b1, bnd_s, gdb_0]
      exact ⟨rfl, b2⟩
    rw [if_eq c, h7]
    unfold rnO
    simp only
    rw [if_pos c]
    by_cases d : nI (tV t L a) < lo
    · rw [if_pos d, isIn_F (Or.inl d), bnd_s]
      refine ⟨fun z => (by cases z), fun f hf => ⟨_, ?_, (bad2 f hf).2⟩⟩
      rw [← h7]
      exact (bad2 f hf).1
    · rw [if_neg d]
      by_cases e : nI (tV t L a) ≤ hi
      · rw [if_pos e, isIn_T d e, bnd_s, if_n0 (by omega) (by omega), gdi_nI hj (by omega), nI_clamp (by omega), nm_s]
        refine ⟨fun _ => ?_, fun f hf => by cases hf⟩
        have h' : MB t L a (va_up M 12 (upd (M 12) j (nI (tV t L a)))) ML := by
          refine ⟨⟨?_, ?_, ?_, ?_, h.1.2.2.2.2⟩, ?_, ?_, h.2.2.2⟩
          · rw [va_up_ne _ _ (by omega)]; exact h.1.1
          · rw [va_up_ne _ _ (by omega)]; exact h.1.2.1
          · rw [va_up_ne _ _ (by omega)]; exact h.1.2.2.1
          · rw [va_up_ne _ _ (by omega)]; exact h.1.2.2.2.1
          · rw [va_up_ne _ _ (by omega)]; exact h.2.1
          · rw [va_up_ne _ _ (by omega)]; exact h.2.2.1
        obtain ⟨M', ML', g1, g2, g3⟩ := m_go hN hL h' (by omega)
        rw [g1, bnd_s]
        refine ⟨M', ML', rfl, g2, ?_, vb.2.2, vb.1, d, e, fun i q1 q2 q3 q4 q5 => ?_⟩
        · rw [g3 12 (by omega) (by omega) (by omega) (by omega), va_up_self]
        · rw [g3 i q1 q2 q3 q4, va_up_ne _ _ q5]
      · rw [if_neg e, isIn_F (Or.inr e), bnd_s]
        refine ⟨fun z => (by cases z), fun f hf => ⟨_, ?_, (bad2 f hf).2⟩⟩
        rw [← h7]
        exact (bad2 f hf).1
  · obtain ⟨M', b1, b2⟩ := m_bad (k := 1) h hL (fun z => rfl)
    rw [if_neq c (by omega) (by omega), b1, bnd_s, gdb_0]
    unfold rnO
    simp only
    rw [if_neg c]
    refine ⟨fun z => (by cases z), fun f hf => ?_⟩
    cases hf
    exact ⟨M', rfl, b2⟩
theorem m_end {t : Nat → Nat} {L a N : Nat} {M : Rc} {ML : RcL} (hN : 500 < N) (hL : L ≤ 440) (h : MB t L a M ML) : (rsO t L none a = none → ∃ M' ML', fX6_readEnd N M ML = some (nI 1, (M', ML')) ∧ MB t L (tE t L a) M' ML' ∧ a < tE t L a ∧ ∀ i, i ≠ 4 → i ≠ 5 → i ≠ 6 → i ≠ 7 → M' i = M i) ∧ ∀ f, rsO t L none a = some f → ∃ M', fX6_readEnd N M ML = some (nI 0, (M', ML)) ∧ MF M M' f := by
  have tc := tK_c (t := t) h.2.2.2
  have tk4 : tK t L a ≤ 4 := by omega
  unfold fX6_readEnd rsO
  simp only
  rw [h.1.2.1]
  by_cases c : tK t L a = 4
  · obtain ⟨M', ML', g1, g2, g3⟩ := m_go hN hL h (by omega)
    rw [if_eq c, if_pos c, g1, bnd_s]
    exact ⟨fun _ => ⟨M', ML', rfl, g2, by omega, g3⟩, fun f hf => by cases hf⟩
  · obtain ⟨M', b1, b2⟩ := m_bad (k := 1) h hL (fun z => rfl)
    rw [if_neq c (by omega) (by omega), if_neg c, b1, bnd_s, gdb_0]
    refine ⟨fun z => (by cases z), fun f hf => ?_⟩
    cases hf
    exact ⟨M', rfl, b2⟩
