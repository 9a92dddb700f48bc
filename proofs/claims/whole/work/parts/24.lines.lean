/-! lines -/
theorem embP_up {q : Nx} {f j v : Nat} : va_up (embP q) f (upd (embP q f) j (nI v)) = embP (up2 q f j v) := by
  funext a i
  by_cases ha : a = f
  · subst ha
    rw [va_up_self]
    by_cases hi : i = j
    · subst hi
      rw [pk_us, embP_a, up2_at]
    · rw [pk_un hi, embP_a, embP_a, up2_o hi]
  · rw [va_up_ne _ _ ha, embP_a, embP_a, up2_ne ha]
theorem embP_up1 {q : Nx} {f v : Nat} : va_up (embP q) f (fun _ => nI v) = embP (up1 q f v) := by
  funext a i
  by_cases ha : a = f
  · subst ha
    rw [va_up_self, embP_a, up1_at]
  · rw [va_up_ne _ _ ha, embP_a, embP_a, up1_ne ha]
def addSt (q : Nx) (v w : Nat) : Nx := up1 (up2 (up2 (up2 q 0 (q 6 0) v) 1 (q 6 0) w) 3 0 (q 6 0)) 6 (q 6 0 + 1)
def addLp (q : Nx) (u v w : Nat) : Nx := up1 (up2 (up2 (up2 q 2 (q 7 0) u) 3 (q 7 0) v) 4 (q 7 0) w) 7 (q 7 0 + 1)
theorem c_addSt {q : Nx} {v w : Nat} (h : q 6 0 < 6) : fX3_addStation (embP q) (nI v) (nI w) = some (embP (addSt q v w)) := by
  unfold fX3_addStation addSt
  simp (disch := omega) only [↓nm_s, ↓bnd_s, ↓reduceIte, nI_add, pk_mul, nI_subdiv, nI_sub', nI_m1, nI_0m1, nI_clamp, gdi_nI, gdz_nI, nI_div, nrem, nI_ltI, nI_leI, nI_eq, leT, leF, ltT, ltF, eqT, eqF, neT, neF, z0, m1lt0, m1lt, m1le, nI_ne_neg, neg_ne_nI, embP_a, embL_a, embL_up, embL_up1, up2_ne, up2_at, up2_o, up1_ne, up1_at, bI_eq0, bI_eq1, or_true, true_or, and_true, true_and, or_false, false_or, and_false, false_and, not_true_eq_false, not_false_eq_true, if_true, if_false,  decide_true, decide_false, bI_t, bI_f, Nat.add_sub_cancel, Nat.zero_add, Nat.add_zero, Nat.mul_zero, upd_eq, upd_ne, embP_up, embP_up1]
theorem c_addLp {q : Nx} {u v w : Nat} (h : q 7 0 < 5) : fX3_addLoop (embP q) (nI u) (nI v) (nI w) = some (embP (addLp q u v w)) := by
  unfold fX3_addLoop addLp
  simp (disch := omega) only [↓nm_s, ↓bnd_s, ↓reduceIte, nI_add, pk_mul, nI_subdiv, nI_sub', nI_m1, nI_0m1, nI_clamp, gdi_nI, gdz_nI, nI_div, nrem, nI_ltI, nI_leI, nI_eq, leT, leF, ltT, ltF, eqT, eqF, neT, neF, z0, m1lt0, m1lt, m1le, nI_ne_neg, neg_ne_nI, embP_a, embL_a, embL_up, embL_up1, up2_ne, up2_at, up2_o, up1_ne, up1_at, bI_eq0, bI_eq1, or_true, true_or, and_true, true_and, or_false, false_or, and_false, false_and, not_true_eq_false, not_false_eq_true, if_true, if_false,  decide_true, decide_false, bI_t, bI_f, Nat.add_sub_cancel, Nat.zero_add, Nat.add_zero, Nat.mul_zero, upd_eq, upd_ne, embP_up, embP_up1]
def putK (q : Nx) (k : Nat) : Nat → Nx
  | 0 => q
  | n + 1 => putK (up1 (up2 q 5 (q 9 0) k) 9 (q 9 0 + 1)) k n
def addRn (q : Nx) (k n : Nat) : Nx := up1 (putK q k n) 8 (q 8 0 + 1)
theorem putK_o {k a i : Nat} (h : a ≠ 5 ∧ a ≠ 9) : ∀ {n : Nat} {q : Nx}, putK q k n a i = q a i
  | 0, _ => rfl
  | n + 1, q => by
    rw [putK, putK_o h, up1_ne h.2, up2_ne h.1]
theorem putK_9 {k i : Nat} : ∀ {n : Nat} {q : Nx}, q 9 i = q 9 0 → putK q k n 9 i = q 9 0 + n
  | 0, _, h => h
  | n + 1, q, h => by
    rw [putK, putK_9 (by rw [up1_at, up1_at]), up1_at]
    omega
theorem putK_90 {k : Nat} {n : Nat} {q : Nx} : putK q k n 9 0 = q 9 0 + n := putK_9 rfl
theorem putK_5 {k i : Nat} : ∀ {n : Nat} {q : Nx}, putK q k n 5 i = if q 9 0 ≤ i ∧ i < q 9 0 + n then k else q 5 i
  | 0, q => by rw [if_neg (by omega)]; rfl
  | n + 1, q => by
    rw [putK, putK_5, up1_at, up1_ne (by omega), up2_if]
    by_cases c : i = q 9 0
    · rw [if_neg (by omega), if_pos c, if_pos (by omega)]
    · rw [if_neg c]
      by_cases d : q 9 0 + 1 ≤ i ∧ i < q 9 0 + 1 + n
      · rw [if_pos d, if_pos (by omega)]
      · rw [if_neg d, if_neg (by omega)]
theorem c_addRn12 {N k n : Nat} (hn : n ≤ 20) : ∀ {d i u : Nat} {q : Nx}, d < u → i + d = n → q 9 0 + d ≤ 120 → itn (fX3_addRun_12b N) (fun _ _ _ _ => none) u (embP q) (nI k) (nI n) (nI i) = some (embP (up1 (putK q k d) 8 (putK q k d 8 0 + 1)))
  | _, _, 0, _, h, _, _ => by omega
  | 0, i, u + 1, q, _, e, _ => by
    rw [itn_s]
    unfold fX3_addRun_12b fX3_addRun_52
    rw [if_le (by omega) (by omega), embP_a, nI_add, embP_up1, nm_s]
    rfl
  | d + 1, i, u + 1, q, hu, e, h9 => by
    have r := c_addRn12 (N := N) (k := k) hn (d := d) (i := i + 1) (u := u) (q := up1 (up2 q 5 (q 9 0) k) 9 (q 9 0 + 1)) (by omega) (by omega) (by rw [up1_at]; omega)
    rw [itn_s]
    generalize itn (fX3_addRun_12b N) (fun _ _ _ _ => none) u = K at r ⊢
    unfold fX3_addRun_12b
    rw [if_nle (by omega) (by omega), embP_a, if_nle (by omega) (by omega), gdi_nI (by omega) (by omega), nI_clamp (by omega), embP_up, nm_s, embP_a, up2_ne (by omega), nI_add, embP_up1, nm_s, nI_add, nm_s, r]
    rfl
theorem c_addRn {q : Nx} {N k n : Nat} (hN : 500 < N) (hn : n ≤ 20) (h8 : q 8 0 < 6) (h9 : q 9 0 + n ≤ 120) : fX3_addRun N (embP q) (nI k) (nI n) = some (embP (addRn q k n)) := by
  have r := c_addRn12 (N := N) (k := k) hn (d := n) (i := 0) (u := N) (q := q) (by omega) (by omega) h9
  unfold fX3_addRun addRn
  rw [embP_a, if_lt h8 (by omega), nm_s]
  unfold fX3_addRun_12
  rw [r, putK_o (by omega)]
/-- the draft and the model's row while a text is read -/
def DRa (q : Nx) (S : Nat → Int32) : Prop := S 0 = nI 1 ∧ S 1 = nI (q 6 0) ∧ S 14 = nI (q 7 0) ∧ S 35 = nI (q 8 0) ∧ S 15 = nI 0
def DRb (q : Nx) (S : Nat → Int32) : Prop := q 6 0 ≤ 6 ∧ ∀ k, k < q 6 0 → S (2 + k) = nI (q 0 k) ∧ S (8 + k) = nI (q 1 k) ∧ 1 ≤ q 0 k ∧ q 0 k ≤ 60 ∧ q 1 k ≤ 60
def DRc (q : Nx) (S : Nat → Int32) : Prop := (1 ≤ q 7 0 ∧ q 7 0 ≤ 5) ∧ q 2 0 = 0 ∧ (1 ≤ q 6 0 → q 3 0 + 1 = q 6 0) ∧ (S 17 = nI (q 4 0) ∧ 1 ≤ q 4 0 ∧ q 4 0 ≤ 20) ∧ ∀ l, 1 ≤ l → l < q 7 0 → S (15 + 4 * l) = nI (q 2 l) ∧ S (15 + 4 * l + 1) = nI (q 3 l) ∧ S (15 + 4 * l + 2) = nI (q 4 l) ∧ q 2 l ≤ q 3 l ∧ q 3 l < q 6 0 ∧ 1 ≤ q 4 l ∧ q 4 l ≤ 20
def DRd (q g : Nx) (S : Nat → Int32) : Prop := GI q g ∧ (∀ r, r < q 8 0 → S (36 + 2 * r) = nI (g 0 r) ∧ S (36 + 2 * r + 1) = nI (g 1 r)) ∧ ∀ i, q 5 i < 2 ^ 31
def DR (q g : Nx) (S : Nat → Int32) : Prop := DRa q S ∧ DRb q S ∧ DRc q S ∧ DRd q g S
def LnR (N : Nat) (t : Nat → Nat) (L a : Nat) (q : Nx) (M : Rc) (cl : Option (Rc × Rc)) (mo : Option (Int32 × (Rc × RcL))) : Prop :=
  (∃ f R' b M' ML', cl = some (embP q, R') ∧ RC R' L b ∧ FO R' (some f) ∧ (mo = some (nI 0, (M', ML')) ∨ ∃ M1 ML1, mo = some (nI 1, (M1, ML1)) ∧ fX6_readEnd N M1 ML1 = some (nI 0, (M', ML'))) ∧ MF M M' f) ∨
  (∃ q' g' b R' M1 ML1 M' ML', cl = some (embP q', R') ∧ RC R' L b ∧ FO R' none ∧ a + 2 ≤ b ∧ mo = some (nI 1, (M1, ML1)) ∧ fX6_readEnd N M1 ML1 = some (nI 1, (M', ML')) ∧ MB t L b M' ML' ∧ DR q' g' (M' 12) ∧ ∀ i, i ≠ 4 → i ≠ 5 → i ≠ 6 → i ≠ 7 → i ≠ 12 → M' i = M i)
theorem rnO_none {t : Nat → Nat} {L a : Nat} {lo hi : Int32} {o : Option (Nat × Nat)} (h : rnO t L lo hi o a = none) : o = none := by
  cases o with
  | none => rfl
  | some f => cases h
theorem rsO_none {t : Nat → Nat} {L a : Nat} {o : Option (Nat × Nat)} (h : rsO t L o a = none) : o = none := by
  cases o with
  | none => rfl
  | some f => cases h
theorem FO_if {α : Type} {R : Rc} {o : Option (Nat × Nat)} {x y : α} (h : FO R o) : (o = none → (if R 3 0 = 0 then x else y) = x) ∧ (∀ f, o = some f → (if R 3 0 = 0 then x else y) = y) := by
  cases o with
  | none =>
    have h : R 3 0 = nI 0 := h
    rw [h]
    exact ⟨fun _ => if_e0 rfl, fun f hf => by cases hf⟩
  | some f =>
    have h : R 3 0 = nI f.1 ∧ R 4 0 = nI f.2 ∧ 1 ≤ f.1 ∧ f.1 ≤ 3 ∧ f.2 ≤ 440 := h
    rw [h.1]
    exact ⟨fun z => (by cases z), fun _ _ => if_n0 (by omega) (by omega)⟩
theorem FO_le {R : Rc} {f : Nat × Nat} (h : FO R (some f)) : 1 ≤ f.1 ∧ f.1 ≤ 3 := ⟨h.2.2.1, h.2.2.2.1⟩
/-- the class's station line, behind its word -/
theorem c_st17 {T : Nat → Int32} {t : Nat → Nat} (hT : TP T t) {N L a : Nat} (hN : 500 < N) (hL : L ≤ 440) {R : Rc} {Q : Rc} {o : Option (Nat × Nat)} (h : RC R L a) (ho : FO R o) : ∃ R' : Rc, RC R' L (tE t L (tE t L (tE t L a))) ∧ FO R' (rsO t L (rnO t L (nI 0) (nI 60) (rnO t L (nI 1) (nI 60) o a) (tE t L a)) (tE t L (tE t L a))) ∧ (rsO t L (rnO t L (nI 0) (nI 60) (rnO t L (nI 1) (nI 60) o a) (tE t L a)) (tE t L (tE t L a)) = none → fX4_readStation_17 N T Q R = bnd (fX3_addStation Q (nI (tV t L a)) (nI (tV t L (tE t L a)))) (fun z6 => some (z6, R'))) ∧ (∀ f, rsO t L (rnO t L (nI 0) (nI 60) (rnO t L (nI 1) (nI 60) o a) (tE t L a)) (tE t L (tE t L a)) = some f → fX4_readStation_17 N T Q R = some (Q, R')) := by
  obtain ⟨w1, R1, a1, a2, a3, a4⟩ := c_rn hT hN hL (lo := nI 1) (hi := nI 60) h ho
  obtain ⟨w2, R2, b1, b2, b3, b4⟩ := c_rn hT hN hL (lo := nI 0) (hi := nI 60) a2 a3
  obtain ⟨R3, c1, c2, c3⟩ := c_rs hT hN hL b2 b3
  refine ⟨R3, c2, c3, fun z => ?_, fun f hf => ?_⟩
  · have z2 := rsO_none z
    have z1 := rnO_none z2
    unfold fX4_readStation_17
    rw [a1, bnd_s, nm_s, b1, bnd_s, nm_s, c1, bnd_s, (FO_if c3).1 z, b4 z2, a4 z1]
  · unfold fX4_readStation_17
    rw [a1, bnd_s, nm_s, b1, bnd_s, nm_s, c1, bnd_s, (FO_if c3).2 f hf]
theorem c_rn17 {T : Nat → Int32} {t : Nat → Nat} (hT : TP T t) {N L a : Nat} (hN : 500 < N) (hL : L ≤ 440) {R : Rc} {Q : Rc} {o : Option (Nat × Nat)} (h : RC R L a) (ho : FO R o) : ∃ R' : Rc, RC R' L (tE t L (tE t L (tE t L a))) ∧ FO R' (rsO t L (rnO t L (nI 1) (nI 20) (rnO t L (nI 0) (nI 3) o a) (tE t L a)) (tE t L (tE t L a))) ∧ (rsO t L (rnO t L (nI 1) (nI 20) (rnO t L (nI 0) (nI 3) o a) (tE t L a)) (tE t L (tE t L a)) = none → fX4_readRun_17 N T Q R = bnd (fX3_addRun N Q (nI (tV t L a)) (nI (tV t L (tE t L a)))) (fun z6 => some (z6, R'))) ∧ (∀ f, rsO t L (rnO t L (nI 1) (nI 20) (rnO t L (nI 0) (nI 3) o a) (tE t L a)) (tE t L (tE t L a)) = some f → fX4_readRun_17 N T Q R = some (Q, R')) := by
  obtain ⟨w1, R1, a1, a2, a3, a4⟩ := c_rn hT hN hL (lo := nI 0) (hi := nI 3) h ho
  obtain ⟨w2, R2, b1, b2, b3, b4⟩ := c_rn hT hN hL (lo := nI 1) (hi := nI 20) a2 a3
  obtain ⟨R3, c1, c2, c3⟩ := c_rs hT hN hL b2 b3
  refine ⟨R3, c2, c3, fun z => ?_, fun f hf => ?_⟩
  · have z2 := rsO_none z
    have z1 := rnO_none z2
    unfold fX4_readRun_17
    rw [a1, bnd_s, nm_s, b1, bnd_s, nm_s, c1, bnd_s, (FO_if c3).1 z, b4 z2, a4 z1]
  · unfold fX4_readRun_17
    rw [a1, bnd_s, nm_s, b1, bnd_s, nm_s, c1, bnd_s, (FO_if c3).2 f hf]
theorem c_wk {T : Nat → Int32} {t : Nat → Nat} (hT : TP T t) {N L a : Nat} (hN : 500 < N) (hL : L ≤ 440) {R : Rc} {Q : Rc} {o : Option (Nat × Nat)} (h : RC R L a) (ho : FO R o) : ∃ R' : Rc, RC R' L (tE t L (tE t L a)) ∧ FO R' (rsO t L (rnO t L (nI 1) (nI 20) o a) (tE t L a)) ∧ (rsO t L (rnO t L (nI 1) (nI 20) o a) (tE t L a) = none → fX4_readWorks N T Q R = bnd (fX3_addLoop Q (nI 0) (nI 0) (nI (tV t L a))) (fun z6 => some (z6, R'))) ∧ (∀ f, rsO t L (rnO t L (nI 1) (nI 20) o a) (tE t L a) = some f → fX4_readWorks N T Q R = some (Q, R')) := by
  obtain ⟨w1, R1, a1, a2, a3, a4⟩ := c_rn hT hN hL (lo := nI 1) (hi := nI 20) h ho
  obtain ⟨R3, c1, c2, c3⟩ := c_rs hT hN hL a2 a3
  refine ⟨R3, c2, c3, fun z => ?_, fun f hf => ?_⟩
  · have z2 := rsO_none z
    unfold fX4_readWorks
    rw [a1, bnd_s, nm_s, c1, bnd_s, (FO_if c3).1 z, a4 z2]
  · unfold fX4_readWorks
    rw [a1, bnd_s, nm_s, c1, bnd_s, (FO_if c3).2 f hf]
/-- a loop's line: the first number bounds the second -/
theorem c_lp16 {T : Nat → Int32} {t : Nat → Nat} (hT : TP T t) {N L a : Nat} (hN : 500 < N) (hL : L ≤ 440) {R : Rc} {Q : Rc} {o : Option (Nat × Nat)} (h : RC R L a) (ho : FO R o) : ∃ (w : Int32) (R' : Rc), (rnO t L (nI 0) (Q 6 0 - nI 1) o a = none → w = nI (tV t L a)) ∧ RC R' L (tE t L (tE t L (tE t L (tE t L a)))) ∧ FO R' (rsO t L (rnO t L (nI 1) (nI 20) (rnO t L w (Q 6 0 - nI 1) (rnO t L (nI 0) (Q 6 0 - nI 1) o a) (tE t L a)) (tE t L (tE t L a))) (tE t L (tE t L (tE t L a)))) ∧ (rsO t L (rnO t L (nI 1) (nI 20) (rnO t L w (Q 6 0 - nI 1) (rnO t L (nI 0) (Q 6 0 - nI 1) o a) (tE t L a)) (tE t L (tE t L a))) (tE t L (tE t L (tE t L a))) = none → fX4_readLoop_16 N T Q R = bnd (fX3_addLoop Q (nI (tV t L a)) (nI (tV t L (tE t L a))) (nI (tV t L (tE t L (tE t L a))))) (fun z6 => some (z6, R'))) ∧ (∀ f, rsO t L (rnO t L (nI 1) (nI 20) (rnO t L w (Q 6 0 - nI 1) (rnO t L (nI 0) (Q 6 0 - nI 1) o a) (tE t L a)) (tE t L (tE t L a))) (tE t L (tE t L (tE t L a))) = some f → fX4_readLoop_16 N T Q R = some (Q, R')) := by
  obtain ⟨w1, R1, a1, a2, a3, a4⟩ := c_rn hT hN hL (lo := nI 0) (hi := Q 6 0 - nI 1) h ho
  obtain ⟨w2, R2, b1, b2, b3, b4⟩ := c_rn hT hN hL (lo := w1) (hi := Q 6 0 - nI 1) a2 a3
  obtain ⟨w3, R3, d1, d2, d3, d4⟩ := c_rn hT hN hL (lo := nI 1) (hi := nI 20) b2 b3
  obtain ⟨R4, c1, c2, c3⟩ := c_rs hT hN hL d2 d3
  refine ⟨w1, R4, a4, c2, c3, fun z => ?_, fun f hf => ?_⟩
  · have z3 := rsO_none z
    have z2 := rnO_none z3
    have z1 := rnO_none z2
    unfold fX4_readLoop_16
    rw [a1, bnd_s, nm_s, b1, bnd_s, nm_s, d1, bnd_s, nm_s, c1, bnd_s, (FO_if c3).1 z, d4 z3, b4 z2, a4 z1]
  · unfold fX4_readLoop_16
    rw [a1, bnd_s, nm_s, b1, bnd_s, nm_s, d1, bnd_s, nm_s, c1, bnd_s, (FO_if c3).2 f hf]
/-- a fault of the model's, seen from ahead -/
theorem MF_mv {M0 M M' : Rc} {f : Nat × Nat} (h : MF M M' f) (ho : ∀ i, i ≠ 4 → i ≠ 5 → i ≠ 6 → i ≠ 7 → i ≠ 12 → M i = M0 i) : MF M0 M' f :=
  ⟨h.1, h.2.1, fun i q1 q2 q3 q4 q5 q6 q7 => (h.2.2 i q1 q2 q3 q4 q5 q6 q7).trans (ho i q1 q2 q3 q4 q7)⟩
theorem MB_12 {t : Nat → Nat} {L a : Nat} {M : Rc} {ML : RcL} {S : Nat → Int32} (h : MB t L a M ML) : MB t L a (va_up M 12 S) ML := by
  refine ⟨⟨?_, ?_, ?_, ?_, h.1.2.2.2.2⟩, ?_, ?_, h.2.2.2⟩
  · rw [va_up_ne _ _ (by omega)]; exact h.1.1
  · rw [va_up_ne _ _ (by omega)]; exact h.1.2.1
  · rw [va_up_ne _ _ (by omega)]; exact h.1.2.2.1
  · rw [va_up_ne _ _ (by omega)]; exact h.1.2.2.2.1
  · rw [va_up_ne _ _ (by omega)]; exact h.2.1
  · rw [va_up_ne _ _ (by omega)]; exact h.2.2.1
