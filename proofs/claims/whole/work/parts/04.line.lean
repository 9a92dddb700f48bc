/-! the works in naturals: plan p (0 times, 1 setups, 2 from, 3 to, 4 told cards, 5 kinds, 6 stations, 7 loops, 8 runs, 9 places), line x (1 begun, 2 through, 3 ends, 4 cards, 5 births, 6 minutes, 7 factor, 8 time, 9 lead + 1, 10 longest lead + 1) -/
def sKind (p : Nx) (f m : Nat) : Nat := if p 9 0 = 0 then 0 else p 5 (m / f % p 9 0)
def sSet (p x : Nx) (k : Nat) : Nat := if x 1 k = 0 then 0 else if sKind p (x 7 0) (x 1 k - 1) = sKind p (x 7 0) (x 1 k) then 0 else p 1 k
def sWait (x : Nx) (k : Nat) : Nat := if k = 0 then 0 else x 2 (k - 1) - x 1 k
def sFree (p x : Nx) (l : Nat) : Nat := x 4 l + x 2 (p 3 l) - x 1 (p 2 l)
def hasC (p x : Nx) (k : Nat) : Nat → Nat → Bool
  | _, 0 => true
  | l, n + 1 => if p 2 l = k ∧ sFree p x l = 0 then false else hasC p x k (l + 1) n
def canB (p x : Nx) (k : Nat) : Bool := if k ≠ 0 ∧ sWait x k = 0 then false else hasC p x k 0 (p 7 0)
def sFin (p x : Nx) (k : Nat) : Nx := if k + 1 = p 6 0 then up1 (up1 (up2 x 2 k (x 2 k + 1)) 9 (x 8 0 - x 5 (x 2 k % 20) + 1)) 10 (max (x 10 0) (x 8 0 - x 5 (x 2 k % 20) + 1)) else up2 x 2 k (x 2 k + 1)
def sBeg (p x : Nx) (k : Nat) : Nx := if k = 0 then up2 (up2 (up2 x 1 k (x 1 k + 1)) 3 k (x 8 0 + sSet p x k + p 0 k)) 5 (x 1 k % 20) (x 8 0) else up2 (up2 x 1 k (x 1 k + 1)) 3 k (x 8 0 + sSet p x k + p 0 k)
def sFinIf (p x : Nx) (k : Nat) : Nx := if x 1 k = x 2 k then x else if x 8 0 < x 3 k then x else sFin p x k
def sBegIf (p x : Nx) (k : Nat) : Nx := if x 1 k = x 2 k then (if canB p x k = true then sBeg p x k else x) else x
def down (f : Nx → Nat → Nx) : Nat → Nx → Nx
  | 0, x => x
  | n + 1, x => down f n (f x n)
def sRound (p x : Nx) : Nx := down (sBegIf p) (p 6 0) (down (sFinIf p) (p 6 0) x)
/-- what a plan keeps to -/
def PI (p : Nx) : Prop := (1 ≤ p 6 0 ∧ p 6 0 ≤ 6) ∧ (1 ≤ p 7 0 ∧ p 7 0 ≤ 5) ∧ (p 2 0 = 0 ∧ p 3 0 + 1 = p 6 0) ∧ (∀ l, l < p 7 0 → p 2 l ≤ p 3 l ∧ p 3 l < p 6 0) ∧ (∀ k, k < p 6 0 → 1 ≤ p 0 k ∧ p 0 k ≤ 60 ∧ p 1 k ≤ 60) ∧ p 9 0 ≤ 120 ∧ ∀ i, p 5 i < 2 ^ 31
theorem PI.n {p : Nx} (h : PI p) : 1 ≤ p 6 0 ∧ p 6 0 ≤ 6 := h.1
theorem PI.q {p : Nx} (h : PI p) : 1 ≤ p 7 0 ∧ p 7 0 ≤ 5 := h.2.1
theorem PI.l0 {p : Nx} (h : PI p) : p 2 0 = 0 ∧ p 3 0 + 1 = p 6 0 := h.2.2.1
theorem PI.l {p : Nx} (h : PI p) {l : Nat} (hl : l < p 7 0) : p 2 l ≤ p 3 l ∧ p 3 l < p 6 0 := h.2.2.2.1 l hl
theorem PI.k {p : Nx} (h : PI p) {k : Nat} (hk : k < p 6 0) : 1 ≤ p 0 k ∧ p 0 k ≤ 60 ∧ p 1 k ≤ 60 := h.2.2.2.2.1 k hk
theorem PI.pl {p : Nx} (h : PI p) : p 9 0 ≤ 120 := h.2.2.2.2.2.1
theorem PI.kd {p : Nx} (h : PI p) (i : Nat) : p 5 i < 2 ^ 31 := h.2.2.2.2.2.2 i
/-- what a line keeps to, at any moment of a round -/
def LI (p x : Nx) : Prop := (1 ≤ x 7 0 ∧ x 7 0 ≤ 5) ∧ (∀ l, l < p 7 0 → 1 ≤ x 4 l ∧ x 4 l ≤ 20 ∧ x 1 (p 2 l) ≤ x 4 l + x 2 (p 3 l)) ∧ (∀ k, k < p 6 0 → x 2 k ≤ x 1 k ∧ x 1 k ≤ x 2 k + 1 ∧ x 2 k ≤ x 8 0) ∧ (∀ k, k + 1 < p 6 0 → x 1 (k + 1) ≤ x 2 k) ∧ (∀ k, k < p 6 0 → x 1 k ≠ x 2 k → x 8 0 ≤ x 3 k ∧ x 3 k ≤ x 8 0 + 120 ∧ p 0 k + x 2 k ≤ x 3 k) ∧ (∀ j, x 2 (p 6 0 - 1) ≤ j → j < x 1 0 → x 5 (j % 20) ≤ x 8 0) ∧ (x 9 0 ≤ x 8 0 + 1 ∧ x 10 0 ≤ x 8 0 + 1)
theorem LI.f {p x : Nx} (h : LI p x) : 1 ≤ x 7 0 ∧ x 7 0 ≤ 5 := h.1
theorem LI.l {p x : Nx} (h : LI p x) {l : Nat} (hl : l < p 7 0) : 1 ≤ x 4 l ∧ x 4 l ≤ 20 ∧ x 1 (p 2 l) ≤ x 4 l + x 2 (p 3 l) := h.2.1 l hl
theorem LI.k {p x : Nx} (h : LI p x) {k : Nat} (hk : k < p 6 0) : x 2 k ≤ x 1 k ∧ x 1 k ≤ x 2 k + 1 ∧ x 2 k ≤ x 8 0 := h.2.2.1 k hk
theorem LI.s {p x : Nx} (h : LI p x) {k : Nat} (hk : k + 1 < p 6 0) : x 1 (k + 1) ≤ x 2 k := h.2.2.2.1 k hk
theorem LI.e {p x : Nx} (h : LI p x) {k : Nat} (hk : k < p 6 0) (hb : x 1 k ≠ x 2 k) : x 8 0 ≤ x 3 k ∧ x 3 k ≤ x 8 0 + 120 ∧ p 0 k + x 2 k ≤ x 3 k := h.2.2.2.2.1 k hk hb
theorem LI.b {p x : Nx} (h : LI p x) {j : Nat} (h1 : x 2 (p 6 0 - 1) ≤ j) (h2 : j < x 1 0) : x 5 (j % 20) ≤ x 8 0 := h.2.2.2.2.2.1 j h1 h2
theorem LI.d {p x : Nx} (h : LI p x) : x 9 0 ≤ x 8 0 + 1 ∧ x 10 0 ≤ x 8 0 + 1 := h.2.2.2.2.2.2
/-- the order of the counts -/
theorem LI.mono {p x : Nx} (h : LI p x) : ∀ {d k : Nat}, k + d < p 6 0 → x 2 (k + d) ≤ x 2 k ∧ x 1 (k + d) ≤ x 1 k
  | 0, k, hk => ⟨Nat.le_refl _, Nat.le_refl _⟩
  | d + 1, k, hk => by
    have i := LI.mono h (d := d) (k := k) (by omega)
    have a := h.k (k := k + d) (by omega)
    have b := h.k (k := k + (d + 1)) (by omega)
    have c := h.s (k := k + d) (by omega)
    have e : k + d + 1 = k + (d + 1) := by omega
    rw [e] at c
    omega
theorem LI.mono' {p x : Nx} (h : LI p x) {j k : Nat} (hj : k ≤ j) (hk : j < p 6 0) : x 2 j ≤ x 2 k ∧ x 1 j ≤ x 1 k := by
  have := h.mono (d := j - k) (k := k) (by omega)
  rwa [show k + (j - k) = j from by omega] at this
/-- LOOP 0 bounds what is on its way -/
theorem LI.way {p x : Nx} (h : LI p x) (hp : PI p) : x 1 0 ≤ x 2 (p 6 0 - 1) + 20 := by
  have a := h.l (l := 0) (by have := hp.q; omega)
  have b := hp.l0
  rw [b.1, show p 3 0 = p 6 0 - 1 from by omega] at a
  omega
/-! the class's line -/
theorem s_isIdle {x : Nx} {k : Nat} (hk : k < 6) (h1 : x 1 k < 2 ^ 31) (h2 : x 2 k < 2 ^ 31) : fX1_isIdle (embL x) (nI k) = some (bI (decide (x 1 k = x 2 k))) := by
  unfold fX1_isIdle
  by_cases h : x 1 k = x 2 k
  · simp (disch := omega) only [↓nm_s, ↓bnd_s, ↓reduceIte, nI_add, pk_mul, nI_subdiv, nI_sub', nI_m1, nI_0m1, nI_clamp, gdi_nI, gdz_nI, nI_div, nrem, nI_ltI, nI_leI, nI_eq, leT, leF, ltT, ltF, eqT, eqF, neT, neF, z0, m1lt0, m1lt, m1le, nI_ne_neg, neg_ne_nI, embP_a, embL_a, embL_up, embL_up1, up2_ne, up2_at, up2_o, up1_ne, up1_at, bI_eq0, bI_eq1, or_true, true_or, and_true, true_and, or_false, false_or, and_false, false_and, not_true_eq_false, not_false_eq_true, if_true, if_false,  decide_true, decide_false, bI_t, bI_f, Nat.add_sub_cancel, Nat.zero_add, Nat.add_zero, Nat.mul_zero, upd_eq, upd_ne]
  · simp (disch := omega) only [↓nm_s, ↓bnd_s, ↓reduceIte, nI_add, pk_mul, nI_subdiv, nI_sub', nI_m1, nI_0m1, nI_clamp, gdi_nI, gdz_nI, nI_div, nrem, nI_ltI, nI_leI, nI_eq, leT, leF, ltT, ltF, eqT, eqF, neT, neF, z0, m1lt0, m1lt, m1le, nI_ne_neg, neg_ne_nI, embP_a, embL_a, embL_up, embL_up1, up2_ne, up2_at, up2_o, up1_ne, up1_at, bI_eq0, bI_eq1, or_true, true_or, and_true, true_and, or_false, false_or, and_false, false_and, not_true_eq_false, not_false_eq_true, if_true, if_false,  decide_true, decide_false, bI_t, bI_f, Nat.add_sub_cancel, Nat.zero_add, Nat.add_zero, Nat.mul_zero, upd_eq, upd_ne]
theorem s_waiting {x : Nx} {k : Nat} (hk : k < 6) (h1 : k ≠ 0 → x 1 k ≤ x 2 (k - 1)) (h2 : x 2 (k - 1) < 2 ^ 31) : fX1_waiting (embL x) (nI k) = some (nI (sWait x k)) := by
  unfold fX1_waiting sWait
  by_cases h : k = 0
  · simp (disch := omega) only [↓nm_s, ↓bnd_s, ↓reduceIte, nI_add, pk_mul, nI_subdiv, nI_sub', nI_m1, nI_0m1, nI_clamp, gdi_nI, gdz_nI, nI_div, nrem, nI_ltI, nI_leI, nI_eq, leT, leF, ltT, ltF, eqT, eqF, neT, neF, z0, m1lt0, m1lt, m1le, nI_ne_neg, neg_ne_nI, embP_a, embL_a, embL_up, embL_up1, up2_ne, up2_at, up2_o, up1_ne, up1_at, bI_eq0, bI_eq1, or_true, true_or, and_true, true_and, or_false, false_or, and_false, false_and, not_true_eq_false, not_false_eq_true, if_true, if_false,  decide_true, decide_false, bI_t, bI_f, Nat.add_sub_cancel, Nat.zero_add, Nat.add_zero, Nat.mul_zero, upd_eq, upd_ne]
  · have := h1 h
    simp (disch := omega) only [↓nm_s, ↓bnd_s, ↓reduceIte, nI_add, pk_mul, nI_subdiv, nI_sub', nI_m1, nI_0m1, nI_clamp, gdi_nI, gdz_nI, nI_div, nrem, nI_ltI, nI_leI, nI_eq, leT, leF, ltT, ltF, eqT, eqF, neT, neF, z0, m1lt0, m1lt, m1le, nI_ne_neg, neg_ne_nI, embP_a, embL_a, embL_up, embL_up1, up2_ne, up2_at, up2_o, up1_ne, up1_at, bI_eq0, bI_eq1, or_true, true_or, and_true, true_and, or_false, false_or, and_false, false_and, not_true_eq_false, not_false_eq_true, if_true, if_false,  decide_true, decide_false, bI_t, bI_f, Nat.add_sub_cancel, Nat.zero_add, Nat.add_zero, Nat.mul_zero, upd_eq, upd_ne]
theorem s_out {p x : Nx} (hp : PI p) : fX1_out (embP p) (embL x) = some (nI (x 2 (p 6 0 - 1))) := by
  have := hp.n
  unfold fX1_out
  simp (disch := omega) only [↓nm_s, ↓bnd_s, ↓reduceIte, nI_add, pk_mul, nI_subdiv, nI_sub', nI_m1, nI_0m1, nI_clamp, gdi_nI, gdz_nI, nI_div, nrem, nI_ltI, nI_leI, nI_eq, leT, leF, ltT, ltF, eqT, eqF, neT, neF, z0, m1lt0, m1lt, m1le, nI_ne_neg, neg_ne_nI, embP_a, embL_a, embL_up, embL_up1, up2_ne, up2_at, up2_o, up1_ne, up1_at, bI_eq0, bI_eq1, or_true, true_or, and_true, true_and, or_false, false_or, and_false, false_and, not_true_eq_false, not_false_eq_true, if_true, if_false,  decide_true, decide_false, bI_t, bI_f, Nat.add_sub_cancel, Nat.zero_add, Nat.add_zero, Nat.mul_zero, upd_eq, upd_ne]
theorem s_free {p x : Nx} (hp : PI p) (hx : LI p x) (hT : x 8 0 < 2 ^ 30) {l : Nat} (hl : l < p 7 0) : fX1_free (embP p) (embL x) (nI l) = some (nI (sFree p x l)) := by
  have h1 := hp.n
  have h2 := hp.q
  have h3 := hp.l hl
  have h4 := hx.l hl
  have h5 := hx.k (k := p 2 l) (by omega)
  have h6 := hx.k (k := p 3 l) (by omega)
  have h7 := hx.mono' h3.1 h3.2
  unfold fX1_free sFree
  simp (disch := omega) only [↓nm_s, ↓bnd_s, ↓reduceIte, nI_add, pk_mul, nI_subdiv, nI_sub', nI_m1, nI_0m1, nI_clamp, gdi_nI, gdz_nI, nI_div, nrem, nI_ltI, nI_leI, nI_eq, leT, leF, ltT, ltF, eqT, eqF, neT, neF, z0, m1lt0, m1lt, m1le, nI_ne_neg, neg_ne_nI, embP_a, embL_a, embL_up, embL_up1, up2_ne, up2_at, up2_o, up1_ne, up1_at, bI_eq0, bI_eq1, or_true, true_or, and_true, true_and, or_false, false_or, and_false, false_and, not_true_eq_false, not_false_eq_true, if_true, if_false,  decide_true, decide_false, bI_t, bI_f, Nat.add_sub_cancel, Nat.zero_add, Nat.add_zero, Nat.mul_zero, upd_eq, upd_ne]
  rw [show x 4 l - (x 1 (p 2 l) - x 2 (p 3 l)) = x 4 l + x 2 (p 3 l) - x 1 (p 2 l) from by omega]
theorem s_kindOf {p x : Nx} (hp : PI p) (hx : LI p x) {m : Nat} (hm : m < 2 ^ 31) : fX1_kindOf (embP p) (embL x) (nI m) = some (nI (sKind p (x 7 0) m)) := by
  have h1 := hx.f
  have h2 := hp.pl
  unfold fX1_kindOf sKind
  by_cases h : p 9 0 = 0
  · simp (disch := omega) only [↓nm_s, ↓bnd_s, ↓reduceIte, nI_add, pk_mul, nI_subdiv, nI_sub', nI_m1, nI_0m1, nI_clamp, gdi_nI, gdz_nI, nI_div, nrem, nI_ltI, nI_leI, nI_eq, leT, leF, ltT, ltF, eqT, eqF, neT, neF, z0, m1lt0, m1lt, m1le, nI_ne_neg, neg_ne_nI, embP_a, embL_a, embL_up, embL_up1, up2_ne, up2_at, up2_o, up1_ne, up1_at, bI_eq0, bI_eq1, or_true, true_or, and_true, true_and, or_false, false_or, and_false, false_and, not_true_eq_false, not_false_eq_true, if_true, if_false,  decide_true, decide_false, bI_t, bI_f, Nat.add_sub_cancel, Nat.zero_add, Nat.add_zero, Nat.mul_zero, upd_eq, upd_ne, fX1_kindOf_23]
  · have h3 : m / x 7 0 < 2 ^ 31 := Nat.lt_of_le_of_lt (Nat.div_le_self _ _) hm
    have h4 : m / x 7 0 % p 9 0 < p 9 0 := Nat.mod_lt _ (by omega)
    simp (disch := omega) only [↓nm_s, ↓bnd_s, ↓reduceIte, nI_add, pk_mul, nI_subdiv, nI_sub', nI_m1, nI_0m1, nI_clamp, gdi_nI, gdz_nI, nI_div, nrem, nI_ltI, nI_leI, nI_eq, leT, leF, ltT, ltF, eqT, eqF, neT, neF, z0, m1lt0, m1lt, m1le, nI_ne_neg, neg_ne_nI, embP_a, embL_a, embL_up, embL_up1, up2_ne, up2_at, up2_o, up1_ne, up1_at, bI_eq0, bI_eq1, or_true, true_or, and_true, true_and, or_false, false_or, and_false, false_and, not_true_eq_false, not_false_eq_true, if_true, if_false,  decide_true, decide_false, bI_t, bI_f, Nat.add_sub_cancel, Nat.zero_add, Nat.add_zero, Nat.mul_zero, upd_eq, upd_ne]

theorem hasC_iff {p x : Nx} {k : Nat} : ∀ {n l : Nat}, hasC p x k l n = true ↔ ∀ j, l ≤ j → j < l + n → p 2 j = k → sFree p x j ≠ 0
  | 0, l => ⟨fun _ j h1 h2 => by omega, fun _ => rfl⟩
  | n + 1, l => by
    have i := hasC_iff (p := p) (x := x) (k := k) (n := n) (l := l + 1)
    unfold hasC
    by_cases c : p 2 l = k ∧ sFree p x l = 0
    · rw [if_pos c]
      refine ⟨fun h => (by cases h), fun h => absurd c.2 (h l (Nat.le_refl _) (by omega) c.1)⟩
    · rw [if_neg c, i]
      constructor
      · intro h j h1 h2 h3
        by_cases e : j = l
        · subst e
          exact fun z => c ⟨h3, z⟩
        · exact h j (by omega) (by omega) h3
      · intro h j h1 h2 h3
        exact h j (by omega) (by omega) h3
theorem s_canB17 {p x : Nx} (hp : PI p) (hx : LI p x) (hT : x 8 0 < 2 ^ 30) {k : Nat} (hk : k < p 6 0) (N : Nat) : ∀ {f d l : Nat}, d < f → l + d = p 7 0 → itn (fX1_canBegin_17b N) (fun _ _ _ _ => none) f (embP p) (embL x) (nI k) (nI l) = some (bI (hasC p x k l d))
  | 0, d, l, h, _ => by omega
  | f + 1, 0, l, h, e => by
    have h1 := hp.q
    rw [itn_s]
    unfold fX1_canBegin_17b hasC
    simp (disch := omega) only [↓nm_s, ↓bnd_s, ↓reduceIte, nI_add, pk_mul, nI_subdiv, nI_sub', nI_m1, nI_0m1, nI_clamp, gdi_nI, gdz_nI, nI_div, nrem, nI_ltI, nI_leI, nI_eq, leT, leF, ltT, ltF, eqT, eqF, neT, neF, z0, m1lt0, m1lt, m1le, nI_ne_neg, neg_ne_nI, embP_a, embL_a, embL_up, embL_up1, up2_ne, up2_at, up2_o, up1_ne, up1_at, bI_eq0, bI_eq1, or_true, true_or, and_true, true_and, or_false, false_or, and_false, false_and, not_true_eq_false, not_false_eq_true, if_true, if_false,  decide_true, decide_false, bI_t, bI_f, Nat.add_sub_cancel, Nat.zero_add, Nat.add_zero, Nat.mul_zero, upd_eq, upd_ne]
  | f + 1, d + 1, l, h, e => by
    have h1 := hp.q
    have h2 := hp.n
    have h3 := hp.l (l := l) (by omega)
    have h4 := hx.l (l := l) (by omega)
    have h5 := hx.k (k := p 2 l) (by omega)
    have h6 := hx.k (k := p 3 l) (by omega)
    have i := s_canB17 hp hx hT hk N (f := f) (d := d) (l := l + 1) (by omega) (by omega)
    have g := s_free hp hx hT (l := l) (by omega)
    have b : sFree p x l < 2 ^ 31 := by unfold sFree; omega
    rw [itn_s]
    generalize itn (fX1_canBegin_17b N) (fun _ _ _ _ => none) f = K at i ⊢
    unfold fX1_canBegin_17b hasC
    by_cases c : p 2 l = k
    · by_cases z : sFree p x l = 0
      · simp (disch := omega) only [↓nm_s, ↓bnd_s, ↓reduceIte, nI_add, pk_mul, nI_subdiv, nI_sub', nI_m1, nI_0m1, nI_clamp, gdi_nI, gdz_nI, nI_div, nrem, nI_ltI, nI_leI, nI_eq, leT, leF, ltT, ltF, eqT, eqF, neT, neF, z0, m1lt0, m1lt, m1le, nI_ne_neg, neg_ne_nI, embP_a, embL_a, embL_up, embL_up1, up2_ne, up2_at, up2_o, up1_ne, up1_at, bI_eq0, bI_eq1, or_true, true_or, and_true, true_and, or_false, false_or, and_false, false_and, not_true_eq_false, not_false_eq_true, if_true, if_false,  decide_true, decide_false, bI_t, bI_f, Nat.add_sub_cancel, Nat.zero_add, Nat.add_zero, Nat.mul_zero, upd_eq, upd_ne, g]
      · simp (disch := omega) only [↓nm_s, ↓bnd_s, ↓reduceIte, nI_add, pk_mul, nI_subdiv, nI_sub', nI_m1, nI_0m1, nI_clamp, gdi_nI, gdz_nI, nI_div, nrem, nI_ltI, nI_leI, nI_eq, leT, leF, ltT, ltF, eqT, eqF, neT, neF, z0, m1lt0, m1lt, m1le, nI_ne_neg, neg_ne_nI, embP_a, embL_a, embL_up, embL_up1, up2_ne, up2_at, up2_o, up1_ne, up1_at, bI_eq0, bI_eq1, or_true, true_or, and_true, true_and, or_false, false_or, and_false, false_and, not_true_eq_false, not_false_eq_true, if_true, if_false,  decide_true, decide_false, bI_t, bI_f, Nat.add_sub_cancel, Nat.zero_add, Nat.add_zero, Nat.mul_zero, upd_eq, upd_ne, g, fX1_canBegin_52, i]
    · simp (disch := omega) only [↓nm_s, ↓bnd_s, ↓reduceIte, nI_add, pk_mul, nI_subdiv, nI_sub', nI_m1, nI_0m1, nI_clamp, gdi_nI, gdz_nI, nI_div, nrem, nI_ltI, nI_leI, nI_eq, leT, leF, ltT, ltF, eqT, eqF, neT, neF, z0, m1lt0, m1lt, m1le, nI_ne_neg, neg_ne_nI, embP_a, embL_a, embL_up, embL_up1, up2_ne, up2_at, up2_o, up1_ne, up1_at, bI_eq0, bI_eq1, or_true, true_or, and_true, true_and, or_false, false_or, and_false, false_and, not_true_eq_false, not_false_eq_true, if_true, if_false,  decide_true, decide_false, bI_t, bI_f, Nat.add_sub_cancel, Nat.zero_add, Nat.add_zero, Nat.mul_zero, upd_eq, upd_ne, g, fX1_canBegin_52, i]
theorem s_canB {p x : Nx} (hp : PI p) (hx : LI p x) (hT : x 8 0 < 2 ^ 30) {k N : Nat} (hN : 5 < N) (hk : k < p 6 0) : fX1_canBegin N (embP p) (embL x) (nI k) = some (bI (canB p x k)) := by
  have h1 := hp.q
  have h2 := hp.n
  have i := s_canB17 hp hx hT hk N (f := N) (d := p 7 0) (l := 0) (by omega) (by omega)
  unfold fX1_canBegin canB
  by_cases c : k = 0
  · subst c
    simp (disch := omega) only [↓nm_s, ↓bnd_s, ↓reduceIte, nI_add, pk_mul, nI_subdiv, nI_sub', nI_m1, nI_0m1, nI_clamp, gdi_nI, gdz_nI, nI_div, nrem, nI_ltI, nI_leI, nI_eq, leT, leF, ltT, ltF, eqT, eqF, neT, neF, z0, m1lt0, m1lt, m1le, nI_ne_neg, neg_ne_nI, embP_a, embL_a, embL_up, embL_up1, up2_ne, up2_at, up2_o, up1_ne, up1_at, bI_eq0, bI_eq1, or_true, true_or, and_true, true_and, or_false, false_or, and_false, false_and, not_true_eq_false, not_false_eq_true, if_true, if_false,  decide_true, decide_false, bI_t, bI_f, Nat.add_sub_cancel, Nat.zero_add, Nat.add_zero, Nat.mul_zero, upd_eq, upd_ne, fX1_canBegin_15, fX1_canBegin_17, i]
  · have h3 := hx.k (k := k) hk
    have h4 := hx.k (k := k - 1) (by omega)
    have h5 := hx.s (k := k - 1) (by omega)
    rw [show k - 1 + 1 = k from by omega] at h5
    have w := s_waiting (x := x) (k := k) (by omega) (fun _ => h5) (by omega)
    have e : sWait x k = x 2 (k - 1) - x 1 k := by unfold sWait; rw [if_neg c]
    have e' : sWait x k < 2 ^ 31 := by omega
    by_cases z : sWait x k = 0
    · simp (disch := omega) only [↓nm_s, ↓bnd_s, ↓reduceIte, nI_add, pk_mul, nI_subdiv, nI_sub', nI_m1, nI_0m1, nI_clamp, gdi_nI, gdz_nI, nI_div, nrem, nI_ltI, nI_leI, nI_eq, leT, leF, ltT, ltF, eqT, eqF, neT, neF, z0, m1lt0, m1lt, m1le, nI_ne_neg, neg_ne_nI, embP_a, embL_a, embL_up, embL_up1, up2_ne, up2_at, up2_o, up1_ne, up1_at, bI_eq0, bI_eq1, or_true, true_or, and_true, true_and, or_false, false_or, and_false, false_and, not_true_eq_false, not_false_eq_true, if_true, if_false,  decide_true, decide_false, bI_t, bI_f, Nat.add_sub_cancel, Nat.zero_add, Nat.add_zero, Nat.mul_zero, upd_eq, upd_ne, w]
    · simp (disch := omega) only [↓nm_s, ↓bnd_s, ↓reduceIte, nI_add, pk_mul, nI_subdiv, nI_sub', nI_m1, nI_0m1, nI_clamp, gdi_nI, gdz_nI, nI_div, nrem, nI_ltI, nI_leI, nI_eq, leT, leF, ltT, ltF, eqT, eqF, neT, neF, z0, m1lt0, m1lt, m1le, nI_ne_neg, neg_ne_nI, embP_a, embL_a, embL_up, embL_up1, up2_ne, up2_at, up2_o, up1_ne, up1_at, bI_eq0, bI_eq1, or_true, true_or, and_true, true_and, or_false, false_or, and_false, false_and, not_true_eq_false, not_false_eq_true, if_true, if_false,  decide_true, decide_false, bI_t, bI_f, Nat.add_sub_cancel, Nat.zero_add, Nat.add_zero, Nat.mul_zero, upd_eq, upd_ne, w, fX1_canBegin_15, fX1_canBegin_17, i]
theorem s_finish {p x : Nx} (hp : PI p) (hx : LI p x) (hT : x 8 0 < 2 ^ 30) {k : Nat} (hk : k < p 6 0) (hb : x 1 k ≠ x 2 k) : fX1_finish (embP p) (embL x) (nI k) = some (embL (sFin p x k)) := by
  have h2 := hp.n
  have h3 := hx.k (k := k) hk
  have h4 := hx.d
  unfold fX1_finish sFin
  by_cases c : k + 1 = p 6 0
  · have h5 := hx.b (j := x 2 k) (by rw [show p 6 0 - 1 = k from by omega]; omega) (by have := hx.mono' (j := k) (k := 0) (by omega) hk; omega)
    have h6 : x 2 k % 20 < 20 := Nat.mod_lt _ (by omega)
    simp (disch := omega) only [↓nm_s, ↓bnd_s, ↓reduceIte, nI_add, pk_mul, nI_subdiv, nI_sub', nI_m1, nI_0m1, nI_clamp, gdi_nI, gdz_nI, nI_div, nrem, nI_ltI, nI_leI, nI_eq, leT, leF, ltT, ltF, eqT, eqF, neT, neF, z0, m1lt0, m1lt, m1le, nI_ne_neg, neg_ne_nI, embP_a, embL_a, embL_up, embL_up1, up2_ne, up2_at, up2_o, up1_ne, up1_at, bI_eq0, bI_eq1, or_true, true_or, and_true, true_and, or_false, false_or, and_false, false_and, not_true_eq_false, not_false_eq_true, if_true, if_false,  decide_true, decide_false, bI_t, bI_f, Nat.add_sub_cancel, Nat.zero_add, Nat.add_zero, Nat.mul_zero, upd_eq, upd_ne]
    rw [show nI (x 8 0 - x 5 (x 2 k % 20)) = nI (x 8 0 - x 5 (x 2 k % 20) + 1) - nI 1 from by rw [nI_sub' (by omega)]; rfl, embL_upl (Or.inl rfl), embL_9, embL_10]
    simp (disch := omega) only [↓nm_s, ↓bnd_s, ↓reduceIte, nI_add, pk_mul, nI_subdiv, nI_sub', nI_m1, nI_0m1, nI_clamp, gdi_nI, gdz_nI, nI_div, nrem, nI_ltI, nI_leI, nI_eq, leT, leF, ltT, ltF, eqT, eqF, neT, neF, z0, m1lt0, m1lt, m1le, nI_ne_neg, neg_ne_nI, embP_a, embL_a, embL_up, embL_up1, up2_ne, up2_at, up2_o, up1_ne, up1_at, bI_eq0, bI_eq1, or_true, true_or, and_true, true_and, or_false, false_or, and_false, false_and, not_true_eq_false, not_false_eq_true, if_true, if_false,  decide_true, decide_false, bI_t, bI_f, Nat.add_sub_cancel, Nat.zero_add, Nat.add_zero, Nat.mul_zero, upd_eq, upd_ne]
    by_cases z : x 10 0 = 0
    · rw [show nI (x 10 0) - nI 1 = -1 from by rw [z]; rfl]
      simp (disch := omega) only [↓nm_s, ↓bnd_s, ↓reduceIte, nI_add, pk_mul, nI_subdiv, nI_sub', nI_m1, nI_0m1, nI_clamp, gdi_nI, gdz_nI, nI_div, nrem, nI_ltI, nI_leI, nI_eq, leT, leF, ltT, ltF, eqT, eqF, neT, neF, z0, m1lt0, m1lt, m1le, nI_ne_neg, neg_ne_nI, embP_a, embL_a, embL_up, embL_up1, up2_ne, up2_at, up2_o, up1_ne, up1_at, bI_eq0, bI_eq1, or_true, true_or, and_true, true_and, or_false, false_or, and_false, false_and, not_true_eq_false, not_false_eq_true, if_true, if_false,  decide_true, decide_false, bI_t, bI_f, Nat.add_sub_cancel, Nat.zero_add, Nat.add_zero, Nat.mul_zero, upd_eq, upd_ne]
      rw [show nI (x 8 0 - x 5 (x 2 k % 20)) = nI (x 8 0 - x 5 (x 2 k % 20) + 1) - nI 1 from by rw [nI_sub' (by omega)]; rfl, embL_upl (Or.inr rfl), Nat.max_eq_right (by omega)]
    · by_cases y : x 10 0 < x 8 0 - x 5 (x 2 k % 20) + 1
      · simp (disch := omega) only [↓nm_s, ↓bnd_s, ↓reduceIte, nI_add, pk_mul, nI_subdiv, nI_sub', nI_m1, nI_0m1, nI_clamp, gdi_nI, gdz_nI, nI_div, nrem, nI_ltI, nI_leI, nI_eq, leT, leF, ltT, ltF, eqT, eqF, neT, neF, z0, m1lt0, m1lt, m1le, nI_ne_neg, neg_ne_nI, embP_a, embL_a, embL_up, embL_up1, up2_ne, up2_at, up2_o, up1_ne, up1_at, bI_eq0, bI_eq1, or_true, true_or, and_true, true_and, or_false, false_or, and_false, false_and, not_true_eq_false, not_false_eq_true, if_true, if_false,  decide_true, decide_false, bI_t, bI_f, Nat.add_sub_cancel, Nat.zero_add, Nat.add_zero, Nat.mul_zero, upd_eq, upd_ne]
        rw [show nI (x 8 0 - x 5 (x 2 k % 20)) = nI (x 8 0 - x 5 (x 2 k % 20) + 1) - nI 1 from by rw [nI_sub' (by omega)]; rfl, embL_upl (Or.inr rfl), Nat.max_eq_right (by omega)]
      · simp (disch := omega) only [↓nm_s, ↓bnd_s, ↓reduceIte, nI_add, pk_mul, nI_subdiv, nI_sub', nI_m1, nI_0m1, nI_clamp, gdi_nI, gdz_nI, nI_div, nrem, nI_ltI, nI_leI, nI_eq, leT, leF, ltT, ltF, eqT, eqF, neT, neF, z0, m1lt0, m1lt, m1le, nI_ne_neg, neg_ne_nI, embP_a, embL_a, embL_up, embL_up1, up2_ne, up2_at, up2_o, up1_ne, up1_at, bI_eq0, bI_eq1, or_true, true_or, and_true, true_and, or_false, false_or, and_false, false_and, not_true_eq_false, not_false_eq_true, if_true, if_false,  decide_true, decide_false, bI_t, bI_f, Nat.add_sub_cancel, Nat.zero_add, Nat.add_zero, Nat.mul_zero, upd_eq, upd_ne]
        rw [show nI (x 10 0 - 1) = nI (x 10 0) - nI 1 from by rw [nI_sub' (by omega)], embL_upl (Or.inr rfl), Nat.max_eq_left (by omega)]
  · simp (disch := omega) only [↓nm_s, ↓bnd_s, ↓reduceIte, nI_add, pk_mul, nI_subdiv, nI_sub', nI_m1, nI_0m1, nI_clamp, gdi_nI, gdz_nI, nI_div, nrem, nI_ltI, nI_leI, nI_eq, leT, leF, ltT, ltF, eqT, eqF, neT, neF, z0, m1lt0, m1lt, m1le, nI_ne_neg, neg_ne_nI, embP_a, embL_a, embL_up, embL_up1, up2_ne, up2_at, up2_o, up1_ne, up1_at, bI_eq0, bI_eq1, or_true, true_or, and_true, true_and, or_false, false_or, and_false, false_and, not_true_eq_false, not_false_eq_true, if_true, if_false,  decide_true, decide_false, bI_t, bI_f, Nat.add_sub_cancel, Nat.zero_add, Nat.add_zero, Nat.mul_zero, upd_eq, upd_ne]
theorem s_begin49 {p x : Nx} (hp : PI p) {k m v : Nat} (hk : k < p 6 0) (hm : m < 2 ^ 31) : fX1_begin_49 (embP p) (embL x) (nI k) (nI m) (nI v) = some (embL (if k = 0 then up2 (up2 x 3 k (x 8 0 + v + p 0 k)) 5 (m % 20) (x 8 0) else up2 x 3 k (x 8 0 + v + p 0 k))) := by
  have h2 := hp.n
  have h6 : m % 20 < 20 := Nat.mod_lt _ (by omega)
  unfold fX1_begin_49
  by_cases c : k = 0
  · simp (disch := omega) only [↓nm_s, ↓bnd_s, ↓reduceIte, nI_add, pk_mul, nI_subdiv, nI_sub', nI_m1, nI_0m1, nI_clamp, gdi_nI, gdz_nI, nI_div, nrem, nI_ltI, nI_leI, nI_eq, leT, leF, ltT, ltF, eqT, eqF, neT, neF, z0, m1lt0, m1lt, m1le, nI_ne_neg, neg_ne_nI, embP_a, embL_a, embL_up, embL_up1, up2_ne, up2_at, up2_o, up1_ne, up1_at, bI_eq0, bI_eq1, or_true, true_or, and_true, true_and, or_false, false_or, and_false, false_and, not_true_eq_false, not_false_eq_true, if_true, if_false,  decide_true, decide_false, bI_t, bI_f, Nat.add_sub_cancel, Nat.zero_add, Nat.add_zero, Nat.mul_zero, upd_eq, upd_ne]
  · simp (disch := omega) only [↓nm_s, ↓bnd_s, ↓reduceIte, nI_add, pk_mul, nI_subdiv, nI_sub', nI_m1, nI_0m1, nI_clamp, gdi_nI, gdz_nI, nI_div, nrem, nI_ltI, nI_leI, nI_eq, leT, leF, ltT, ltF, eqT, eqF, neT, neF, z0, m1lt0, m1lt, m1le, nI_ne_neg, neg_ne_nI, embP_a, embL_a, embL_up, embL_up1, up2_ne, up2_at, up2_o, up1_ne, up1_at, bI_eq0, bI_eq1, or_true, true_or, and_true, true_and, or_false, false_or, and_false, false_and, not_true_eq_false, not_false_eq_true, if_true, if_false,  decide_true, decide_false, bI_t, bI_f, Nat.add_sub_cancel, Nat.zero_add, Nat.add_zero, Nat.mul_zero, upd_eq, upd_ne]
theorem LI.up1k {p x : Nx} {k v : Nat} (hx : LI p x) (hT : x 8 0 < 2 ^ 30) : 1 ≤ (up2 x 1 k v) 7 0 ∧ (up2 x 1 k v) 7 0 ≤ 5 := by
  rw [up2_ne (by omega)]
  exact hx.f
theorem s_kindOf' {p x : Nx} (hp : PI p) (h1 : 1 ≤ x 7 0 ∧ x 7 0 ≤ 5) {m : Nat} (hm : m < 2 ^ 31) : fX1_kindOf (embP p) (embL x) (nI m) = some (nI (sKind p (x 7 0) m)) := by
  have h2 := hp.pl
  unfold fX1_kindOf sKind
  by_cases h : p 9 0 = 0
  · simp (disch := omega) only [↓nm_s, ↓bnd_s, ↓reduceIte, nI_add, pk_mul, nI_subdiv, nI_sub', nI_m1, nI_0m1, nI_clamp, gdi_nI, gdz_nI, nI_div, nrem, nI_ltI, nI_leI, nI_eq, leT, leF, ltT, ltF, eqT, eqF, neT, neF, z0, m1lt0, m1lt, m1le, nI_ne_neg, neg_ne_nI, embP_a, embL_a, embL_up, embL_up1, up2_ne, up2_at, up2_o, up1_ne, up1_at, bI_eq0, bI_eq1, or_true, true_or, and_true, true_and, or_false, false_or, and_false, false_and, not_true_eq_false, not_false_eq_true, if_true, if_false,  decide_true, decide_false, bI_t, bI_f, Nat.add_sub_cancel, Nat.zero_add, Nat.add_zero, Nat.mul_zero, upd_eq, upd_ne, fX1_kindOf_23]
  · have h3 : m / x 7 0 < 2 ^ 31 := Nat.lt_of_le_of_lt (Nat.div_le_self _ _) hm
    have h4 : m / x 7 0 % p 9 0 < p 9 0 := Nat.mod_lt _ (by omega)
    simp (disch := omega) only [↓nm_s, ↓bnd_s, ↓reduceIte, nI_add, pk_mul, nI_subdiv, nI_sub', nI_m1, nI_0m1, nI_clamp, gdi_nI, gdz_nI, nI_div, nrem, nI_ltI, nI_leI, nI_eq, leT, leF, ltT, ltF, eqT, eqF, neT, neF, z0, m1lt0, m1lt, m1le, nI_ne_neg, neg_ne_nI, embP_a, embL_a, embL_up, embL_up1, up2_ne, up2_at, up2_o, up1_ne, up1_at, bI_eq0, bI_eq1, or_true, true_or, and_true, true_and, or_false, false_or, and_false, false_and, not_true_eq_false, not_false_eq_true, if_true, if_false,  decide_true, decide_false, bI_t, bI_f, Nat.add_sub_cancel, Nat.zero_add, Nat.add_zero, Nat.mul_zero, upd_eq, upd_ne]
theorem sKind_lt {p : Nx} (hp : PI p) (f m : Nat) : sKind p f m < 2 ^ 31 := by
  unfold sKind
  by_cases h : p 9 0 = 0
  · rw [if_pos h]; omega
  · rw [if_neg h]; exact hp.kd _
theorem s_begin {p x : Nx} (hp : PI p) (hx : LI p x) (hT : x 8 0 < 2 ^ 30) {k : Nat} (hk : k < p 6 0) : fX1_begin (embP p) (embL x) (nI k) = some (embL (sBeg p x k)) := by
  have h2 := hp.n
  have h3 := hx.k (k := k) hk
  have h7 := LI.up1k (k := k) (v := x 1 k + 1) hx hT
  have ka := s_kindOf' hp h7 (m := x 1 k - 1) (by omega)
  have kb := s_kindOf' hp h7 (m := x 1 k) (by omega)
  have b4 := fun v => s_begin49 (p := p) (x := up2 x 1 k (x 1 k + 1)) hp (m := x 1 k) (v := v) hk (by omega)
  rw [up2_ne (by omega)] at ka kb
  simp only [up2_ne (show (8 : Nat) ≠ 1 from by omega)] at b4
  have t1 := sKind_lt hp (x 7 0) (x 1 k - 1)
  have t2 := sKind_lt hp (x 7 0) (x 1 k)
  unfold fX1_begin sBeg sSet
  by_cases z : x 1 k = 0
  · by_cases c : k = 0
    · simp (disch := omega) only [↓nm_s, ↓bnd_s, ↓reduceIte, nI_add, pk_mul, nI_subdiv, nI_sub', nI_m1, nI_0m1, nI_clamp, gdi_nI, gdz_nI, nI_div, nrem, nI_ltI, nI_leI, nI_eq, leT, leF, ltT, ltF, eqT, eqF, neT, neF, z0, m1lt0, m1lt, m1le, nI_ne_neg, neg_ne_nI, embP_a, embL_a, embL_up, embL_up1, up2_ne, up2_at, up2_o, up1_ne, up1_at, bI_eq0, bI_eq1, or_true, true_or, and_true, true_and, or_false, false_or, and_false, false_and, not_true_eq_false, not_false_eq_true, if_true, if_false,  decide_true, decide_false, bI_t, bI_f, Nat.add_sub_cancel, Nat.zero_add, Nat.add_zero, Nat.mul_zero, upd_eq, upd_ne, fX1_begin_48, b4]
    · simp (disch := omega) only [↓nm_s, ↓bnd_s, ↓reduceIte, nI_add, pk_mul, nI_subdiv, nI_sub', nI_m1, nI_0m1, nI_clamp, gdi_nI, gdz_nI, nI_div, nrem, nI_ltI, nI_leI, nI_eq, leT, leF, ltT, ltF, eqT, eqF, neT, neF, z0, m1lt0, m1lt, m1le, nI_ne_neg, neg_ne_nI, embP_a, embL_a, embL_up, embL_up1, up2_ne, up2_at, up2_o, up1_ne, up1_at, bI_eq0, bI_eq1, or_true, true_or, and_true, true_and, or_false, false_or, and_false, false_and, not_true_eq_false, not_false_eq_true, if_true, if_false,  decide_true, decide_false, bI_t, bI_f, Nat.add_sub_cancel, Nat.zero_add, Nat.add_zero, Nat.mul_zero, upd_eq, upd_ne, fX1_begin_48, b4]
  · by_cases e : sKind p (x 7 0) (x 1 k - 1) = sKind p (x 7 0) (x 1 k)
    · by_cases c : k = 0
      · simp (disch := omega) only [↓nm_s, ↓bnd_s, ↓reduceIte, nI_add, pk_mul, nI_subdiv, nI_sub', nI_m1, nI_0m1, nI_clamp, gdi_nI, gdz_nI, nI_div, nrem, nI_ltI, nI_leI, nI_eq, leT, leF, ltT, ltF, eqT, eqF, neT, neF, z0, m1lt0, m1lt, m1le, nI_ne_neg, neg_ne_nI, embP_a, embL_a, embL_up, embL_up1, up2_ne, up2_at, up2_o, up1_ne, up1_at, bI_eq0, bI_eq1, or_true, true_or, and_true, true_and, or_false, false_or, and_false, false_and, not_true_eq_false, not_false_eq_true, if_true, if_false,  decide_true, decide_false, bI_t, bI_f, Nat.add_sub_cancel, Nat.zero_add, Nat.add_zero, Nat.mul_zero, upd_eq, upd_ne, fX1_begin_48, b4, ka, kb]
      · simp (disch := omega) only [↓nm_s, ↓bnd_s, ↓reduceIte, nI_add, pk_mul, nI_subdiv, nI_sub', nI_m1, nI_0m1, nI_clamp, gdi_nI, gdz_nI, nI_div, nrem, nI_ltI, nI_leI, nI_eq, leT, leF, ltT, ltF, eqT, eqF, neT, neF, z0, m1lt0, m1lt, m1le, nI_ne_neg, neg_ne_nI, embP_a, embL_a, embL_up, embL_up1, up2_ne, up2_at, up2_o, up1_ne, up1_at, bI_eq0, bI_eq1, or_true, true_or, and_true, true_and, or_false, false_or, and_false, false_and, not_true_eq_false, not_false_eq_true, if_true, if_false,  decide_true, decide_false, bI_t, bI_f, Nat.add_sub_cancel, Nat.zero_add, Nat.add_zero, Nat.mul_zero, upd_eq, upd_ne, fX1_begin_48, b4, ka, kb]
    · by_cases c : k = 0
      · simp (disch := omega) only [↓nm_s, ↓bnd_s, ↓reduceIte, nI_add, pk_mul, nI_subdiv, nI_sub', nI_m1, nI_0m1, nI_clamp, gdi_nI, gdz_nI, nI_div, nrem, nI_ltI, nI_leI, nI_eq, leT, leF, ltT, ltF, eqT, eqF, neT, neF, z0, m1lt0, m1lt, m1le, nI_ne_neg, neg_ne_nI, embP_a, embL_a, embL_up, embL_up1, up2_ne, up2_at, up2_o, up1_ne, up1_at, bI_eq0, bI_eq1, or_true, true_or, and_true, true_and, or_false, false_or, and_false, false_and, not_true_eq_false, not_false_eq_true, if_true, if_false,  decide_true, decide_false, bI_t, bI_f, Nat.add_sub_cancel, Nat.zero_add, Nat.add_zero, Nat.mul_zero, upd_eq, upd_ne, fX1_begin_48, b4, ka, kb]
      · simp (disch := omega) only [↓nm_s, ↓bnd_s, ↓reduceIte, nI_add, pk_mul, nI_subdiv, nI_sub', nI_m1, nI_0m1, nI_clamp, gdi_nI, gdz_nI, nI_div, nrem, nI_ltI, nI_leI, nI_eq, leT, leF, ltT, ltF, eqT, eqF, neT, neF, z0, m1lt0, m1lt, m1le, nI_ne_neg, neg_ne_nI, embP_a, embL_a, embL_up, embL_up1, up2_ne, up2_at, up2_o, up1_ne, up1_at, bI_eq0, bI_eq1, or_true, true_or, and_true, true_and, or_false, false_or, and_false, false_and, not_true_eq_false, not_false_eq_true, if_true, if_false,  decide_true, decide_false, bI_t, bI_f, Nat.add_sub_cancel, Nat.zero_add, Nat.add_zero, Nat.mul_zero, upd_eq, upd_ne, fX1_begin_48, b4, ka, kb]
