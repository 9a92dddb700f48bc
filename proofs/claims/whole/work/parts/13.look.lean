/-! looks: the class's side of the pace -/
def left (x : Nx) (k : Nat) : Nat := if x 1 k = x 2 k then 0 else x 3 k - x 8 0
def place (p x : Nx) : Nat := if p 9 0 * x 7 0 = 0 then 0 else x 1 0 % (p 9 0 * x 7 0)
def bzF (x : Nx) : Nat → Nat → Nat → Nat
  | _, 0, a => a
  | l, d + 1, a => bzF x (l + 1) d (a * 128 + left x l)
def qzF (x : Nx) : Nat → Nat → Nat → Nat
  | _, 0, a => a
  | l, d + 1, a => qzF x (l + 1) d (a * 32 + sWait x l)
def bz (p x : Nx) : Nat := bzF x 0 (p 6 0) (place p x)
def qz (p x : Nx) : Nat := qzF x 0 (p 6 0) 0
theorem left_lt {p x : Nx} (hx : LI p x) {k : Nat} (hk : k < p 6 0) : left x k < 128 := by
  unfold left
  by_cases c : x 1 k = x 2 k
  · rw [if_pos c]; omega
  · rw [if_neg c]
    have := hx.e hk c
    omega
theorem place_lt {p x : Nx} (hp : PI p) (hx : LI p x) : place p x < 1024 := by
  unfold place
  by_cases c : p 9 0 * x 7 0 = 0
  · rw [if_pos c]; omega
  · rw [if_neg c]
    have h1 : p 9 0 * x 7 0 ≤ 120 * 5 := Nat.mul_le_mul hp.pl hx.f.2
    have h2 : x 1 0 % (p 9 0 * x 7 0) < p 9 0 * x 7 0 := Nat.mod_lt _ (by omega)
    omega
theorem pow1 (b : Nat) {d : Nat} (hb : 0 < b) : 1 ≤ b ^ d := Nat.pow_pos hb
theorem bnd128 {a v d M : Nat} (h : (a + 1) * 128 ^ (d + 1) ≤ M) (hv : v < 128) : (a * 128 + v + 1) * 128 ^ d ≤ M ∧ a * 128 < M := by
  have e : (a + 1) * 128 ^ (d + 1) = (a * 128 + 128) * 128 ^ d := by
    rw [Nat.pow_succ, Nat.mul_comm (128 ^ d) 128, ← Nat.mul_assoc]
    congr 1
    omega
  have h1 : (a * 128 + v + 1) * 128 ^ d ≤ (a * 128 + 128) * 128 ^ d := Nat.mul_le_mul_right _ (by omega)
  have h2 : (a * 128 + 128) * 1 ≤ (a * 128 + 128) * 128 ^ d := Nat.mul_le_mul_left _ (pow1 128 (by omega))
  omega
theorem bnd32 {a v d M : Nat} (h : (a + 1) * 32 ^ (d + 1) ≤ M) (hv : v < 32) : (a * 32 + v + 1) * 32 ^ d ≤ M ∧ a * 32 < M := by
  have e : (a + 1) * 32 ^ (d + 1) = (a * 32 + 32) * 32 ^ d := by
    rw [Nat.pow_succ, Nat.mul_comm (32 ^ d) 32, ← Nat.mul_assoc]
    congr 1
    omega
  have h1 : (a * 32 + v + 1) * 32 ^ d ≤ (a * 32 + 32) * 32 ^ d := Nat.mul_le_mul_right _ (by omega)
  have h2 : (a * 32 + 32) * 1 ≤ (a * 32 + 32) * 32 ^ d := Nat.mul_le_mul_left _ (pow1 32 (by omega))
  omega
theorem lN_shl7 {a : Nat} (h : a * 128 < 2 ^ 60) : lN a <<< ((nI 7).toInt64 &&& 63) = lN (a * 128) := by
  apply Int64.toInt_inj.mp
  have h1 : (lN a).toInt = (a : Int) := pk_lT (by omega)
  rw [Jvm.Kit.i64_shl (lN a) _ (k := 7) (by decide) (by rw [h1]; omega) (by rw [h1]; omega), h1, pk_lT (by omega)]
  omega
theorem nI_shl5 {a : Nat} (h : a * 32 < 2 ^ 32) : nI a <<< (nI 5 &&& 31) = nI (a * 32) := pk_shlN _ 5 (by decide) h
theorem s_look15 {p x : Nx} {F : Rc} {FL : RcL} {n N : Nat} (hp : PI p) (hx : LI p x) (hT : x 8 0 < 2 ^ 29) (hn : n < 1500) : ∀ {d l u a b : Nat}, d < u → l + d = p 6 0 → (a + 1) * 128 ^ d ≤ 2 ^ 60 → (b + 1) * 32 ^ d ≤ 2 ^ 31 → itn (fX2_lookAround_15b N) (fun _ _ _ _ _ _ _ _ => none) u (embP p) (embL x) F FL (nI n) (lN a) (nI b) (nI l) = some (va_up (va_up F 2 (upd (F 2) n (nI (qzF x l d b)))) 3 (upd (va_up F 2 (upd (F 2) n (nI (qzF x l d b))) 3) n (nI (x 8 0))), va_up FL 1 (vp_updL (FL 1) n (lN (bzF x l d a))))
  | _, _, 0, _, _, h, _, _, _ => by omega
  | 0, l, u + 1, a, b, _, e, ha, hb => by
    have hn6 := hp.n
    rw [itn_s]
    unfold fX2_lookAround_15b bzF qzF
    simp (disch := omega) only [↓nm_s, ↓bnd_s, ↓reduceIte, nI_add, pk_mul, nI_subdiv, nI_sub', nI_m1, nI_0m1, nI_clamp, gdi_nI, gdz_nI, nI_div, nrem, nI_ltI, nI_leI, nI_eq, leT, leF, ltT, ltF, eqT, eqF, neT, neF, z0, m1lt0, m1lt, m1le, nI_ne_neg, neg_ne_nI, embP_a, embL_a, embL_up, embL_up1, up2_ne, up2_at, up2_o, up1_ne, up1_at, bI_eq0, bI_eq1, or_true, true_or, and_true, true_and, or_false, false_or, and_false, false_and, not_true_eq_false, not_false_eq_true, if_true, if_false,  decide_true, decide_false, bI_t, bI_f, Nat.add_sub_cancel, Nat.zero_add, Nat.add_zero, Nat.mul_zero, upd_eq, upd_ne]
  | d + 1, l, u + 1, a, b, hu, e, ha, hb => by
    have hn6 := hp.n
    have h3 := hx.k (k := l) (by omega)
    have hl := left_lt hx (k := l) (by omega)
    have hw := sWait_20 hp hx (k := l) (by omega)
    have ba := bnd128 ha hl
    have bb := bnd32 hb (show sWait x l < 32 from by omega)
    have g := s_isIdle (x := x) (k := l) (by omega) (by omega) (by omega)
    have w := s_wait hp hx (by omega) (k := l) (by omega)
    have i := s_look15 (F := F) (FL := FL) (N := N) hp hx hT hn (d := d) (l := l + 1) (u := u) (a := a * 128 + left x l) (b := b * 32 + sWait x l) (by omega) (by omega) ba.1 bb.1
    have s1 := lN_shl7 (a := a) (by omega)
    have s2 := nI_shl5 (a := b) (by omega)
    rw [itn_s]
    generalize itn (fX2_lookAround_15b N) (fun _ _ _ _ _ _ _ _ => none) u = K at i ⊢
    unfold fX2_lookAround_15b bzF qzF
    unfold left at hl i ⊢
    by_cases c : x 1 l = x 2 l
    · rw [if_pos c] at i ⊢
      have l1 := nI_l (n := 0) (by omega)
      simp (disch := omega) only [↓nm_s, ↓bnd_s, ↓reduceIte, nI_add, pk_mul, nI_subdiv, nI_sub', nI_m1, nI_0m1, nI_clamp, gdi_nI, gdz_nI, nI_div, nrem, nI_ltI, nI_leI, nI_eq, leT, leF, ltT, ltF, eqT, eqF, neT, neF, z0, m1lt0, m1lt, m1le, nI_ne_neg, neg_ne_nI, embP_a, embL_a, embL_up, embL_up1, up2_ne, up2_at, up2_o, up1_ne, up1_at, bI_eq0, bI_eq1, or_true, true_or, and_true, true_and, or_false, false_or, and_false, false_and, not_true_eq_false, not_false_eq_true, if_true, if_false,  decide_true, decide_false, bI_t, bI_f, Nat.add_sub_cancel, Nat.zero_add, Nat.add_zero, Nat.mul_zero, upd_eq, upd_ne, g]
      unfold fX2_lookAround_64
      simp only [nm_s, w, bnd_s, s1, s2, l1, lN_add, nI_add]
      exact i
    · rw [if_neg c] at i hl ⊢
      have he := hx.e (k := l) (by omega) c
      have l1 := nI_l (n := x 3 l - x 8 0) (by omega)
      simp (disch := omega) only [↓nm_s, ↓bnd_s, ↓reduceIte, nI_add, pk_mul, nI_subdiv, nI_sub', nI_m1, nI_0m1, nI_clamp, gdi_nI, gdz_nI, nI_div, nrem, nI_ltI, nI_leI, nI_eq, leT, leF, ltT, ltF, eqT, eqF, neT, neF, z0, m1lt0, m1lt, m1le, nI_ne_neg, neg_ne_nI, embP_a, embL_a, embL_up, embL_up1, up2_ne, up2_at, up2_o, up1_ne, up1_at, bI_eq0, bI_eq1, or_true, true_or, and_true, true_and, or_false, false_or, and_false, false_and, not_true_eq_false, not_false_eq_true, if_true, if_false,  decide_true, decide_false, bI_t, bI_f, Nat.add_sub_cancel, Nat.zero_add, Nat.add_zero, Nat.mul_zero, upd_eq, upd_ne, g]
      unfold fX2_lookAround_64
      simp only [nm_s, w, bnd_s, s1, s2, l1, lN_add, nI_add]
      exact i
theorem s_place {p x : Nx} (hp : PI p) (hx : LI p x) (hT : x 8 0 < 2 ^ 29) : fX1_placeInRuns (embP p) (embL x) = some (nI (place p x)) := by
  have hn6 := hp.n
  have h3 := hx.k (k := 0) (by omega)
  have h1 : p 9 0 * x 7 0 ≤ 120 * 5 := Nat.mul_le_mul hp.pl hx.f.2
  unfold fX1_placeInRuns place
  by_cases c : p 9 0 * x 7 0 = 0
  · simp (disch := omega) only [↓nm_s, ↓bnd_s, ↓reduceIte, nI_add, pk_mul, nI_subdiv, nI_sub', nI_m1, nI_0m1, nI_clamp, gdi_nI, gdz_nI, nI_div, nrem, nI_ltI, nI_leI, nI_eq, leT, leF, ltT, ltF, eqT, eqF, neT, neF, z0, m1lt0, m1lt, m1le, nI_ne_neg, neg_ne_nI, embP_a, embL_a, embL_up, embL_up1, up2_ne, up2_at, up2_o, up1_ne, up1_at, bI_eq0, bI_eq1, or_true, true_or, and_true, true_and, or_false, false_or, and_false, false_and, not_true_eq_false, not_false_eq_true, if_true, if_false,  decide_true, decide_false, bI_t, bI_f, Nat.add_sub_cancel, Nat.zero_add, Nat.add_zero, Nat.mul_zero, upd_eq, upd_ne]
  · simp (disch := omega) only [↓nm_s, ↓bnd_s, ↓reduceIte, nI_add, pk_mul, nI_subdiv, nI_sub', nI_m1, nI_0m1, nI_clamp, gdi_nI, gdz_nI, nI_div, nrem, nI_ltI, nI_leI, nI_eq, leT, leF, ltT, ltF, eqT, eqF, neT, neF, z0, m1lt0, m1lt, m1le, nI_ne_neg, neg_ne_nI, embP_a, embL_a, embL_up, embL_up1, up2_ne, up2_at, up2_o, up1_ne, up1_at, bI_eq0, bI_eq1, or_true, true_or, and_true, true_and, or_false, false_or, and_false, false_and, not_true_eq_false, not_false_eq_true, if_true, if_false,  decide_true, decide_false, bI_t, bI_f, Nat.add_sub_cancel, Nat.zero_add, Nat.add_zero, Nat.mul_zero, upd_eq, upd_ne]
theorem s_look {p x : Nx} {F : Rc} {FL : RcL} {n N : Nat} (hp : PI p) (hN : 6 < N) (hx : LI p x) (hT : x 8 0 < 2 ^ 29) (hn : n < 1500) : fX2_lookAround N (embP p) (embL x) F FL (nI n) = some (va_up (va_up F 2 (upd (F 2) n (nI (qz p x)))) 3 (upd (F 3) n (nI (x 8 0))), va_up FL 1 (vp_updL (FL 1) n (lN (bz p x)))) := by
  have hn6 := hp.n
  have pl := place_lt hp hx
  have e6 : 128 ^ p 6 0 ≤ 128 ^ 6 := Nat.pow_le_pow_right (by omega) hn6.2
  have e7 : 32 ^ p 6 0 ≤ 32 ^ 6 := Nat.pow_le_pow_right (by omega) hn6.2
  have i := s_look15 (F := F) (FL := FL) (N := N) hp hx hT hn (d := p 6 0) (l := 0) (u := N) (a := place p x) (b := 0) (by omega) (by omega) (Nat.le_trans (Nat.mul_le_mul (show place p x + 1 ≤ 1024 from pl) e6) (by decide)) (Nat.le_trans (Nat.mul_le_mul (Nat.le_refl _) e7) (by decide))
  have pr := s_place hp hx hT
  rw [va_up_ne F _ (show (3 : Nat) ≠ 2 from by omega)] at i
  unfold fX2_lookAround bz qz
  simp only [pr, bnd_s, nm_s, nI_l (show place p x < 2 ^ 31 from by omega)]
  unfold fX2_lookAround_15
  exact i
/-! greatest divisors -/
theorem gcd_step (a b : Nat) : Nat.gcd b (a % b) = Nat.gcd a b := by
  rw [Nat.gcd_comm b, ← Nat.gcd_rec, Nat.gcd_comm]
theorem half {b r : Nat} (h0 : 0 < r) (h : r < b) : 2 * (b % r) < b := by
  have h1 : b % r < r := Nat.mod_lt _ h0
  have h2 : b % r = (b - r) % r := by
    rw [← Nat.mod_eq_sub_mod (by omega)]
  have h3 : (b - r) % r ≤ b - r := Nat.mod_le _ _
  omega
theorem s_gcd7 (N : Nat) : ∀ {j i a b u : Nat}, a < 2 ^ 31 → b < 2 ^ 31 → b < 2 ^ j → i + 2 * j ≤ 63 → 2 * j + 1 < u → itn (fX5_commonDivisor_7b N) (fun _ _ _ => none) u (nI a) (nI b) (nI i) = some (nI (max (Nat.gcd a b) 1))
  | 0, i, a, b, u, ha, hb, h1, h2, hu => by
    have hb0 : b = 0 := by simp at h1; exact h1
    subst hb0
    rw [itn_u _ _ (by omega)]
    unfold fX5_commonDivisor_7b
    rw [Nat.gcd_zero_right]
    by_cases c : a < 1
    · simp (disch := omega) only [↓nm_s, ↓bnd_s, ↓reduceIte, nI_add, pk_mul, nI_subdiv, nI_sub', nI_m1, nI_0m1, nI_clamp, gdi_nI, gdz_nI, nI_div, nrem, nI_ltI, nI_leI, nI_eq, leT, leF, ltT, ltF, eqT, eqF, neT, neF, z0, m1lt0, m1lt, m1le, nI_ne_neg, neg_ne_nI, embP_a, embL_a, embL_up, embL_up1, up2_ne, up2_at, up2_o, up1_ne, up1_at, bI_eq0, bI_eq1, or_true, true_or, and_true, true_and, or_false, false_or, and_false, false_and, not_true_eq_false, not_false_eq_true, if_true, if_false,  decide_true, decide_false, bI_t, bI_f, Nat.add_sub_cancel, Nat.zero_add, Nat.add_zero, Nat.mul_zero, upd_eq, upd_ne, fX5_commonDivisor_34]
      rw [Nat.max_eq_right (by omega)]
    · simp (disch := omega) only [↓nm_s, ↓bnd_s, ↓reduceIte, nI_add, pk_mul, nI_subdiv, nI_sub', nI_m1, nI_0m1, nI_clamp, gdi_nI, gdz_nI, nI_div, nrem, nI_ltI, nI_leI, nI_eq, leT, leF, ltT, ltF, eqT, eqF, neT, neF, z0, m1lt0, m1lt, m1le, nI_ne_neg, neg_ne_nI, embP_a, embL_a, embL_up, embL_up1, up2_ne, up2_at, up2_o, up1_ne, up1_at, bI_eq0, bI_eq1, or_true, true_or, and_true, true_and, or_false, false_or, and_false, false_and, not_true_eq_false, not_false_eq_true, if_true, if_false,  decide_true, decide_false, bI_t, bI_f, Nat.add_sub_cancel, Nat.zero_add, Nat.add_zero, Nat.mul_zero, upd_eq, upd_ne, fX5_commonDivisor_34]
      rw [Nat.max_eq_left (by omega)]
  | j + 1, i, a, b, u, ha, hb, h1, h2, hu => by
    by_cases z : b = 0
    · subst z
      rw [itn_u _ _ (by omega)]
      unfold fX5_commonDivisor_7b
      rw [Nat.gcd_zero_right]
      by_cases c : a < 1
      · simp (disch := omega) only [↓nm_s, ↓bnd_s, ↓reduceIte, nI_add, pk_mul, nI_subdiv, nI_sub', nI_m1, nI_0m1, nI_clamp, gdi_nI, gdz_nI, nI_div, nrem, nI_ltI, nI_leI, nI_eq, leT, leF, ltT, ltF, eqT, eqF, neT, neF, z0, m1lt0, m1lt, m1le, nI_ne_neg, neg_ne_nI, embP_a, embL_a, embL_up, embL_up1, up2_ne, up2_at, up2_o, up1_ne, up1_at, bI_eq0, bI_eq1, or_true, true_or, and_true, true_and, or_false, false_or, and_false, false_and, not_true_eq_false, not_false_eq_true, if_true, if_false,  decide_true, decide_false, bI_t, bI_f, Nat.add_sub_cancel, Nat.zero_add, Nat.add_zero, Nat.mul_zero, upd_eq, upd_ne, fX5_commonDivisor_34]
        rw [Nat.max_eq_right (by omega)]
      · simp (disch := omega) only [↓nm_s, ↓bnd_s, ↓reduceIte, nI_add, pk_mul, nI_subdiv, nI_sub', nI_m1, nI_0m1, nI_clamp, gdi_nI, gdz_nI, nI_div, nrem, nI_ltI, nI_leI, nI_eq, leT, leF, ltT, ltF, eqT, eqF, neT, neF, z0, m1lt0, m1lt, m1le, nI_ne_neg, neg_ne_nI, embP_a, embL_a, embL_up, embL_up1, up2_ne, up2_at, up2_o, up1_ne, up1_at, bI_eq0, bI_eq1, or_true, true_or, and_true, true_and, or_false, false_or, and_false, false_and, not_true_eq_false, not_false_eq_true, if_true, if_false,  decide_true, decide_false, bI_t, bI_f, Nat.add_sub_cancel, Nat.zero_add, Nat.add_zero, Nat.mul_zero, upd_eq, upd_ne, fX5_commonDivisor_34]
        rw [Nat.max_eq_left (by omega)]
    · have hr : a % b < b := Nat.mod_lt _ (by omega)
      have first : itn (fX5_commonDivisor_7b N) (fun _ _ _ => none) u (nI a) (nI b) (nI i) = itn (fX5_commonDivisor_7b N) (fun _ _ _ => none) (u - 1) (nI b) (nI (a % b)) (nI (i + 1)) := by
        rw [itn_u _ _ (by omega)]
        generalize itn (fX5_commonDivisor_7b N) (fun _ _ _ => none) (u - 1) = K
        unfold fX5_commonDivisor_7b
        simp (disch := omega) only [↓nm_s, ↓bnd_s, ↓reduceIte, nI_add, pk_mul, nI_subdiv, nI_sub', nI_m1, nI_0m1, nI_clamp, gdi_nI, gdz_nI, nI_div, nrem, nI_ltI, nI_leI, nI_eq, leT, leF, ltT, ltF, eqT, eqF, neT, neF, z0, m1lt0, m1lt, m1le, nI_ne_neg, neg_ne_nI, embP_a, embL_a, embL_up, embL_up1, up2_ne, up2_at, up2_o, up1_ne, up1_at, bI_eq0, bI_eq1, or_true, true_or, and_true, true_and, or_false, false_or, and_false, false_and, not_true_eq_false, not_false_eq_true, if_true, if_false,  decide_true, decide_false, bI_t, bI_f, Nat.add_sub_cancel, Nat.zero_add, Nat.add_zero, Nat.mul_zero, upd_eq, upd_ne]
      rw [first, ← gcd_step a b]
      by_cases y : a % b = 0
      · rw [y, itn_u _ _ (by omega), Nat.gcd_zero_right]
        unfold fX5_commonDivisor_7b
        simp (disch := omega) only [↓nm_s, ↓bnd_s, ↓reduceIte, nI_add, pk_mul, nI_subdiv, nI_sub', nI_m1, nI_0m1, nI_clamp, gdi_nI, gdz_nI, nI_div, nrem, nI_ltI, nI_leI, nI_eq, leT, leF, ltT, ltF, eqT, eqF, neT, neF, z0, m1lt0, m1lt, m1le, nI_ne_neg, neg_ne_nI, embP_a, embL_a, embL_up, embL_up1, up2_ne, up2_at, up2_o, up1_ne, up1_at, bI_eq0, bI_eq1, or_true, true_or, and_true, true_and, or_false, false_or, and_false, false_and, not_true_eq_false, not_false_eq_true, if_true, if_false,  decide_true, decide_false, bI_t, bI_f, Nat.add_sub_cancel, Nat.zero_add, Nat.add_zero, Nat.mul_zero, upd_eq, upd_ne, fX5_commonDivisor_34]
        rw [Nat.max_eq_left (by omega)]
      · have hh := half (b := b) (r := a % b) (by omega) hr
        have second : itn (fX5_commonDivisor_7b N) (fun _ _ _ => none) (u - 1) (nI b) (nI (a % b)) (nI (i + 1)) = itn (fX5_commonDivisor_7b N) (fun _ _ _ => none) (u - 2) (nI (a % b)) (nI (b % (a % b))) (nI (i + 2)) := by
          rw [itn_u _ _ (by omega), show u - 1 - 1 = u - 2 from by omega]
          generalize itn (fX5_commonDivisor_7b N) (fun _ _ _ => none) (u - 2) = K
          unfold fX5_commonDivisor_7b
          simp (disch := omega) only [↓nm_s, ↓bnd_s, ↓reduceIte, nI_add, pk_mul, nI_subdiv, nI_sub', nI_m1, nI_0m1, nI_clamp, gdi_nI, gdz_nI, nI_div, nrem, nI_ltI, nI_leI, nI_eq, leT, leF, ltT, ltF, eqT, eqF, neT, neF, z0, m1lt0, m1lt, m1le, nI_ne_neg, neg_ne_nI, embP_a, embL_a, embL_up, embL_up1, up2_ne, up2_at, up2_o, up1_ne, up1_at, bI_eq0, bI_eq1, or_true, true_or, and_true, true_and, or_false, false_or, and_false, false_and, not_true_eq_false, not_false_eq_true, if_true, if_false,  decide_true, decide_false, bI_t, bI_f, Nat.add_sub_cancel, Nat.zero_add, Nat.add_zero, Nat.mul_zero, upd_eq, upd_ne]
        rw [second, ← gcd_step b (a % b)]
        have pw : 2 ^ (j + 1) = 2 * 2 ^ j := by rw [Nat.pow_succ, Nat.mul_comm]
        exact s_gcd7 N (j := j) (i := i + 2) (by omega) (by omega) (by omega) (by omega) (by omega)
theorem s_gcd {a b N : Nat} (hN : 100 < N) (ha : a < 2 ^ 31) (hb : b < 2 ^ 25) : fX5_commonDivisor N (nI a) (nI b) = some (nI (max (Nat.gcd a b) 1)) := by
  have i := s_gcd7 N (j := 25) (i := 0) (a := a) (b := b) (u := N) ha (by omega) hb (by omega) (by omega)
  unfold fX5_commonDivisor
  simp (disch := omega) only [↓nm_s, ↓bnd_s, ↓reduceIte, nI_add, pk_mul, nI_subdiv, nI_sub', nI_m1, nI_0m1, nI_clamp, gdi_nI, gdz_nI, nI_div, nrem, nI_ltI, nI_leI, nI_eq, leT, leF, ltT, ltF, eqT, eqF, neT, neF, z0, m1lt0, m1lt, m1le, nI_ne_neg, neg_ne_nI, embP_a, embL_a, embL_up, embL_up1, up2_ne, up2_at, up2_o, up1_ne, up1_at, bI_eq0, bI_eq1, or_true, true_or, and_true, true_and, or_false, false_or, and_false, false_and, not_true_eq_false, not_false_eq_true, if_true, if_false,  decide_true, decide_false, bI_t, bI_f, Nat.add_sub_cancel, Nat.zero_add, Nat.add_zero, Nat.mul_zero, upd_eq, upd_ne, fX5_commonDivisor_7, i]
theorem m_gcdN : ∀ {n a b : Nat}, a < 2 ^ 31 → b < 2 ^ 31 → b < n → fX6_divisorN n (nI a) (nI b) = some (nI (Nat.gcd a b))
  | 0, _, _, _, _, h => by omega
  | n + 1, a, b, ha, hb, h => by
    unfold fX6_divisorN
    by_cases z : b = 0
    · subst z
      rw [Nat.gcd_zero_right]
      simp (disch := omega) only [↓nm_s, ↓bnd_s, ↓reduceIte, nI_add, pk_mul, nI_subdiv, nI_sub', nI_m1, nI_0m1, nI_clamp, gdi_nI, gdz_nI, nI_div, nrem, nI_ltI, nI_leI, nI_eq, leT, leF, ltT, ltF, eqT, eqF, neT, neF, z0, m1lt0, m1lt, m1le, nI_ne_neg, neg_ne_nI, embP_a, embL_a, embL_up, embL_up1, up2_ne, up2_at, up2_o, up1_ne, up1_at, bI_eq0, bI_eq1, or_true, true_or, and_true, true_and, or_false, false_or, and_false, false_and, not_true_eq_false, not_false_eq_true, if_true, if_false,  decide_true, decide_false, bI_t, bI_f, Nat.add_sub_cancel, Nat.zero_add, Nat.add_zero, Nat.mul_zero, upd_eq, upd_ne]
    · have hr : a % b < b := Nat.mod_lt _ (by omega)
      have i := m_gcdN (n := n) (a := b) (b := a % b) hb (by omega) (by omega)
      rw [gcd_step] at i
      simp (disch := omega) only [↓nm_s, ↓bnd_s, ↓reduceIte, nI_add, pk_mul, nI_subdiv, nI_sub', nI_m1, nI_0m1, nI_clamp, gdi_nI, gdz_nI, nI_div, nrem, nI_ltI, nI_leI, nI_eq, leT, leF, ltT, ltF, eqT, eqF, neT, neF, z0, m1lt0, m1lt, m1le, nI_ne_neg, neg_ne_nI, embP_a, embL_a, embL_up, embL_up1, up2_ne, up2_at, up2_o, up1_ne, up1_at, bI_eq0, bI_eq1, or_true, true_or, and_true, true_and, or_false, false_or, and_false, false_and, not_true_eq_false, not_false_eq_true, if_true, if_false,  decide_true, decide_false, bI_t, bI_f, Nat.add_sub_cancel, Nat.zero_add, Nat.add_zero, Nat.mul_zero, upd_eq, upd_ne, i]
theorem m_gcd {a b : Nat} (ha : a < 1500) (hb : b < 2 ^ 31) : fX6_divisor (nI a) (nI b) = some (nI (Nat.gcd a b)) := by
  unfold fX6_divisor
  show fX6_divisorN (1599 + 1) _ _ = _
  unfold fX6_divisorN
  by_cases z : b = 0
  · subst z
    rw [Nat.gcd_zero_right]
    simp (disch := omega) only [↓nm_s, ↓bnd_s, ↓reduceIte, nI_add, pk_mul, nI_subdiv, nI_sub', nI_m1, nI_0m1, nI_clamp, gdi_nI, gdz_nI, nI_div, nrem, nI_ltI, nI_leI, nI_eq, leT, leF, ltT, ltF, eqT, eqF, neT, neF, z0, m1lt0, m1lt, m1le, nI_ne_neg, neg_ne_nI, embP_a, embL_a, embL_up, embL_up1, up2_ne, up2_at, up2_o, up1_ne, up1_at, bI_eq0, bI_eq1, or_true, true_or, and_true, true_and, or_false, false_or, and_false, false_and, not_true_eq_false, not_false_eq_true, if_true, if_false,  decide_true, decide_false, bI_t, bI_f, Nat.add_sub_cancel, Nat.zero_add, Nat.add_zero, Nat.mul_zero, upd_eq, upd_ne]
  · have hr : a % b < b := Nat.mod_lt _ (by omega)
    have hr2 : a % b ≤ a := Nat.mod_le _ _
    have i := m_gcdN (n := 1599) (a := b) (b := a % b) hb (by omega) (by omega)
    rw [gcd_step] at i
    simp (disch := omega) only [↓nm_s, ↓bnd_s, ↓reduceIte, nI_add, pk_mul, nI_subdiv, nI_sub', nI_m1, nI_0m1, nI_clamp, gdi_nI, gdz_nI, nI_div, nrem, nI_ltI, nI_leI, nI_eq, leT, leF, ltT, ltF, eqT, eqF, neT, neF, z0, m1lt0, m1lt, m1le, nI_ne_neg, neg_ne_nI, embP_a, embL_a, embL_up, embL_up1, up2_ne, up2_at, up2_o, up1_ne, up1_at, bI_eq0, bI_eq1, or_true, true_or, and_true, true_and, or_false, false_or, and_false, false_and, not_true_eq_false, not_false_eq_true, if_true, if_false,  decide_true, decide_false, bI_t, bI_f, Nat.add_sub_cancel, Nat.zero_add, Nat.add_zero, Nat.mul_zero, upd_eq, upd_ne, i]
