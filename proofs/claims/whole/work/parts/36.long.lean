/-! longest, least -/
theorem lmul {a b : Nat} (ha : a < 2 ^ 31) (hb : b < 2 ^ 31) : (nI a).toInt64 * (nI b).toInt64 = lN (a * b) := by
  rw [nI_l ha, nI_l hb, lN_mul]
theorem mul62 {a b : Nat} (ha : a < 2 ^ 31) (hb : b < 2 ^ 31) : a * b < 2 ^ 63 := by
  have : a * b ≤ 2 ^ 31 * 2 ^ 31 := Nat.mul_le_mul (by omega) (by omega)
  have e : 2 ^ 31 * 2 ^ 31 = (2 : Nat) ^ 62 := by decide
  have e2 : (2 : Nat) ^ 62 < 2 ^ 63 := by decide
  omega
theorem lcmp {a b c d : Nat} (ha : a < 2 ^ 31) (hb : b < 2 ^ 31) (hc : c < 2 ^ 31) (hd : d < 2 ^ 31) : (lg_cmp ((nI a).toInt64 * (nI b).toInt64) ((nI c).toInt64 * (nI d).toInt64) ≤ 0 ↔ a * b ≤ c * d) ∧ (0 < lg_cmp ((nI a).toInt64 * (nI b).toInt64) ((nI c).toInt64 * (nI d).toInt64) ↔ c * d < a * b) ∧ (lg_cmp ((nI a).toInt64 * (nI b).toInt64) ((nI c).toInt64 * (nI d).toInt64) < 0 ↔ a * b < c * d) := by
  rw [lmul ha hb, lmul hc hd]
  refine ⟨?_, ?_, ?_⟩
  · rw [lg_cmp_le, pk_lLE (mul62 ha hb) (mul62 hc hd)]
  · rw [lg_cmp_gt, pk_lLT (mul62 hc hd) (mul62 ha hb)]
  · rw [lg_cmp_lt, pk_lLT (mul62 ha hb) (mul62 hc hd)]
/-- the best factor so far, in both -/
def Bst (X : Rc) (v a b : Int32) (f : Nat) : Prop := (v = -1 ∧ a = nI 0 ∧ b = nI 1) ∨ ∃ e P T, v = nI e ∧ 1 ≤ e ∧ e < f ∧ f ≤ 6 ∧ a = nI P ∧ b = nI T ∧ X 9 e = nI P ∧ X 10 e = nI T ∧ 1 ≤ P ∧ P ≤ 1500 ∧ 1 ≤ T ∧ T ≤ 18180000
theorem lng {p g x : Nx} {N : Nat} (hp : PI p) (hg : GI p g) (hx : LI p x) (hN : 1600 < N) (hC : ∀ l, l < p 7 0 → 1 ≤ x 4 l ∧ x 4 l ≤ 20) (h7 : x 7 0 = 1) : ∀ {d f u w : Nat} {X J F : Rc} {FL : RcL} {M : Rc} {ML : RcL} {v a b : Int32}, d < u → d < w → f + d = 6 → 1 ≤ f → KN p (x 4) X → RelS p g x (M 11) → Bst X v a b f → ∃ r X' J' F' FL' M' ML', itn (fX5_longest_13b N) (fun _ _ _ _ _ _ _ _ => none) u X (embP p) (embL x) J F FL v (nI f) = some (r, (X', J', F', FL')) ∧ itn (fX6_longest_23b N) (fun _ _ _ _ _ _ => none) w M ML v a b (nI f) = some (r, (M', ML')) ∧ (∀ e, e ≠ 9 → e ≠ 10 → X' e = X e) ∧ KN p (x 4) X' ∧ ∀ e, e ≠ 13 → e ≠ 16 → e ≠ 17 → e ≠ 19 → e ≠ 20 → e ≠ 21 → M' e = M e
  | _, _, 0, _, _, _, _, _, _, _, _, _, _, h, _, _, _, _, _, _ => by omega
  | _, _, _ + 1, 0, _, _, _, _, _, _, _, _, _, _, h, _, _, _, _, _ => by omega
  | 0, f, u + 1, w + 1, X, J, F, FL, M, ML, v, a, b, _, _, e, _, hk, _, _ => by
    refine ⟨v, X, J, F, FL, M, ML, ?_, ?_, fun _ _ _ => rfl, hk, fun _ _ _ _ _ _ _ => rfl⟩
    · rw [itn_s]
      unfold fX5_longest_13b
      rw [if_lt (by omega) (by omega)]
    · rw [itn_s]
      unfold fX6_longest_23b
      rw [if_lt (by omega) (by omega)]
  | d + 1, f, u + 1, w + 1, X, J, F, FL, M, ML, v, a, b, hu, hw, e, hf, hk, S, hB => by
    obtain ⟨X1, J1, F1, FL1, z, l1, l2, l3, l4, l5, l6⟩ := learn (N := N) (X := X) (J := J) (F := F) (FL := FL) hp hN (show 1 ≤ f ∧ f ≤ 5 from by omega) hC hk
    obtain ⟨bb, M1, ML1, e1, e2, e3⟩ := m_longer (N := N) (M := M) (ML := ML) hp hg hx hN (show 1 ≤ f ∧ f ≤ 5 from by omega) hC S h7
    have S1 : RelS p g x (M1 11) := by rw [e2 11 (by omega) (by omega) (by omega) (by omega) (by omega) (by omega)]; exact S
    -- what follows with a best of v', a', b'
    have go : ∀ v' a' b', Bst X1 v' a' b' (f + 1) → ∃ r X' J' F' FL' M' ML', itn (fX5_longest_13b N) (fun _ _ _ _ _ _ _ _ => none) u X1 (embP p) (embL x) J1 F1 FL1 v' (nI (f + 1)) = some (r, (X', J', F', FL')) ∧ itn (fX6_longest_23b N) (fun _ _ _ _ _ _ => none) w M1 ML1 v' a' b' (nI (f + 1)) = some (r, (M', ML')) ∧ (∀ e, e ≠ 9 → e ≠ 10 → X' e = X e) ∧ KN p (x 4) X' ∧ ∀ e, e ≠ 13 → e ≠ 16 → e ≠ 17 → e ≠ 19 → e ≠ 20 → e ≠ 21 → M' e = M e := by
      intro v' a' b' hB'
      obtain ⟨r, X', J', F', FL', M', ML', k1, k2, k3, k4, k5⟩ := lng hp hg hx hN hC h7 (d := d) (f := f + 1) (u := u) (w := w) (X := X1) (J := J1) (F := F1) (FL := FL1) (M := M1) (ML := ML1) (v := v') (a := a') (b := b') (by omega) (by omega) (by omega) (by omega) l3 S1 hB'
      exact ⟨r, X', J', F', FL', M', ML', k1, k2, fun e q1 q2 => (k3 e q1 q2).trans (l2 e q1 q2), k4, fun e q1 q2 q3 q4 q5 q6 => (k5 e q1 q2 q3 q4 q5 q6).trans (e2 e q1 q2 q3 q4 q5 q6)⟩
    have keep : Bst X1 v a b (f + 1) := by
      rcases hB with hB | ⟨e', P, T, q1, q2, q3, q4, q5, q6, q7, q8, q9⟩
      · exact Or.inl hB
      · have := l6 e' (by omega)
        exact Or.inr ⟨e', P, T, q1, q2, by omega, by omega, q5, q6, by rw [this.1]; exact q7, by rw [this.2]; exact q8, q9⟩
    rw [itn_s, itn_s]
    generalize itn (fX5_longest_13b N) (fun _ _ _ _ _ _ _ _ => none) u = K1 at go ⊢
    generalize itn (fX6_longest_23b N) (fun _ _ _ _ _ _ => none) w = K2 at go ⊢
    unfold fX5_longest_13b fX6_longest_23b
    rw [if_nlt (by omega) (by omega), if_nlt (by omega) (by omega), l1, bnd_s, e1, bnd_s]
    dsimp only
    rw [gdi_nI (by omega) (by omega), nI_clamp (by omega)]
    have ee := e3 z
    cases ek : kn p (x 4) f z with
    | none =>
      rw [if_bF (ee.1 ek)]
      rw [if_pos (show X1 9 f ≤ 0 from by rw [l4, ek]; show (-1 : Int32) ≤ 0; decide)]
      unfold fX5_longest_48 fX6_longest_74
      rw [nI_add, nm_s, nm_s]
      exact go _ _ _ keep
    | some o =>
      obtain ⟨P, T, b1, b2, b3, b4, b5, b6, _⟩ := pc_b (k := o.1) (n := o.2) hp (show 1 ≤ f ∧ f ≤ 5 from by omega) hC ek
      have eo := ee.2 o ek
      have n1 : M1 19 0 = nI P := eo.2.1.trans b1
      have n2 : M1 20 0 = nI T := eo.2.2.trans b2
      have x9 : X1 9 f = nI P := by rw [l4, ek]; exact b1
      have x10 : X1 10 f = nI T := by rw [l5, ek]; exact b2
      have new : Bst X1 (nI f) (nI P) (nI T) (f + 1) := Or.inr ⟨f, P, T, rfl, hf, by omega, by omega, rfl, rfl, x9, x10, b3, b4, b5, b6⟩
      rw [if_bT eo.1, if_neg (show ¬ X1 9 f ≤ 0 from by rw [x9]; exact nI_nle (by omega) (by omega))]
      rcases hB with ⟨rfl, rfl, rfl⟩ | ⟨e', Q, U, rfl, q2, q3, q4, rfl, rfl, q7, q8, q9, q10, q11, q12⟩
      · have cm := lcmp (a := P) (b := 1) (c := 0) (d := T) (by omega) (by omega) (by omega) (by omega)
        rw [if_pos (show (-1 : Int32) < nI 1 from by decide), if_pos (show 0 < lg_cmp ((M1 19 0).toInt64 * (nI 1).toInt64) ((nI 0).toInt64 * (M1 20 0).toInt64) from by rw [n1, n2]; exact cm.2.1.mpr (by omega)), n1, n2, nm_s, nm_s, nm_s]
        unfold fX5_longest_46 fX5_longest_48 fX6_longest_74
        rw [nm_s, nI_add, nm_s, nm_s]
        exact go _ _ _ new
      · have o9 : X1 9 e' = nI Q := by rw [(l6 e' (by omega)).1]; exact q7
        have o10 : X1 10 e' = nI U := by rw [(l6 e' (by omega)).2]; exact q8
        have cm := lcmp (a := P) (b := U) (c := Q) (d := T) (by omega) (by omega) (by omega) (by omega)
        rw [if_nlt (by omega) (by omega)]
        unfold fX5_isQuicker
        rw [gdi_nI (by omega) (by omega), gdi_nI (by omega) (by omega), gdi_nI (by omega) (by omega), gdi_nI (by omega) (by omega), nI_clamp (by omega), nI_clamp (by omega), x9, x10, o9, o10]
        by_cases cc : P * U ≤ Q * T
        · rw [if_pos (cm.1.mpr cc), bnd_s, if_e0 rfl, if_neg (show ¬ 0 < lg_cmp ((M1 19 0).toInt64 * (nI U).toInt64) ((nI Q).toInt64 * (M1 20 0).toInt64) from by rw [n1, n2]; exact fun y => by have := cm.2.1.mp y; omega)]
          unfold fX5_longest_48 fX6_longest_74
          rw [nI_add, nm_s, nm_s]
          exact go _ _ _ keep
        · rw [if_neg (fun y => cc (cm.1.mp y)), bnd_s, if_n0 (by omega) (by omega), if_pos (show 0 < lg_cmp ((M1 19 0).toInt64 * (nI U).toInt64) ((nI Q).toInt64 * (M1 20 0).toInt64) from by rw [n1, n2]; exact cm.2.1.mpr (by omega)), n1, n2, nm_s, nm_s, nm_s]
          unfold fX5_longest_46 fX5_longest_48 fX6_longest_74
          rw [nm_s, nI_add, nm_s, nm_s]
          exact go _ _ _ new
theorem SP15_ok {N : Nat} (hN : 100000 < N) : SP15 N Rel := by
  intro c FL M ML h _
  have h1 := Rel_0 (v := fun _ => nI 0) h
  unfold fX6_longest
  rw [nm_s]
  generalize va_up M 0 (fun _ => nI 0) = M1 at h1 ⊢
  obtain ⟨p, p1, b6, b7, s1, s14, hw⟩ := Rel_base h1
  have same : Rel (va_up (va_up (va_up c 0 (c 0)) 2 (c 2)) 6 (c 6)) FL M1 ML := Rel_mv (fun a q1 q2 => by
    rw [va_up_ne _ _ q2, va_up_ne _ _ q1]
    by_cases e : a = 0
    · rw [e, va_up_self]
    · rw [va_up_ne _ _ e]) (fun _ _ => rfl) h1
  unfold fX5_longest
  rw [p1]
  rcases hw with z | ⟨g, x, w⟩
  · rw [empty_T z.1, there_F z.2.2, bnd_s, bnd_s, if_n0 (by omega) (by omega), if_e0 rfl]
    exact ⟨_, _, rfl, rfl, rfl, same⟩
  · obtain ⟨w1, w2, w3, w4, w5, w6⟩ := id w
    have S := w4.2.2.2.1
    have hx := w4.1.1
    obtain ⟨r, X', J', F', FL', M', ML', k1, k2, k3, k4, k5⟩ := lng w1 w2 hx (N := N) (by omega) (Wk_C w) w4.2.1 (d := 5) (f := 1) (u := N) (w := N) (X := c 0) (J := c 2) (F := c 6) (FL := FL) (M := M1) (ML := ML) (v := -1) (a := nI 0) (b := nI 1) (by omega) (by omega) (by omega) (by omega) w6 S (Or.inl ⟨rfl, rfl, rfl⟩)
    have fin : Rel (va_up (va_up (va_up c 0 X') 2 J') 6 F') FL' M' ML' := Rel_kn h1 p1 w (fun a _ q2 q3 => k3 a q2 q3) k4 (fun a ha => k5 a (by omega) (by omega) (by omega) (by omega) (by omega) (by omega))
    rw [empty_F w1, there_T S.1.1.1, bnd_s, bnd_s, if_e0 rfl, if_n0 (by omega) (by omega), w3, nm_s, nm_s, nm_s, nm_s, nm_s, nm_s]
    unfold fX5_longest_13 fX6_longest_23
    rw [k1, k2]
    exact ⟨_, _, rfl, rfl, rfl, fin⟩
/-! least -/
theorem c_rcB {p : Nx} (hp : PI p) {X : Rc} {C : Nat → Nat} {r : Nat} (hX : ∀ i, i < 5 → X 6 i = nI (C i)) (hr : r < p 7 0 + p 6 0) : fX5_ringCardsb X (embP p) (nI r) = some (nI (rgC p C r)) := by
  have hn := hp.n
  have hq := hp.q
  unfold fX5_ringCardsb rgC
  rw [embP_a]
  by_cases c : r < p 7 0
  · rw [if_nle (by omega) (by omega), gdi_nI (by omega) (by omega), nI_clamp (by omega), hX r (by omega), if_pos c]
  · rw [if_le (by omega) (by omega), if_neg c]
theorem rgC_bC {p : Nx} {C : Nat → Nat} (hC : ∀ l, l < p 7 0 → 1 ≤ C l ∧ C l ≤ 20) {r : Nat} : 1 ≤ rgC p C r ∧ rgC p C r ≤ 20 := by
  unfold rgC
  by_cases c : r < p 7 0
  · rw [if_pos c]; exact hC r c
  · rw [if_neg c]; omega
theorem c_forb {p : Nx} (hp : PI p) {X : Rc} {C : Nat → Nat} {N n m : Nat} (hN : 100 < N) (hX : ∀ i, i < 5 → X 6 i = nI (C i)) (hC : ∀ l, l < p 7 0 → 1 ≤ C l ∧ C l ≤ 20) (hn : n ≤ 99) (hm : m ≤ 99) : ∀ {d r u : Nat}, d < u → r + d = p 7 0 + p 6 0 → ∃ b, itn (fX5_isForbidden_3b N) (fun _ _ _ _ _ => none) u X (embP p) (nI n) (nI m) (nI r) = some (bI b) ∧ (b = true → ∃ r, r < p 7 0 + p 6 0 ∧ m * rgC p C r < n * rgM p r)
  | _, _, 0, h, _ => by omega
  | 0, r, u + 1, _, e => by
    have h1 := hp.n
    have h2 := hp.q
    refine ⟨false, ?_, fun z => by cases z⟩
    rw [itn_s]
    unfold fX5_isForbidden_3b
    rw [embP_a, embP_a, nI_add, if_le (by omega) (by omega)]
    rfl
  | d + 1, r, u + 1, hu, e => by
    have h1 := hp.n
    have h2 := hp.q
    have m1 := rg_b hp (r := r) (by omega)
    have c1 := rgC_bC (p := p) hC (r := r)
    have q1 : n * rgM p r ≤ 99 * 360 := Nat.mul_le_mul hn m1.2.2
    have q2 : m * rgC p C r ≤ 99 * 20 := Nat.mul_le_mul hm c1.2
    obtain ⟨b, i1, i2⟩ := c_forb hp hN hX hC hn hm (d := d) (r := r + 1) (u := u) (by omega) (by omega)
    rw [itn_s]
    generalize itn (fX5_isForbidden_3b N) (fun _ _ _ _ _ => none) u = K at i1 ⊢
    unfold fX5_isForbidden_3b
    rw [embP_a, embP_a, nI_add, if_nle (by omega) (by omega), c_rm hp hN (by omega), bnd_s, c_rcB hp hX (by omega), bnd_s, pk_mul, pk_mul]
    by_cases c : n * rgM p r ≤ m * rgC p C r
    · rw [if_le c (by omega), nI_add, nm_s]
      exact ⟨b, i1, i2⟩
    · rw [if_nle (by omega) (by omega)]
      exact ⟨true, rfl, fun _ => ⟨r, by omega, by omega⟩⟩
theorem c_reach {p : Nx} (hp : PI p) {X J F : Rc} {FL : RcL} {C : Nat → Nat} {N n m : Nat} (hN : 1600 < N) (hX : ∀ i, i < 5 → X 6 i = nI (C i)) (hC : ∀ l, l < p 7 0 → 1 ≤ C l ∧ C l ≤ 20) (hn : 1 ≤ n ∧ n ≤ 99) (hm : 1 ≤ m ∧ m ≤ 99) : ∃ b J' F' FL' z, fX5_reaches N X (embP p) J F FL (nI n) (nI m) = some (bI b, (J', F', FL')) ∧ (kn p C 1 z = none → b = false) ∧ ∀ o, kn p C 1 z = some o → ∃ P T, pcP p (sRound p (sClr z C 1)) (some o) = nI P ∧ pcM p (sRound p (sClr z C 1)) (some o) = nI T ∧ 1 ≤ P ∧ P ≤ 1500 ∧ 1 ≤ T ∧ T ≤ 18180000 ∧ (b = true ↔ n * T ≤ P * m) := by
  have h1 := hp.n
  have h2 := hp.q
  obtain ⟨fb, f1, f2⟩ := c_forb hp (N := N) (by omega) hX hC hn.2 hm.2 (d := p 7 0 + p 6 0) (r := 0) (u := N) (by omega) (by omega)
  have ff : fX5_isForbidden N X (embP p) (nI n) (nI m) = some (bI fb) := by
    unfold fX5_isForbidden
    rw [nm_s]
    exact f1
  unfold fX5_reaches fX5_reaches_61
  rw [ff, bnd_s]
  cases fb with
  | true =>
    obtain ⟨r, r1, r2⟩ := f2 rfl
    rw [if_bT rfl]
    refine ⟨false, J, F, FL, fun _ _ => 0, rfl, fun _ => rfl, fun o ho => ?_⟩
    obtain ⟨P, T, b1, b2, b3, b4, b5, b6, b7⟩ := pc_b (k := o.1) (n := o.2) hp (by omega) hC ho
    refine ⟨P, T, b1, b2, b3, b4, b5, b6, fun z => (by cases z), fun z => absurd z (forbid (b7 r r1) (by omega) r2)⟩
  | false =>
    obtain ⟨j, rfl⟩ := embL_all J
    obtain ⟨y, G, GL, s1, s2, s3⟩ := s_search (x := j) (C := C) (D := X 6) (f := 1) hp hN (by omega) hC hX F FL
    rw [if_bF rfl, s1, bnd_s]
    dsimp only
    cases ek : kn p C 1 j with
    | none =>
      rw [show paceAt p (sRound p (sClr j C 1)) 1500 0 = none from ek] at s2
      rw [if_pos (show G 6 0 ≤ 0 from by rw [s2]; show (-1 : Int32) ≤ 0; decide)]
      exact ⟨false, _, _, _, j, rfl, fun _ => rfl, fun o ho => by rw [ek] at ho; cases ho⟩
    | some o =>
      obtain ⟨P, T, b1, b2, b3, b4, b5, b6, b7⟩ := pc_b (k := o.1) (n := o.2) hp (by omega) hC ek
      rw [show paceAt p (sRound p (sClr j C 1)) 1500 0 = some o from ek] at s2 s3
      have g6 : G 6 0 = nI P := s2.trans b1
      have g7 : G 7 0 = nI T := s3.trans b2
      rw [if_neg (show ¬ G 6 0 ≤ 0 from by rw [g6]; exact nI_nle (by omega) (by omega))]
      have cm := lcmp (a := P) (b := m) (c := n) (d := T) (by omega) (by omega) (by omega) (by omega)
      by_cases cc : P * m < n * T
      · rw [if_pos (show lg_cmp ((G 6 0).toInt64 * (nI m).toInt64) ((nI n).toInt64 * (G 7 0).toInt64) < 0 from by rw [g6, g7]; exact cm.2.2.mpr cc)]
        refine ⟨false, _, _, _, j, rfl, fun _ => rfl, fun o' ho' => ?_⟩
        rw [ek] at ho'
        cases ho'
        exact ⟨P, T, b1, b2, b3, b4, b5, b6, fun z => (by cases z), fun z => by omega⟩
      · rw [if_neg (show ¬ lg_cmp ((G 6 0).toInt64 * (nI m).toInt64) ((nI n).toInt64 * (G 7 0).toInt64) < 0 from by rw [g6, g7]; exact fun z => cc (cm.2.2.mp z))]
        refine ⟨true, _, _, _, j, rfl, fun z => (by rw [ek] at z; cases z), fun o' ho' => ?_⟩
        rw [ek] at ho'
        cases ho'
        exact ⟨P, T, b1, b2, b3, b4, b5, b6, fun _ => (by omega), fun _ => rfl⟩
def setC (C : Nat → Nat) (l k : Nat) : Nat → Nat := fun i => if i = l then k else C i
theorem lst_loop {p g x : Nx} {N l n m : Nat} (hp : PI p) (hg : GI p g) (hx : LI p x) (hN : 1600 < N) (hl : l < p 7 0) (hn : 1 ≤ n ∧ n ≤ 99) (hm : 1 ≤ m ∧ m ≤ 99) (h7 : x 7 0 = 1) : ∀ {d k u w : Nat} {X J F : Rc} {FL : RcL} {M : Rc} {ML : RcL}, d < u → d < w → k + d = 21 → 1 ≤ k → RelS p g x (M 11) → (∀ i, i < 5 → i ≠ l → X 6 i = nI (x 4 i)) → ∃ r X' J' F' FL' M' ML', itn (fX5_least_38b N) (fun _ _ _ _ _ _ _ _ _ _ => none) u X (embP p) (embL x) J F FL (nI l) (nI n) (nI m) (nI k) = some (r, (X', J', F', FL')) ∧ itn (fX6_least_38b N) (fun _ _ _ _ _ _ => none) w M ML (nI l) (nI n) (nI m) (nI k) = some (r, (M', ML')) ∧ (∀ e, e ≠ 6 → X' e = X e) ∧ ∀ e, e ≠ 13 → e ≠ 16 → e ≠ 17 → e ≠ 19 → e ≠ 20 → e ≠ 21 → M' e = M e
  | _, _, 0, _, _, _, _, _, _, _, h, _, _, _, _, _ => by omega
  | _, _, _ + 1, 0, _, _, _, _, _, _, _, h, _, _, _, _ => by omega
  | 0, k, u + 1, w + 1, X, J, F, FL, M, ML, _, _, e, _, _, _ => by
    refine ⟨-2, X, J, F, FL, M, ML, ?_, ?_, fun _ _ => rfl, fun _ _ _ _ _ _ _ => rfl⟩
    · rw [itn_s]
      unfold fX5_least_38b
      rw [if_lt (by omega) (by omega)]
    · rw [itn_s]
      unfold fX6_least_38b
      rw [if_lt (by omega) (by omega)]
  | d + 1, k, u + 1, w + 1, X, J, F, FL, M, ML, hu, hw, e, hk, S, hX => by
    have hq := hp.q
    have hC : ∀ i, i < p 7 0 → 1 ≤ setC (x 4) l k i ∧ setC (x 4) l k i ≤ 20 := by
      intro i hi
      have := hx.l hi
      unfold setC
      by_cases c : i = l
      · rw [if_pos c]; omega
      · rw [if_neg c]; omega
    generalize hX1 : va_up X 6 (upd (X 6) l (nI k)) = X1
    have x6 : ∀ i, i < 5 → X1 6 i = nI (setC (x 4) l k i) := by
      intro i hi
      rw [← hX1, va_up_self]
      unfold setC
      by_cases c : i = l
      · rw [upd_eq c, if_pos c]
      · rw [upd_ne c, if_neg c, hX i hi c]
    have xo : ∀ e, e ≠ 6 → X1 e = X e := fun e he => by rw [← hX1, va_up_ne _ _ he]
    obtain ⟨b, J1, F1, FL1, z, r1, r2, r3⟩ := c_reach hp (X := X1) (J := J) (F := F) (FL := FL) (N := N) hN x6 hC hn hm
    obtain ⟨V, v1, v2⟩ := copy_now (M := M) (N := N) (by omega) hp hg hx S
    have st := v2.1
    rw [h7] at st
    have st2 : Stat p g (setC (x 4) l k) 1 (upd V (15 + 4 * l + 2) (nI k)) := by
      have hn6 := hp.n
      have h8 := hg.1
      refine ⟨⟨?_, ?_, ?_, ?_⟩, fun j hj => ?_, fun i hi => ?_, fun r hr => ?_⟩
      · rw [upd_ne (by omega)]; exact st.1.1
      · rw [upd_ne (by omega)]; exact st.1.2.1
      · rw [upd_ne (by omega)]; exact st.1.2.2.1
      · rw [upd_ne (by omega)]; exact st.1.2.2.2
      · rw [upd_ne (by omega), upd_ne (by omega)]; exact st.2.1 j hj
      · have q := st.2.2.1 i hi
        unfold setC
        by_cases c : i = l
        · subst c
          rw [upd_ne (by omega), upd_ne (by omega), upd_eq rfl, if_pos rfl]
          exact ⟨q.1, q.2.1, rfl⟩
        · rw [upd_ne (by omega), upd_ne (by omega), upd_ne (by omega), if_neg c]
          exact q
      · rw [upd_ne (by omega), upd_ne (by omega)]; exact st.2.2.2 r hr
    obtain ⟨bb, M1, ML1, e1, e2, e3⟩ := m_laysA (f := 1) (N := N) (M := va_up (va_up M 13 V) 13 (upd V (15 + 4 * l + 2) (nI k))) (ML := ML) hp hg hN (by omega) hC (by rw [va_up_self]; exact st2)
    have mo : ∀ e, e ≠ 13 → e ≠ 16 → e ≠ 17 → e ≠ 19 → e ≠ 20 → e ≠ 21 → M1 e = M e := fun e q1 q2 q3 q4 q5 q6 => by rw [e2 e q1 q2 q3 q4 q5 q6, va_up_ne _ _ q1, va_up_ne _ _ q1]
    have S1 : RelS p g x (M1 11) := by rw [mo 11 (by omega) (by omega) (by omega) (by omega) (by omega) (by omega)]; exact S
    have cst : fX5_least_38b N (itn (fX5_least_38b N) (fun _ _ _ _ _ _ _ _ _ _ => none) u) X (embP p) (embL x) J F FL (nI l) (nI n) (nI m) (nI k) = if bI b = 0 then itn (fX5_least_38b N) (fun _ _ _ _ _ _ _ _ _ _ => none) u X1 (embP p) (embL x) J1 F1 FL1 (nI l) (nI n) (nI m) (nI (k + 1)) else some (nI k, (X1, J1, F1, FL1)) := by
      generalize itn (fX5_least_38b N) (fun _ _ _ _ _ _ _ _ _ _ => none) u = K
      unfold fX5_least_38b
      rw [if_nlt (by omega) (by omega), gdi_nI (by omega) (by omega), nI_clamp (by omega), hX1, nm_s, r1, bnd_s]
      dsimp only
      rw [nI_add, nm_s]
    have mst : fX6_least_38b N (itn (fX6_least_38b N) (fun _ _ _ _ _ _ => none) w) M ML (nI l) (nI n) (nI m) (nI k) = if bI bb = 0 then itn (fX6_least_38b N) (fun _ _ _ _ _ _ => none) w M1 ML1 (nI l) (nI n) (nI m) (nI (k + 1)) else if M1 19 0 * nI m < nI n * M1 20 0 then itn (fX6_least_38b N) (fun _ _ _ _ _ _ => none) w M1 ML1 (nI l) (nI n) (nI m) (nI (k + 1)) else some (nI k, (M1, ML1)) := by
      generalize itn (fX6_least_38b N) (fun _ _ _ _ _ _ => none) w = K
      unfold fX6_least_38b fX6_least_98
      rw [if_nlt (by omega) (by omega), v1, bnd_s, nm_s, pk_mul, nI_add, nI_add, gdi_nI (by omega) (by omega), nI_clamp (by omega), va_up_self, nm_s, e1, bnd_s]
      dsimp only
      rw [nI_add, nm_s]
    have go : ∃ r X' J' F' FL' M' ML', itn (fX5_least_38b N) (fun _ _ _ _ _ _ _ _ _ _ => none) u X1 (embP p) (embL x) J1 F1 FL1 (nI l) (nI n) (nI m) (nI (k + 1)) = some (r, (X', J', F', FL')) ∧ itn (fX6_least_38b N) (fun _ _ _ _ _ _ => none) w M1 ML1 (nI l) (nI n) (nI m) (nI (k + 1)) = some (r, (M', ML')) ∧ (∀ e, e ≠ 6 → X' e = X e) ∧ ∀ e, e ≠ 13 → e ≠ 16 → e ≠ 17 → e ≠ 19 → e ≠ 20 → e ≠ 21 → M' e = M e := by
      obtain ⟨r, X', J', F', FL', M', ML', k1, k2, k3, k4⟩ := lst_loop hp hg hx hN hl hn hm h7 (d := d) (k := k + 1) (u := u) (w := w) (X := X1) (J := J1) (F := F1) (FL := FL1) (M := M1) (ML := ML1) (by omega) (by omega) (by omega) (by omega) S1 (fun i hi hne => by rw [x6 i hi]; unfold setC; rw [if_neg hne])
      exact ⟨r, X', J', F', FL', M', ML', k1, k2, fun e he => (k3 e he).trans (xo e he), fun e q1 q2 q3 q4 q5 q6 => (k4 e q1 q2 q3 q4 q5 q6).trans (mo e q1 q2 q3 q4 q5 q6)⟩
    rw [itn_s, itn_s, cst, mst]
    have ee := e3 z
    cases ek : kn p (setC (x 4) l k) 1 z with
    | none =>
      rw [if_bF (r2 ek), if_bF (ee.1 ek)]
      exact go
    | some o =>
      obtain ⟨P, T, b1, b2, b3, b4, b5, b6, b7⟩ := r3 o ek
      have eo := ee.2 o ek
      have pm : P * m ≤ 1500 * 99 := Nat.mul_le_mul b4 hm.2
      have nt : n * T ≤ 99 * 18180000 := Nat.mul_le_mul hn.2 b6
      rw [if_bT eo.1]
      by_cases cc : n * T ≤ P * m
      · rw [if_bT (b7.mpr cc), if_neg (show ¬ M1 19 0 * nI m < nI n * M1 20 0 from by rw [eo.2.1.trans b1, eo.2.2.trans b2, pk_mul, pk_mul, nI_ltI (by omega) (by omega)]; omega)]
        exact ⟨nI k, X1, J1, F1, FL1, M1, ML1, rfl, rfl, xo, mo⟩
      · rw [if_bF (Bool.eq_false_iff.mpr (fun z => cc (b7.mp z))), if_pos (show M1 19 0 * nI m < nI n * M1 20 0 from by rw [eo.2.1.trans b1, eo.2.2.trans b2, pk_mul, pk_mul, nI_ltI (by omega) (by omega)]; omega)]
        exact go
theorem SP13_ok {N : Nat} (hN : 100000 < N) : SP13 N Rel := by
  intro c FL M ML h a1 a2 a3
  have h1 := Rel_0 (v := fun _ => nI 0) h
  unfold fX6_least
  rw [nm_s]
  generalize va_up M 0 (fun _ => nI 0) = M1 at h1 ⊢
  obtain ⟨p, p1, b6, b7, s1, s14, hw⟩ := Rel_base h1
  have same : Rel (va_up (va_up (va_up c 0 (c 0)) 2 (c 2)) 6 (c 6)) FL M1 ML := Rel_mv (fun a q1 q2 => by
    rw [va_up_ne _ _ q2, va_up_ne _ _ q1]
    by_cases e : a = 0
    · rw [e, va_up_self]
    · rw [va_up_ne _ _ e]) (fun _ _ => rfl) h1
  unfold fX5_least fX5_least_16 fX6_least_33
  rw [p1]
  rcases both_lp (ML := ML) (X := c 0) (x := a1) b7 s14 with ⟨l, hl, rfl, e1, e2⟩ | ⟨e1, e2⟩
  · rcases hw with z | ⟨g, x, w⟩
    · omega
    obtain ⟨w1, w2, w3, w4, w5, w6⟩ := id w
    have S := w4.2.2.2.1
    have hx := w4.1.1
    rw [e1, e2, bnd_s, bnd_s, if_n0 (by omega) (by omega), if_n0 (by omega) (by omega), w3]
    rcases prom (x := a2) (y := a3) with ⟨n, m, n1, n2, m1, m2, rfl, rfl, q1, q2, q3⟩ | ⟨q1, q2⟩
    · generalize hX1 : va_up (c 0) 6 (va_cpy (embL x 4) (c 0 6) 0 0 5) = X1
      have x6 : ∀ i, i < 5 → i ≠ l → X1 6 i = nI (x 4 i) := by
        intro i hi _
        rw [← hX1, va_up_self, pk_cpy_in (by omega) (by omega), show 0 + (i - 0) = i from by omega, embL_a (by omega)]
      obtain ⟨r, X', J', F', FL', M', ML', k1, k2, k3, k4⟩ := lst_loop w1 w2 hx (N := N) (by omega) hl ⟨n1, n2⟩ ⟨m1, m2⟩ w4.2.1 (d := 20) (k := 1) (u := N) (w := N) (X := X1) (J := c 2) (F := c 6) (FL := FL) (M := M1) (ML := ML) (by omega) (by omega) (by omega) (by omega) S x6
      have xo : ∀ a, a ≠ 6 → X' a = c 0 a := fun a ha => by rw [k3 a ha, ← hX1, va_up_ne _ _ ha]
      have kk : KN p (x 4) X' := by
        intro f f1 f2
        rw [xo 9 (by omega), xo 10 (by omega)]
        exact w6 f f1 f2
      have fin : Rel (va_up (va_up (va_up c 0 X') 2 J') 6 F') FL' M' ML' := Rel_kn h1 p1 w (fun a q1 _ _ => xo a q1) kk (fun a ha => k4 a (by omega) (by omega) (by omega) (by omega) (by omega) (by omega))
      rw [q1, q2, q3, bnd_s, bnd_s, bnd_s, if_n0 (by omega) (by omega), if_n0 (by omega) (by omega), if_n0 (by omega) (by omega), nm_s, nm_s, nm_s]
      unfold fX5_least_38 fX6_least_38
      rw [k1, k2]
      exact ⟨_, _, rfl, rfl, rfl, fin⟩
    · rw [q1, bnd_s, if_e0 rfl]
      rcases q2 with q2 | ⟨q2, q3⟩
      · rw [q2, bnd_s, if_e0 rfl]; exact ⟨_, _, rfl, rfl, rfl, same⟩
      · rw [q2, q3, bnd_s, bnd_s, if_n0 (by omega) (by omega), if_e0 rfl]; exact ⟨_, _, rfl, rfl, rfl, same⟩
  · rw [e1, e2, bnd_s, bnd_s, if_e0 rfl, if_e0 rfl]
    exact ⟨_, _, rfl, rfl, rfl, same⟩
