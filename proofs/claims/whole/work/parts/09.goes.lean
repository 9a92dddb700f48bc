/-! the model: whoever is through goes on -/
theorem m_its {S : Nat → Int32} {k c : Nat} (h : 53 + 9 * k + c < 353) : fX6_its S (nI k) (nI c) = some (S (53 + 9 * k + c)) := by
  unfold fX6_its
  simp (disch := omega) only [↓nm_s, ↓bnd_s, ↓reduceIte, nI_add, pk_mul, nI_subdiv, nI_sub', nI_m1, nI_0m1, nI_clamp, gdi_nI, gdz_nI, nI_div, nrem, nI_ltI, nI_leI, nI_eq, leT, leF, ltT, ltF, eqT, eqF, neT, neF, z0, m1lt0, m1lt, m1le, nI_ne_neg, neg_ne_nI, embP_a, embL_a, embL_up, embL_up1, up2_ne, up2_at, up2_o, up1_ne, up1_at, bI_eq0, bI_eq1, or_true, true_or, and_true, true_and, or_false, false_or, and_false, false_and, not_true_eq_false, not_false_eq_true, if_true, if_false,  decide_true, decide_false, bI_t, bI_f, Nat.add_sub_cancel, Nat.zero_add, Nat.add_zero, Nat.mul_zero, upd_eq, upd_ne]
theorem m_idle {p x : Nx} {S : Nat → Int32} {k : Nat} (hp : PI p) (hk : k < p 6 0) (h : Dst p x S k) : fX6_isIdle S (nI k) = some (bI (decide (x 1 k = x 2 k))) := by
  have hn := hp.n
  have e := m_its (S := S) (k := k) (c := 0) (by omega)
  have h1 := h.1
  have t := sKind_lt hp (x 7 0) (x 1 k - 1)
  unfold fX6_isIdle
  by_cases c : x 1 k = x 2 k
  · rw [if_pos c] at h1
    simp (disch := omega) only [↓nm_s, ↓bnd_s, ↓reduceIte, nI_add, pk_mul, nI_subdiv, nI_sub', nI_m1, nI_0m1, nI_clamp, gdi_nI, gdz_nI, nI_div, nrem, nI_ltI, nI_leI, nI_eq, leT, leF, ltT, ltF, eqT, eqF, neT, neF, z0, m1lt0, m1lt, m1le, nI_ne_neg, neg_ne_nI, embP_a, embL_a, embL_up, embL_up1, up2_ne, up2_at, up2_o, up1_ne, up1_at, bI_eq0, bI_eq1, or_true, true_or, and_true, true_and, or_false, false_or, and_false, false_and, not_true_eq_false, not_false_eq_true, if_true, if_false,  decide_true, decide_false, bI_t, bI_f, Nat.add_sub_cancel, Nat.zero_add, Nat.add_zero, Nat.mul_zero, upd_eq, upd_ne, e, h1]
  · rw [if_neg c] at h1
    simp (disch := omega) only [↓nm_s, ↓bnd_s, ↓reduceIte, nI_add, pk_mul, nI_subdiv, nI_sub', nI_m1, nI_0m1, nI_clamp, gdi_nI, gdz_nI, nI_div, nrem, nI_ltI, nI_leI, nI_eq, leT, leF, ltT, ltF, eqT, eqF, neT, neF, z0, m1lt0, m1lt, m1le, nI_ne_neg, neg_ne_nI, embP_a, embL_a, embL_up, embL_up1, up2_ne, up2_at, up2_o, up1_ne, up1_at, bI_eq0, bI_eq1, or_true, true_or, and_true, true_and, or_false, false_or, and_false, false_and, not_true_eq_false, not_false_eq_true, if_true, if_false,  decide_true, decide_false, bI_t, bI_f, Nat.add_sub_cancel, Nat.zero_add, Nat.add_zero, Nat.mul_zero, upd_eq, upd_ne, e, h1]
theorem m_wait {p x : Nx} {S : Nat → Int32} {k : Nat} (hp : PI p) (hk : k < p 6 0) (h : Dst p x S k) : fX6_waiting S (nI k) = some (nI (sWait x k)) := by
  have hn := hp.n
  have h1 := h.2.2.2.1
  unfold fX6_waiting
  simp (disch := omega) only [↓nm_s, ↓bnd_s, ↓reduceIte, nI_add, pk_mul, nI_subdiv, nI_sub', nI_m1, nI_0m1, nI_clamp, gdi_nI, gdz_nI, nI_div, nrem, nI_ltI, nI_leI, nI_eq, leT, leF, ltT, ltF, eqT, eqF, neT, neF, z0, m1lt0, m1lt, m1le, nI_ne_neg, neg_ne_nI, embP_a, embL_a, embL_up, embL_up1, up2_ne, up2_at, up2_o, up1_ne, up1_at, bI_eq0, bI_eq1, or_true, true_or, and_true, true_and, or_false, false_or, and_false, false_and, not_true_eq_false, not_false_eq_true, if_true, if_false,  decide_true, decide_false, bI_t, bI_f, Nat.add_sub_cancel, Nat.zero_add, Nat.add_zero, Nat.mul_zero, upd_eq, upd_ne, h1]
theorem on_hit {p : Nx} {S : Nat → Int32} {k l N : Nat} {a b : Int32} {K : (Nat → Int32) → Int32 → Int32 → Int32 → Int32 → Option (Int32 × (Nat → Int32))} (hp : PI p) (hl : l < p 7 0) (hk : k < p 6 0) (h14 : S 14 = nI (p 7 0)) (h1 : S (15 + 4 * l + 1) = nI (p 3 l)) (c : p 3 l = k) : fX6_goesOn_41b N K S (nI k) a b (nI l) = K (upd S (15 + 4 * l + 3) (S (15 + 4 * l + 3) + nI 1)) (nI k) a b (nI (l + 1)) := by
  have hq := hp.q
  have hn := hp.n
  unfold fX6_goesOn_41b
  simp (disch := omega) only [↓nm_s, ↓bnd_s, ↓reduceIte, nI_add, pk_mul, nI_subdiv, nI_sub', nI_m1, nI_0m1, nI_clamp, gdi_nI, gdz_nI, nI_div, nrem, nI_ltI, nI_leI, nI_eq, leT, leF, ltT, ltF, eqT, eqF, neT, neF, z0, m1lt0, m1lt, m1le, nI_ne_neg, neg_ne_nI, embP_a, embL_a, embL_up, embL_up1, up2_ne, up2_at, up2_o, up1_ne, up1_at, bI_eq0, bI_eq1, or_true, true_or, and_true, true_and, or_false, false_or, and_false, false_and, not_true_eq_false, not_false_eq_true, if_true, if_false,  decide_true, decide_false, bI_t, bI_f, Nat.add_sub_cancel, Nat.zero_add, Nat.add_zero, Nat.mul_zero, upd_eq, upd_ne, h14, h1, fX6_goesOn_80]
theorem on_miss {p : Nx} {S : Nat → Int32} {k l N : Nat} {a b : Int32} {K : (Nat → Int32) → Int32 → Int32 → Int32 → Int32 → Option (Int32 × (Nat → Int32))} (hp : PI p) (hl : l < p 7 0) (hk : k < p 6 0) (h14 : S 14 = nI (p 7 0)) (h1 : S (15 + 4 * l + 1) = nI (p 3 l)) (c : p 3 l ≠ k) : fX6_goesOn_41b N K S (nI k) a b (nI l) = K S (nI k) a b (nI (l + 1)) := by
  have hq := hp.q
  have hn := hp.n
  have hx := hp.l hl
  unfold fX6_goesOn_41b
  simp (disch := omega) only [↓nm_s, ↓bnd_s, ↓reduceIte, nI_add, pk_mul, nI_subdiv, nI_sub', nI_m1, nI_0m1, nI_clamp, gdi_nI, gdz_nI, nI_div, nrem, nI_ltI, nI_leI, nI_eq, leT, leF, ltT, ltF, eqT, eqF, neT, neF, z0, m1lt0, m1lt, m1le, nI_ne_neg, neg_ne_nI, embP_a, embL_a, embL_up, embL_up1, up2_ne, up2_at, up2_o, up1_ne, up1_at, bI_eq0, bI_eq1, or_true, true_or, and_true, true_and, or_false, false_or, and_false, false_and, not_true_eq_false, not_false_eq_true, if_true, if_false,  decide_true, decide_false, bI_t, bI_f, Nat.add_sub_cancel, Nat.zero_add, Nat.add_zero, Nat.mul_zero, upd_eq, upd_ne, h14, h1, fX6_goesOn_80]
theorem on_loop {p : Nx} {k N : Nat} {a b : Int32} (hp : PI p) (hk : k < p 6 0) : ∀ {d l u : Nat} {S : Nat → Int32}, d < u → l + d = p 7 0 → S 14 = nI (p 7 0) → (∀ i, i < p 7 0 → S (15 + 4 * i + 1) = nI (p 3 i)) → ∃ T K, itn (fX6_goesOn_41b N) (fun _ _ _ _ _ => none) u S (nI k) a b (nI l) = fX6_goesOn_41b N K T (nI k) a b (nI (p 7 0)) ∧ (∀ j, (∀ i, l ≤ i → i < p 7 0 → j ≠ 15 + 4 * i + 3) → T j = S j) ∧ ∀ i, l ≤ i → i < p 7 0 → T (15 + 4 * i + 3) = if p 3 i = k then S (15 + 4 * i + 3) + nI 1 else S (15 + 4 * i + 3)
  | _, _, 0, _, h, _, _, _ => by omega
  | 0, l, u + 1, S, _, e, h14, h1 => by
    refine ⟨S, itn (fX6_goesOn_41b N) (fun _ _ _ _ _ => none) u, ?_, fun _ _ => rfl, fun i h1 h2 => by omega⟩
    rw [itn_s, show l = p 7 0 from by omega]
  | d + 1, l, u + 1, S, hu, e, h14, h1 => by
    have hq := hp.q
    rw [itn_s]
    by_cases c : p 3 l = k
    · obtain ⟨T, K, i1, i2, i3⟩ := on_loop (N := N) (a := a) (b := b) hp hk (d := d) (l := l + 1) (u := u) (S := upd S (15 + 4 * l + 3) (S (15 + 4 * l + 3) + nI 1)) (by omega) (by omega) (by rw [upd_ne (by omega)]; exact h14) (fun i hi => by rw [upd_ne (by omega)]; exact h1 i hi)
      refine ⟨T, K, ?_, ?_, ?_⟩
      · rw [on_hit hp (by omega) hk h14 (h1 l (by omega)) c]; exact i1
      · intro j hj
        rw [i2 j (fun i h2 h3 => hj i (by omega) h3), upd_ne (hj l (by omega) (by omega))]
      · intro i h2 h3
        by_cases z : i = l
        · subst z
          rw [i2 _ (fun i h2 h3 => by omega), upd_eq rfl, if_pos c]
        · rw [i3 i (by omega) h3, upd_ne (by omega)]
    · obtain ⟨T, K, i1, i2, i3⟩ := on_loop (N := N) (a := a) (b := b) hp hk (d := d) (l := l + 1) (u := u) (S := S) (by omega) (by omega) h14 h1
      refine ⟨T, K, ?_, ?_, ?_⟩
      · rw [on_miss hp (by omega) hk h14 (h1 l (by omega)) c]; exact i1
      · intro j hj
        exact i2 j (fun i h2 h3 => hj i (by omega) h3)
      · intro i h2 h3
        by_cases z : i = l
        · subst z
          rw [i2 _ (fun i h2 h3 => by omega), if_neg c]
        · exact i3 i (by omega) h3
theorem on_mid {p : Nx} {T : Nat → Int32} {k N w : Nat} {a b : Int32} {K : (Nat → Int32) → Int32 → Int32 → Int32 → Int32 → Option (Int32 × (Nat → Int32))} (hp : PI p) (hk : k + 1 < p 6 0) (h14 : T 14 = nI (p 7 0)) (h1 : T 1 = nI (p 6 0)) (hw : w ≤ 19) (hT : T (107 + 41 * (k + 1)) = nI w) : fX6_goesOn_41b N K T (nI k) a b (nI (p 7 0)) = some (nI 0, upd (upd (upd T (107 + 41 * (k + 1) + 1 + 2 * w) a) (107 + 41 * (k + 1) + 2 + 2 * w) b) (107 + 41 * (k + 1)) (nI (w + 1))) := by
  have hq := hp.q
  have hn := hp.n
  unfold fX6_goesOn_41b
  simp (disch := omega) only [↓nm_s, ↓bnd_s, ↓reduceIte, nI_add, pk_mul, nI_subdiv, nI_sub', nI_m1, nI_0m1, nI_clamp, gdi_nI, gdz_nI, nI_div, nrem, nI_ltI, nI_leI, nI_eq, leT, leF, ltT, ltF, eqT, eqF, neT, neF, z0, m1lt0, m1lt, m1le, nI_ne_neg, neg_ne_nI, embP_a, embL_a, embL_up, embL_up1, up2_ne, up2_at, up2_o, up1_ne, up1_at, bI_eq0, bI_eq1, or_true, true_or, and_true, true_and, or_false, false_or, and_false, false_and, not_true_eq_false, not_false_eq_true, if_true, if_false,  decide_true, decide_false, bI_t, bI_f, Nat.add_sub_cancel, Nat.zero_add, Nat.add_zero, Nat.mul_zero, upd_eq, upd_ne, h14, h1, hT]
theorem on_last {p : Nx} {T : Nat → Int32} {k N t v m : Nat} {a : Int32} {K : (Nat → Int32) → Int32 → Int32 → Int32 → Int32 → Option (Int32 × (Nat → Int32))} (hp : PI p) (hk : k + 1 = p 6 0) (h14 : T 14 = nI (p 7 0)) (h1 : T 1 = nI (p 6 0)) (h48 : T 48 = nI t) (ht : t < 2 ^ 30) (hv : v ≤ t) (h52 : T 52 = nI m - nI 1) (hm : m ≤ t + 1) : ∃ T', fX6_goesOn_41b N K T (nI k) a (nI v) (nI (p 7 0)) = some (nI 1, T') ∧ T' 49 = T 49 + nI 1 ∧ T' 51 = nI (t - v + 1) - nI 1 ∧ T' 52 = nI (max m (t - v + 1)) - nI 1 ∧ ∀ j, j ≠ 49 → j ≠ 51 → j ≠ 52 → T' j = T j := by
  have hq := hp.q
  have hn := hp.n
  have e1 : nI (t - v) = nI (t - v + 1) - nI 1 := by rw [nI_sub' (by omega)]; rfl
  by_cases c : t - v + 1 ≤ m
  · refine ⟨upd (upd T 49 (T 49 + nI 1)) 51 (nI (t - v)), ?_, ?_, ?_, ?_, ?_⟩
    · unfold fX6_goesOn_41b
      rw [nI_sub' (by omega)] at h52
      simp (disch := omega) only [↓nm_s, ↓bnd_s, ↓reduceIte, nI_add, pk_mul, nI_subdiv, nI_sub', nI_m1, nI_0m1, nI_clamp, gdi_nI, gdz_nI, nI_div, nrem, nI_ltI, nI_leI, nI_eq, leT, leF, ltT, ltF, eqT, eqF, neT, neF, z0, m1lt0, m1lt, m1le, nI_ne_neg, neg_ne_nI, embP_a, embL_a, embL_up, embL_up1, up2_ne, up2_at, up2_o, up1_ne, up1_at, bI_eq0, bI_eq1, or_true, true_or, and_true, true_and, or_false, false_or, and_false, false_and, not_true_eq_false, not_false_eq_true, if_true, if_false,  decide_true, decide_false, bI_t, bI_f, Nat.add_sub_cancel, Nat.zero_add, Nat.add_zero, Nat.mul_zero, upd_eq, upd_ne, h14, h1, h48, h52, fX6_goesOn_181]
    · simp (disch := omega) only [↓nm_s, ↓bnd_s, ↓reduceIte, nI_add, pk_mul, nI_subdiv, nI_sub', nI_m1, nI_0m1, nI_clamp, gdi_nI, gdz_nI, nI_div, nrem, nI_ltI, nI_leI, nI_eq, leT, leF, ltT, ltF, eqT, eqF, neT, neF, z0, m1lt0, m1lt, m1le, nI_ne_neg, neg_ne_nI, embP_a, embL_a, embL_up, embL_up1, up2_ne, up2_at, up2_o, up1_ne, up1_at, bI_eq0, bI_eq1, or_true, true_or, and_true, true_and, or_false, false_or, and_false, false_and, not_true_eq_false, not_false_eq_true, if_true, if_false,  decide_true, decide_false, bI_t, bI_f, Nat.add_sub_cancel, Nat.zero_add, Nat.add_zero, Nat.mul_zero, upd_eq, upd_ne]
    · rw [upd_eq rfl, e1]
    · rw [upd_ne (by omega), upd_ne (by omega), h52, Nat.max_eq_left c]
    · intro j h2 h3 h4
      rw [upd_ne h3, upd_ne h2]
  · refine ⟨upd (upd (upd T 49 (T 49 + nI 1)) 51 (nI (t - v))) 52 (nI (t - v)), ?_, ?_, ?_, ?_, ?_⟩
    · unfold fX6_goesOn_41b
      by_cases z : m = 0
      · rw [z, show nI 0 - nI 1 = -1 from by decide] at h52
        simp (disch := omega) only [↓nm_s, ↓bnd_s, ↓reduceIte, nI_add, pk_mul, nI_subdiv, nI_sub', nI_m1, nI_0m1, nI_clamp, gdi_nI, gdz_nI, nI_div, nrem, nI_ltI, nI_leI, nI_eq, leT, leF, ltT, ltF, eqT, eqF, neT, neF, z0, m1lt0, m1lt, m1le, nI_ne_neg, neg_ne_nI, embP_a, embL_a, embL_up, embL_up1, up2_ne, up2_at, up2_o, up1_ne, up1_at, bI_eq0, bI_eq1, or_true, true_or, and_true, true_and, or_false, false_or, and_false, false_and, not_true_eq_false, not_false_eq_true, if_true, if_false,  decide_true, decide_false, bI_t, bI_f, Nat.add_sub_cancel, Nat.zero_add, Nat.add_zero, Nat.mul_zero, upd_eq, upd_ne, h14, h1, h48, h52, fX6_goesOn_181]
      · rw [nI_sub' (by omega)] at h52
        simp (disch := omega) only [↓nm_s, ↓bnd_s, ↓reduceIte, nI_add, pk_mul, nI_subdiv, nI_sub', nI_m1, nI_0m1, nI_clamp, gdi_nI, gdz_nI, nI_div, nrem, nI_ltI, nI_leI, nI_eq, leT, leF, ltT, ltF, eqT, eqF, neT, neF, z0, m1lt0, m1lt, m1le, nI_ne_neg, neg_ne_nI, embP_a, embL_a, embL_up, embL_up1, up2_ne, up2_at, up2_o, up1_ne, up1_at, bI_eq0, bI_eq1, or_true, true_or, and_true, true_and, or_false, false_or, and_false, false_and, not_true_eq_false, not_false_eq_true, if_true, if_false,  decide_true, decide_false, bI_t, bI_f, Nat.add_sub_cancel, Nat.zero_add, Nat.add_zero, Nat.mul_zero, upd_eq, upd_ne, h14, h1, h48, h52, fX6_goesOn_181]
    · simp (disch := omega) only [↓nm_s, ↓bnd_s, ↓reduceIte, nI_add, pk_mul, nI_subdiv, nI_sub', nI_m1, nI_0m1, nI_clamp, gdi_nI, gdz_nI, nI_div, nrem, nI_ltI, nI_leI, nI_eq, leT, leF, ltT, ltF, eqT, eqF, neT, neF, z0, m1lt0, m1lt, m1le, nI_ne_neg, neg_ne_nI, embP_a, embL_a, embL_up, embL_up1, up2_ne, up2_at, up2_o, up1_ne, up1_at, bI_eq0, bI_eq1, or_true, true_or, and_true, true_and, or_false, false_or, and_false, false_and, not_true_eq_false, not_false_eq_true, if_true, if_false,  decide_true, decide_false, bI_t, bI_f, Nat.add_sub_cancel, Nat.zero_add, Nat.add_zero, Nat.mul_zero, upd_eq, upd_ne]
    · rw [upd_ne (by omega), upd_eq rfl, e1]
    · rw [upd_eq rfl, Nat.max_eq_right (by omega), e1]
    · intro j h2 h3 h4
      rw [upd_ne h4, upd_ne h3, upd_ne h2]
theorem sWait_20 {p x : Nx} (hp : PI p) (hx : LI p x) {k : Nat} (hk : k < p 6 0) : sWait x k ≤ 20 := by
  have hn := hp.n
  have hw := hx.way hp
  unfold sWait
  by_cases c : k = 0
  · rw [if_pos c]; omega
  · rw [if_neg c]
    have a := hx.mono' (j := k - 1) (k := 0) (by omega) (by omega)
    have b := hx.mono' (j := p 6 0 - 1) (k := k) (by omega) (by omega)
    have d := hx.k (k := k) hk
    have e := hx.k (k := k - 1) (by omega)
    have f := hx.k (k := 0) (by omega)
    omega
theorem sWait_19 {p x : Nx} (hp : PI p) (hx : LI p x) {k : Nat} (hk : k + 1 < p 6 0) (hb : x 1 k ≠ x 2 k) : sWait x (k + 1) ≤ 19 := by
  have hn := hp.n
  have hw := hx.way hp
  unfold sWait
  rw [if_neg (by omega), show k + 1 - 1 = k from rfl]
  have a := hx.mono' (j := k) (k := 0) (by omega) (by omega)
  have b := hx.mono' (j := p 6 0 - 1) (k := k + 1) (by omega) (by omega)
  have d := hx.k (k := k) (by omega)
  have e := hx.k (k := k + 1) (by omega)
  omega
theorem m_goes {p g x : Nx} {S : Nat → Int32} {k N : Nat} (hp : PI p) (hg : GI p g) (hx : LI p x) (hT : x 8 0 < 2 ^ 30) (hN : 6 < N) (hk : k < p 6 0) (hb : x 1 k ≠ x 2 k) (h : RelS p g x S) : ∃ T, fX6_goesOn N S (nI k) = some (nI (if k + 1 = p 6 0 then 1 else 0), T) ∧ RelS p g (sFin p x k) T ∧ sameSum S T := by
  have hq := hp.q
  have hn := hp.n
  obtain ⟨hst, hgl, hds⟩ := h
  have hd := hds k hk
  have hkk := hx.k hk
  have hi := m_its (S := S) (k := k) (c := 0) (by omega)
  have hi4 := m_its (S := S) (k := k) (c := 4) (by omega)
  have d1 := hd.1
  rw [if_neg hb] at d1
  have d3 := hd.2.2.1 hb
  have hwk := sWait_20 hp hx hk
  -- the row ahead of the loop
  generalize hS5 : upd (upd S (53 + 9 * k + 1) (nI (sKind p (x 7 0) (x 1 k - 1)))) (53 + 9 * k) (-1) = S5
  have f5 : ∀ j, j ≠ 53 + 9 * k + 1 → j ≠ 53 + 9 * k → S5 j = S j := fun j h1 h2 => by rw [← hS5, upd_ne h2, upd_ne h1]
  have f5a : S5 (53 + 9 * k + 1) = nI (sKind p (x 7 0) (x 1 k - 1)) := by rw [← hS5, upd_ne (by omega), upd_eq rfl]
  have f5b : S5 (53 + 9 * k) = -1 := by rw [← hS5, upd_eq rfl]
  obtain ⟨T, K, t1, t2, t3⟩ := on_loop (N := N) (a := nI (sKind p (x 7 0) (x 1 k - 1))) (b := nI (x 5 ((x 1 k - 1) % 20))) hp hk (d := p 7 0) (l := 0) (u := N) (S := S5) (by omega) (by omega) (by rw [f5 _ (by omega) (by omega)]; exact hst.1.2.2.1) (fun i hi => by rw [f5 _ (by omega) (by omega)]; exact (hst.2.2.1 i hi).2.1)
  have tS : ∀ j, (∀ i, i < p 7 0 → j ≠ 15 + 4 * i + 3) → j ≠ 53 + 9 * k + 1 → j ≠ 53 + 9 * k → T j = S j := fun j h1 h2 h3 => by rw [t2 j (fun i _ hi => h1 i hi), f5 j h2 h3]
  have run : fX6_goesOn N S (nI k) = fX6_goesOn_41b N K T (nI k) (nI (sKind p (x 7 0) (x 1 k - 1))) (nI (x 5 ((x 1 k - 1) % 20))) (nI (p 7 0)) := by
    rw [← t1]
    unfold fX6_goesOn
    rw [hi, hi4]
    simp (disch := omega) only [↓nm_s, ↓bnd_s, ↓reduceIte, nI_add, pk_mul, nI_subdiv, nI_sub', nI_m1, nI_0m1, nI_clamp, gdi_nI, gdz_nI, nI_div, nrem, nI_ltI, nI_leI, nI_eq, leT, leF, ltT, ltF, eqT, eqF, neT, neF, z0, m1lt0, m1lt, m1le, nI_ne_neg, neg_ne_nI, embP_a, embL_a, embL_up, embL_up1, up2_ne, up2_at, up2_o, up1_ne, up1_at, bI_eq0, bI_eq1, or_true, true_or, and_true, true_and, or_false, false_or, and_false, false_and, not_true_eq_false, not_false_eq_true, if_true, if_false,  decide_true, decide_false, bI_t, bI_f, Nat.add_sub_cancel, Nat.zero_add, Nat.add_zero, Nat.mul_zero, upd_eq, upd_ne, d1, d3.2.2, fX6_goesOn_41]
    rw [hS5]
  have h14 : T 14 = nI (p 7 0) := by rw [tS 14 (fun i _ => by omega) (by omega) (by omega)]; exact hst.1.2.2.1
  have h1 : T 1 = nI (p 6 0) := by rw [tS 1 (fun i _ => by omega) (by omega) (by omega)]; exact hst.1.2.1
  have fr : ∀ l, l < p 7 0 → T (15 + 4 * l + 3) = nI (sFree p (sFin p x k) l) := by
    intro l hl
    have hl1 := hx.l hl
    rw [t3 l (by omega) hl, f5 _ (by omega) (by omega), hgl.2 l hl]
    unfold sFree
    simp (disch := omega) only [sFin_o, sFin_2]
    by_cases c : p 3 l = k
    · rw [if_pos c, if_pos c, nI_add, c]
      rw [c] at hl1
      congr 1
      omega
    · rw [if_neg c, if_neg c]
  -- stations other than k and the next
  have far : ∀ T' : Nat → Int32, (∀ j, 53 ≤ j → (∀ c, c < 41 → j ≠ 107 + 41 * (k + 1) + c) → T' j = T j) → ∀ j, j < p 6 0 → j ≠ k → j ≠ k + 1 → Dst p (sFin p x k) T' j := by
    intro T' hT' j hj h2 h3
    refine Dst.mv (x := x) (S := S) (sWait_20 hp hx hj) (hds j hj) (sFin_o (by omega)) (by rw [sFin_2, if_neg h2]) (sFin_o (by omega)) (sFin_o (by omega)) ?_ (fun _ _ _ _ => sFin_o (by omega)) ?_ ?_ (hx.k hj).1
    · unfold sWait
      simp (disch := omega) only [sFin_o, sFin_2]
      by_cases c : j = 0
      · rw [if_pos c, if_pos c]
      · rw [if_neg c, if_neg c, if_neg (by omega)]
    · intro c hc
      rw [hT' _ (by omega) (fun c hc => by omega), tS _ (fun i _ => by omega) (by omega) (by omega)]
    · intro c hc
      rw [hT' _ (by omega) (fun c hc => by omega), tS _ (fun i _ => by omega) (by omega) (by omega)]
  have own : ∀ T' : Nat → Int32, (∀ j, 53 ≤ j → (∀ c, c < 41 → j ≠ 107 + 41 * (k + 1) + c) → T' j = T j) → Dst p (sFin p x k) T' k := by
    intro T' hT'
    have w : sWait (sFin p x k) k = sWait x k := by
      unfold sWait
      simp (disch := omega) only [sFin_o, sFin_2]
      by_cases c : k = 0
      · rw [if_pos c, if_pos c]
      · rw [if_neg c, if_neg c, if_neg (by omega)]
    unfold Dst
    rw [w]
    simp (disch := omega) only [sFin_o, sFin_2, if_true]
    rw [if_pos (show x 1 k = x 2 k + 1 from by omega), if_neg (show ¬ x 2 k + 1 = 0 from by omega)]
    refine ⟨?_, ?_, fun z => by omega, ?_, ?_⟩
    · rw [hT' _ (by omega) (fun c hc => by omega), t2 _ (fun i _ _ => by omega), f5b]
    · rw [hT' _ (by omega) (fun c hc => by omega), t2 _ (fun i _ _ => by omega), f5a]
      congr 2
      omega
    · rw [hT' _ (by omega) (fun c hc => by omega), tS _ (fun i _ => by omega) (by omega) (by omega)]
      exact hd.2.2.2.1
    · intro i hi
      rw [hT' _ (by omega) (fun c hc => by omega), tS _ (fun i _ => by omega) (by omega) (by omega), hT' _ (by omega) (fun c hc => by omega), tS _ (fun i _ => by omega) (by omega) (by omega)]
      exact hd.2.2.2.2 i hi
  have stat : ∀ T' : Nat → Int32, (∀ j, j < 48 → T' j = T j) → Stat p g (sFin p x k 4) (sFin p x k 7 0) T' := by
    intro T' hT'
    rw [sFin_o (by omega)]
    exact Stat.mv hp hg hst (fun l _ => sFin_o (by omega)) (fun j hj hl => by rw [hT' j hj, tS j hl (by omega) (by omega)])
  rw [run]
  by_cases c : k + 1 = p 6 0
  · rw [if_pos c]
    have h5 := hx.b (j := x 1 k - 1) (by rw [show p 6 0 - 1 = k from by omega]; omega) (by have := hx.mono' (j := k) (k := 0) (by omega) hk; omega)
    have h6 := hx.d
    have e1 : x 1 k - 1 = x 2 k := by omega
    obtain ⟨T', u1, u2, u3, u4, u5⟩ := on_last (T := T) (k := k) (N := N) (t := x 8 0) (v := x 5 ((x 1 k - 1) % 20)) (m := x 10 0) (a := nI (sKind p (x 7 0) (x 1 k - 1))) (K := K) hp c h14 h1 (by rw [tS 48 (fun i _ => by omega) (by omega) (by omega)]; exact hgl.1.1) hT h5 (by rw [tS 52 (fun i _ => by omega) (by omega) (by omega)]; exact hgl.1.2.2.2.2) (by omega)
    refine ⟨T', u1, ⟨stat T' (fun j hj => u5 j (by omega) (by omega) (by omega)), ⟨⟨?_, ?_, ?_, ?_, ?_⟩, ?_⟩, ?_⟩, ?_⟩
    · rw [sFin_o (by omega), u5 48 (by omega) (by omega) (by omega), tS 48 (fun i _ => by omega) (by omega) (by omega)]; exact hgl.1.1
    · rw [u2, tS 49 (fun i _ => by omega) (by omega) (by omega), hgl.1.2.1, sFin_2, if_pos (by omega), nI_add, show p 6 0 - 1 = k from by omega]
    · rw [sFin_o (by omega), u5 50 (by omega) (by omega) (by omega), tS 50 (fun i _ => by omega) (by omega) (by omega)]; exact hgl.1.2.2.1
    · rw [u3, sFin_9, if_pos c, e1]
    · rw [u4, sFin_10, if_pos c, e1]
    · intro l hl
      rw [u5 _ (by omega) (by omega) (by omega)]; exact fr l hl
    · intro j hj
      by_cases z : j = k
      · subst z; exact own T' (fun i h1 _ => u5 i (by omega) (by omega) (by omega))
      · exact far T' (fun i h1 _ => u5 i (by omega) (by omega) (by omega)) j hj z (by omega)
    · intro j s hj hs
      rw [u5 _ (by omega) (by omega) (by omega), tS _ (fun i _ => by omega) (by omega) (by omega)]
  · rw [if_neg c]
    have w19 := sWait_19 hp hx (k := k) (by omega) hb
    have hd2 := hds (k + 1) (by omega)
    have hw := hd2.2.2.2.1
    have hs := hx.s (k := k) (by omega)
    have r := on_mid (T := T) (k := k) (N := N) (w := sWait x (k + 1)) (a := nI (sKind p (x 7 0) (x 1 k - 1))) (b := nI (x 5 ((x 1 k - 1) % 20))) (K := K) hp (by omega) h14 h1 w19 (by rw [tS _ (fun i _ => by omega) (by omega) (by omega)]; exact hw)
    rw [r]
    generalize hT' : upd (upd (upd T (107 + 41 * (k + 1) + 1 + 2 * sWait x (k + 1)) (nI (sKind p (x 7 0) (x 1 k - 1)))) (107 + 41 * (k + 1) + 2 + 2 * sWait x (k + 1)) (nI (x 5 ((x 1 k - 1) % 20)))) (107 + 41 * (k + 1)) (nI (sWait x (k + 1) + 1)) = T'
    have u5 : ∀ j, (∀ c, c < 41 → j ≠ 107 + 41 * (k + 1) + c) → T' j = T j := by
      intro j hj
      have a0 := hj 0 (by omega)
      have a1 := hj (1 + 2 * sWait x (k + 1)) (by omega)
      have a2 := hj (2 + 2 * sWait x (k + 1)) (by omega)
      rw [← hT', upd_ne (by omega), upd_ne (by omega), upd_ne (by omega)]
    refine ⟨T', rfl, ⟨stat T' (fun j hj => u5 j (fun _ _ => by omega)), ⟨⟨?_, ?_, ?_, ?_, ?_⟩, ?_⟩, ?_⟩, ?_⟩
    · rw [sFin_o (by omega), u5 48 (fun _ _ => by omega), tS 48 (fun i _ => by omega) (by omega) (by omega)]; exact hgl.1.1
    · rw [u5 49 (fun _ _ => by omega), tS 49 (fun i _ => by omega) (by omega) (by omega), sFin_2, if_neg (by omega)]; exact hgl.1.2.1
    · rw [sFin_o (by omega), u5 50 (fun _ _ => by omega), tS 50 (fun i _ => by omega) (by omega) (by omega)]; exact hgl.1.2.2.1
    · rw [sFin_9, if_neg c, u5 51 (fun _ _ => by omega), tS 51 (fun i _ => by omega) (by omega) (by omega)]; exact hgl.1.2.2.2.1
    · rw [sFin_10, if_neg c, u5 52 (fun _ _ => by omega), tS 52 (fun i _ => by omega) (by omega) (by omega)]; exact hgl.1.2.2.2.2
    · intro l hl
      rw [u5 _ (fun _ _ => by omega)]; exact fr l hl
    · intro j hj
      by_cases z : j = k
      · subst z; exact own T' (fun i _ h2 => u5 i h2)
      · by_cases y : j = k + 1
        · subst y
          have w : sWait (sFin p x k) (k + 1) = sWait x (k + 1) + 1 := by
            unfold sWait
            rw [if_neg (by omega), if_neg (by omega)]
            simp (disch := omega) only [sFin_o, sFin_2, show k + 1 - 1 = k from rfl, if_true]
            omega
          have wv : x 1 (k + 1) + sWait x (k + 1) = x 1 k - 1 := by
            unfold sWait
            rw [if_neg (by omega), show k + 1 - 1 = k from rfl]
            omega
          unfold Dst
          rw [w]
          simp (disch := omega) only [sFin_o, sFin_2]
          rw [if_neg z]
          refine ⟨?_, ?_, ?_, ?_, ?_⟩
          · rw [u5 _ (fun _ _ => by omega), tS _ (fun i _ => by omega) (by omega) (by omega)]; exact hd2.1
          · rw [u5 _ (fun _ _ => by omega), tS _ (fun i _ => by omega) (by omega) (by omega)]; exact hd2.2.1
          · intro q
            rw [u5 _ (fun _ _ => by omega), tS _ (fun i _ => by omega) (by omega) (by omega), u5 _ (fun _ _ => by omega), tS _ (fun i _ => by omega) (by omega) (by omega), u5 _ (fun _ _ => by omega), tS _ (fun i _ => by omega) (by omega) (by omega)]
            exact hd2.2.2.1 q
          · rw [← hT', upd_eq rfl]
          · intro i hi
            by_cases e : i = sWait x (k + 1)
            · rw [e, wv, ← hT', upd_ne (by omega), upd_ne (by omega), upd_eq rfl, upd_ne (by omega), upd_eq rfl]
              exact ⟨rfl, rfl⟩
            · rw [← hT', upd_ne (by omega), upd_ne (by omega), upd_ne (by omega), upd_ne (by omega), upd_ne (by omega), upd_ne (by omega), tS _ (fun i _ => by omega) (by omega) (by omega), tS _ (fun i _ => by omega) (by omega) (by omega)]
              exact hd2.2.2.2.2 i (by omega)
        · exact far T' (fun i _ h2 => u5 i h2) j hj z y
    · intro j s hj hs
      rw [u5 _ (fun _ _ => by omega), tS _ (fun i _ => by omega) (by omega) (by omega)]
