/-! the model: an idle one begins -/
theorem m_hasC2 {p x : Nx} {S : Nat → Int32} {k N : Nat} (hp : PI p) (hx : LI p x) (hT : x 8 0 < 2 ^ 30) (hk : k < p 6 0) (h14 : S 14 = nI (p 7 0)) (h0 : ∀ l, l < p 7 0 → S (15 + 4 * l) = nI (p 2 l)) (h3 : ∀ l, l < p 7 0 → S (15 + 4 * l + 3) = nI (sFree p x l)) : ∀ {d l u : Nat}, d < u → l + d = p 7 0 → itn (fX6_hasCards_2b N) (fun _ _ _ => none) u S (nI k) (nI l) = some (bI (hasC p x k l d))
  | _, _, 0, h, _ => by omega
  | 0, l, u + 1, _, e => by
    have hq := hp.q
    rw [itn_s]
    unfold fX6_hasCards_2b hasC
    simp (disch := omega) only [↓nm_s, ↓bnd_s, ↓reduceIte, nI_add, pk_mul, nI_subdiv, nI_sub', nI_m1, nI_0m1, nI_clamp, gdi_nI, gdz_nI, nI_div, nrem, nI_ltI, nI_leI, nI_eq, leT, leF, ltT, ltF, eqT, eqF, neT, neF, z0, m1lt0, m1lt, m1le, nI_ne_neg, neg_ne_nI, embP_a, embL_a, embL_up, embL_up1, up2_ne, up2_at, up2_o, up1_ne, up1_at, bI_eq0, bI_eq1, or_true, true_or, and_true, true_and, or_false, false_or, and_false, false_and, not_true_eq_false, not_false_eq_true, if_true, if_false,  decide_true, decide_false, bI_t, bI_f, Nat.add_sub_cancel, Nat.zero_add, Nat.add_zero, Nat.mul_zero, upd_eq, upd_ne, h14]
  | d + 1, l, u + 1, hu, e => by
    have hq := hp.q
    have hn := hp.n
    have hl := hp.l (l := l) (by omega)
    have hl2 := hx.l (l := l) (by omega)
    have h6 := hx.k (k := p 3 l) (by omega)
    have a := h0 l (by omega)
    have b := h3 l (by omega)
    have fb : sFree p x l < 2 ^ 31 := by unfold sFree; omega
    have i := m_hasC2 (N := N) hp hx hT hk h14 h0 h3 (d := d) (l := l + 1) (u := u) (by omega) (by omega)
    rw [itn_s]
    generalize itn (fX6_hasCards_2b N) (fun _ _ _ => none) u = K at i ⊢
    unfold fX6_hasCards_2b hasC
    by_cases c : p 2 l = k
    · by_cases z : sFree p x l = 0
      · simp (disch := omega) only [↓nm_s, ↓bnd_s, ↓reduceIte, nI_add, pk_mul, nI_subdiv, nI_sub', nI_m1, nI_0m1, nI_clamp, gdi_nI, gdz_nI, nI_div, nrem, nI_ltI, nI_leI, nI_eq, leT, leF, ltT, ltF, eqT, eqF, neT, neF, z0, m1lt0, m1lt, m1le, nI_ne_neg, neg_ne_nI, embP_a, embL_a, embL_up, embL_up1, up2_ne, up2_at, up2_o, up1_ne, up1_at, bI_eq0, bI_eq1, or_true, true_or, and_true, true_and, or_false, false_or, and_false, false_and, not_true_eq_false, not_false_eq_true, if_true, if_false,  decide_true, decide_false, bI_t, bI_f, Nat.add_sub_cancel, Nat.zero_add, Nat.add_zero, Nat.mul_zero, upd_eq, upd_ne, h14, a, b]
      · simp (disch := omega) only [↓nm_s, ↓bnd_s, ↓reduceIte, nI_add, pk_mul, nI_subdiv, nI_sub', nI_m1, nI_0m1, nI_clamp, gdi_nI, gdz_nI, nI_div, nrem, nI_ltI, nI_leI, nI_eq, leT, leF, ltT, ltF, eqT, eqF, neT, neF, z0, m1lt0, m1lt, m1le, nI_ne_neg, neg_ne_nI, embP_a, embL_a, embL_up, embL_up1, up2_ne, up2_at, up2_o, up1_ne, up1_at, bI_eq0, bI_eq1, or_true, true_or, and_true, true_and, or_false, false_or, and_false, false_and, not_true_eq_false, not_false_eq_true, if_true, if_false,  decide_true, decide_false, bI_t, bI_f, Nat.add_sub_cancel, Nat.zero_add, Nat.add_zero, Nat.mul_zero, upd_eq, upd_ne, h14, a, b, fX6_hasCards_37, i]
    · simp (disch := omega) only [↓nm_s, ↓bnd_s, ↓reduceIte, nI_add, pk_mul, nI_subdiv, nI_sub', nI_m1, nI_0m1, nI_clamp, gdi_nI, gdz_nI, nI_div, nrem, nI_ltI, nI_leI, nI_eq, leT, leF, ltT, ltF, eqT, eqF, neT, neF, z0, m1lt0, m1lt, m1le, nI_ne_neg, neg_ne_nI, embP_a, embL_a, embL_up, embL_up1, up2_ne, up2_at, up2_o, up1_ne, up1_at, bI_eq0, bI_eq1, or_true, true_or, and_true, true_and, or_false, false_or, and_false, false_and, not_true_eq_false, not_false_eq_true, if_true, if_false,  decide_true, decide_false, bI_t, bI_f, Nat.add_sub_cancel, Nat.zero_add, Nat.add_zero, Nat.mul_zero, upd_eq, upd_ne, h14, a, b, fX6_hasCards_37, i]
theorem m_hasC {p g x : Nx} {S : Nat → Int32} {k N : Nat} (hp : PI p) (hx : LI p x) (hT : x 8 0 < 2 ^ 30) (hN : 6 < N) (hk : k < p 6 0) (h : RelS p g x S) : fX6_hasCards N S (nI k) = some (bI (hasC p x k 0 (p 7 0))) := by
  have hq := hp.q
  have i := m_hasC2 (N := N) hp hx hT hk h.1.1.2.2.1 (fun l hl => (h.1.2.2.1 l hl).1) h.2.1.2 (d := p 7 0) (l := 0) (u := N) (by omega) (by omega)
  unfold fX6_hasCards
  simp (disch := omega) only [↓nm_s, ↓bnd_s, ↓reduceIte, nI_add, pk_mul, nI_subdiv, nI_sub', nI_m1, nI_0m1, nI_clamp, gdi_nI, gdz_nI, nI_div, nrem, nI_ltI, nI_leI, nI_eq, leT, leF, ltT, ltF, eqT, eqF, neT, neF, z0, m1lt0, m1lt, m1le, nI_ne_neg, neg_ne_nI, embP_a, embL_a, embL_up, embL_up1, up2_ne, up2_at, up2_o, up1_ne, up1_at, bI_eq0, bI_eq1, or_true, true_or, and_true, true_and, or_false, false_or, and_false, false_and, not_true_eq_false, not_false_eq_true, if_true, if_false,  decide_true, decide_false, bI_t, bI_f, Nat.add_sub_cancel, Nat.zero_add, Nat.add_zero, Nat.mul_zero, upd_eq, upd_ne, fX6_hasCards_2, i]
theorem tr_hit {p : Nx} {S : Nat → Int32} {k l N : Nat} {a b : Int32} {K : (Nat → Int32) → Int32 → Int32 → Int32 → Int32 → Option (Nat → Int32)} (hp : PI p) (hl : l < p 7 0) (hk : k < p 6 0) (h14 : S 14 = nI (p 7 0)) (h1 : S (15 + 4 * l) = nI (p 2 l)) (c : p 2 l = k) : fX6_tries_158b N K S (nI k) a b (nI l) = K (upd S (15 + 4 * l + 3) (S (15 + 4 * l + 3) - nI 1)) (nI k) a b (nI (l + 1)) := by
  have hq := hp.q
  have hn := hp.n
  unfold fX6_tries_158b
  simp (disch := omega) only [↓nm_s, ↓bnd_s, ↓reduceIte, nI_add, pk_mul, nI_subdiv, nI_sub', nI_m1, nI_0m1, nI_clamp, gdi_nI, gdz_nI, nI_div, nrem, nI_ltI, nI_leI, nI_eq, leT, leF, ltT, ltF, eqT, eqF, neT, neF, z0, m1lt0, m1lt, m1le, nI_ne_neg, neg_ne_nI, embP_a, embL_a, embL_up, embL_up1, up2_ne, up2_at, up2_o, up1_ne, up1_at, bI_eq0, bI_eq1, or_true, true_or, and_true, true_and, or_false, false_or, and_false, false_and, not_true_eq_false, not_false_eq_true, if_true, if_false,  decide_true, decide_false, bI_t, bI_f, Nat.add_sub_cancel, Nat.zero_add, Nat.add_zero, Nat.mul_zero, upd_eq, upd_ne, h14, h1, fX6_tries_195]
theorem tr_miss {p : Nx} {S : Nat → Int32} {k l N : Nat} {a b : Int32} {K : (Nat → Int32) → Int32 → Int32 → Int32 → Int32 → Option (Nat → Int32)} (hp : PI p) (hl : l < p 7 0) (hk : k < p 6 0) (h14 : S 14 = nI (p 7 0)) (h1 : S (15 + 4 * l) = nI (p 2 l)) (c : p 2 l ≠ k) : fX6_tries_158b N K S (nI k) a b (nI l) = K S (nI k) a b (nI (l + 1)) := by
  have hq := hp.q
  have hn := hp.n
  have hx := hp.l hl
  unfold fX6_tries_158b
  simp (disch := omega) only [↓nm_s, ↓bnd_s, ↓reduceIte, nI_add, pk_mul, nI_subdiv, nI_sub', nI_m1, nI_0m1, nI_clamp, gdi_nI, gdz_nI, nI_div, nrem, nI_ltI, nI_leI, nI_eq, leT, leF, ltT, ltF, eqT, eqF, neT, neF, z0, m1lt0, m1lt, m1le, nI_ne_neg, neg_ne_nI, embP_a, embL_a, embL_up, embL_up1, up2_ne, up2_at, up2_o, up1_ne, up1_at, bI_eq0, bI_eq1, or_true, true_or, and_true, true_and, or_false, false_or, and_false, false_and, not_true_eq_false, not_false_eq_true, if_true, if_false,  decide_true, decide_false, bI_t, bI_f, Nat.add_sub_cancel, Nat.zero_add, Nat.add_zero, Nat.mul_zero, upd_eq, upd_ne, h14, h1, fX6_tries_195]
theorem tr_loop {p : Nx} {k N : Nat} {a b : Int32} (hp : PI p) (hk : k < p 6 0) : ∀ {d l u : Nat} {S : Nat → Int32}, d < u → l + d = p 7 0 → S 14 = nI (p 7 0) → (∀ i, i < p 7 0 → S (15 + 4 * i) = nI (p 2 i)) → ∃ T K, itn (fX6_tries_158b N) (fun _ _ _ _ _ => none) u S (nI k) a b (nI l) = fX6_tries_158b N K T (nI k) a b (nI (p 7 0)) ∧ (∀ j, (∀ i, l ≤ i → i < p 7 0 → j ≠ 15 + 4 * i + 3) → T j = S j) ∧ ∀ i, l ≤ i → i < p 7 0 → T (15 + 4 * i + 3) = if p 2 i = k then S (15 + 4 * i + 3) - nI 1 else S (15 + 4 * i + 3)
  | _, _, 0, _, h, _, _, _ => by omega
  | 0, l, u + 1, S, _, e, h14, h1 => by
    refine ⟨S, itn (fX6_tries_158b N) (fun _ _ _ _ _ => none) u, ?_, fun _ _ => rfl, fun i h1 h2 => by omega⟩
    rw [itn_s, show l = p 7 0 from by omega]
  | d + 1, l, u + 1, S, hu, e, h14, h1 => by
    have hq := hp.q
    rw [itn_s]
    by_cases c : p 2 l = k
    · obtain ⟨T, K, i1, i2, i3⟩ := tr_loop (N := N) (a := a) (b := b) hp hk (d := d) (l := l + 1) (u := u) (S := upd S (15 + 4 * l + 3) (S (15 + 4 * l + 3) - nI 1)) (by omega) (by omega) (by rw [upd_ne (by omega)]; exact h14) (fun i hi => by rw [upd_ne (by omega)]; exact h1 i hi)
      refine ⟨T, K, ?_, ?_, ?_⟩
      · rw [tr_hit hp (by omega) hk h14 (h1 l (by omega)) c]; exact i1
      · intro j hj
        rw [i2 j (fun i h2 h3 => hj i (by omega) h3), upd_ne (hj l (by omega) (by omega))]
      · intro i h2 h3
        by_cases z : i = l
        · subst z
          rw [i2 _ (fun i h2 h3 => by omega), upd_eq rfl, if_pos c]
        · rw [i3 i (by omega) h3, upd_ne (by omega)]
    · obtain ⟨T, K, i1, i2, i3⟩ := tr_loop (N := N) (a := a) (b := b) hp hk (d := d) (l := l + 1) (u := u) (S := S) (by omega) (by omega) h14 h1
      refine ⟨T, K, ?_, ?_, ?_⟩
      · rw [tr_miss hp (by omega) hk h14 (h1 l (by omega)) c]; exact i1
      · intro j hj
        exact i2 j (fun i h2 h3 => hj i (by omega) h3)
      · intro i h2 h3
        by_cases z : i = l
        · subst z
          rw [i2 _ (fun i h2 h3 => by omega), if_neg c]
        · exact i3 i (by omega) h3
theorem tr_exit {p : Nx} {T : Nat → Int32} {k N t v bf kd : Nat} {b : Int32} {K : (Nat → Int32) → Int32 → Int32 → Int32 → Int32 → Option (Nat → Int32)} (hp : PI p) (hk : k < p 6 0) (h14 : T 14 = nI (p 7 0)) (h48 : T 48 = nI t) (hkd : kd < 2 ^ 31) (hbf : bf < 2 ^ 31) (hB : T (53 + 9 * k + 1) = if v = 0 then -1 else nI bf) (h2 : T (2 + k) = nI (p 0 k)) (h8 : T (8 + k) = nI (p 1 k)) : fX6_tries_158b N K T (nI k) (nI kd) b (nI (p 7 0)) = some (upd (upd (upd (upd T (53 + 9 * k) (nI kd)) (53 + 9 * k + 2) (nI (t + (if v = 0 then 0 else if bf = kd then 0 else p 1 k)))) (53 + 9 * k + 3) (nI (t + (if v = 0 then 0 else if bf = kd then 0 else p 1 k) + p 0 k))) (53 + 9 * k + 4) b) := by
  have hq := hp.q
  have hn := hp.n
  have e1 := m_its (S := T) (k := k) (c := 1) (by omega)
  unfold fX6_tries_158b
  by_cases c : v = 0
  · rw [if_pos c] at hB ⊢
    simp (disch := omega) only [↓nm_s, ↓bnd_s, ↓reduceIte, nI_add, pk_mul, nI_subdiv, nI_sub', nI_m1, nI_0m1, nI_clamp, gdi_nI, gdz_nI, nI_div, nrem, nI_ltI, nI_leI, nI_eq, leT, leF, ltT, ltF, eqT, eqF, neT, neF, z0, m1lt0, m1lt, m1le, nI_ne_neg, neg_ne_nI, embP_a, embL_a, embL_up, embL_up1, up2_ne, up2_at, up2_o, up1_ne, up1_at, bI_eq0, bI_eq1, or_true, true_or, and_true, true_and, or_false, false_or, and_false, false_and, not_true_eq_false, not_false_eq_true, if_true, if_false,  decide_true, decide_false, bI_t, bI_f, Nat.add_sub_cancel, Nat.zero_add, Nat.add_zero, Nat.mul_zero, upd_eq, upd_ne, h14, e1, hB, h48, fX6_tries_256, fX6_tries_257, m_its, h2]
  · rw [if_neg c] at hB ⊢
    by_cases d : bf = kd
    · rw [if_pos d]
      simp (disch := omega) only [↓nm_s, ↓bnd_s, ↓reduceIte, nI_add, pk_mul, nI_subdiv, nI_sub', nI_m1, nI_0m1, nI_clamp, gdi_nI, gdz_nI, nI_div, nrem, nI_ltI, nI_leI, nI_eq, leT, leF, ltT, ltF, eqT, eqF, neT, neF, z0, m1lt0, m1lt, m1le, nI_ne_neg, neg_ne_nI, embP_a, embL_a, embL_up, embL_up1, up2_ne, up2_at, up2_o, up1_ne, up1_at, bI_eq0, bI_eq1, or_true, true_or, and_true, true_and, or_false, false_or, and_false, false_and, not_true_eq_false, not_false_eq_true, if_true, if_false,  decide_true, decide_false, bI_t, bI_f, Nat.add_sub_cancel, Nat.zero_add, Nat.add_zero, Nat.mul_zero, upd_eq, upd_ne, h14, e1, hB, h48, fX6_tries_256, fX6_tries_257, m_its, h2]
    · rw [if_neg d]
      simp (disch := omega) only [↓nm_s, ↓bnd_s, ↓reduceIte, nI_add, pk_mul, nI_subdiv, nI_sub', nI_m1, nI_0m1, nI_clamp, gdi_nI, gdz_nI, nI_div, nrem, nI_ltI, nI_leI, nI_eq, leT, leF, ltT, ltF, eqT, eqF, neT, neF, z0, m1lt0, m1lt, m1le, nI_ne_neg, neg_ne_nI, embP_a, embL_a, embL_up, embL_up1, up2_ne, up2_at, up2_o, up1_ne, up1_at, bI_eq0, bI_eq1, or_true, true_or, and_true, true_and, or_false, false_or, and_false, false_and, not_true_eq_false, not_false_eq_true, if_true, if_false,  decide_true, decide_false, bI_t, bI_f, Nat.add_sub_cancel, Nat.zero_add, Nat.add_zero, Nat.mul_zero, upd_eq, upd_ne, h14, e1, hB, h48, fX6_tries_256, fX6_tries_257, m_its, h2, h8]
/-- the queue moves up -/
theorem sh_step {S : Nat → Int32} {v i w N : Nat} {k a b : Int32} {K : (Nat → Int32) → Int32 → Int32 → Int32 → Int32 → Int32 → Option (Nat → Int32)} (hv : v + 42 ≤ 354) (hw : w ≤ 19) (hi : i < 2 * w) (hS : S v = nI w) : fX6_tries_92b N K S k a b (nI v) (nI i) = K (upd S (v + 1 + i) (S (v + 3 + i))) k a b (nI v) (nI (i + 1)) := by
  unfold fX6_tries_92b
  simp (disch := omega) only [↓nm_s, ↓bnd_s, ↓reduceIte, nI_add, pk_mul, nI_subdiv, nI_sub', nI_m1, nI_0m1, nI_clamp, gdi_nI, gdz_nI, nI_div, nrem, nI_ltI, nI_leI, nI_eq, leT, leF, ltT, ltF, eqT, eqF, neT, neF, z0, m1lt0, m1lt, m1le, nI_ne_neg, neg_ne_nI, embP_a, embL_a, embL_up, embL_up1, up2_ne, up2_at, up2_o, up1_ne, up1_at, bI_eq0, bI_eq1, or_true, true_or, and_true, true_and, or_false, false_or, and_false, false_and, not_true_eq_false, not_false_eq_true, if_true, if_false,  decide_true, decide_false, bI_t, bI_f, Nat.add_sub_cancel, Nat.zero_add, Nat.add_zero, Nat.mul_zero, upd_eq, upd_ne, hS]
theorem sh_exit {S : Nat → Int32} {v w N : Nat} {k a b : Int32} {K : (Nat → Int32) → Int32 → Int32 → Int32 → Int32 → Int32 → Option (Nat → Int32)} (hv : v + 42 ≤ 354) (hw : w ≤ 19) (hS : S v = nI w) : fX6_tries_92b N K S k a b (nI v) (nI (2 * w)) = fX6_tries_155 N (upd (upd S (v + 1 + 2 * w) (nI 0)) (v + 2 + 2 * w) (nI 0)) k a b := by
  unfold fX6_tries_92b
  simp (disch := omega) only [↓nm_s, ↓bnd_s, ↓reduceIte, nI_add, pk_mul, nI_subdiv, nI_sub', nI_m1, nI_0m1, nI_clamp, gdi_nI, gdz_nI, nI_div, nrem, nI_ltI, nI_leI, nI_eq, leT, leF, ltT, ltF, eqT, eqF, neT, neF, z0, m1lt0, m1lt, m1le, nI_ne_neg, neg_ne_nI, embP_a, embL_a, embL_up, embL_up1, up2_ne, up2_at, up2_o, up1_ne, up1_at, bI_eq0, bI_eq1, or_true, true_or, and_true, true_and, or_false, false_or, and_false, false_and, not_true_eq_false, not_false_eq_true, if_true, if_false,  decide_true, decide_false, bI_t, bI_f, Nat.add_sub_cancel, Nat.zero_add, Nat.add_zero, Nat.mul_zero, upd_eq, upd_ne, hS]
theorem sh_loop {v w N : Nat} {k a b : Int32} (hv : v + 42 ≤ 354) (hw : w ≤ 19) : ∀ {d i u : Nat} {S : Nat → Int32}, d < u → i + d = 2 * w → S v = nI w → ∃ T, itn (fX6_tries_92b N) (fun _ _ _ _ _ _ => none) u S k a b (nI v) (nI i) = fX6_tries_155 N T k a b ∧ (∀ j, i ≤ j → j < 2 * w → T (v + 1 + j) = S (v + 3 + j)) ∧ ∀ m, m < v + 1 + i ∨ v + 2 + 2 * w < m → T m = S m
  | _, _, 0, _, h, _, _ => by omega
  | 0, i, u + 1, S, _, e, hS => by
    refine ⟨upd (upd S (v + 1 + 2 * w) (nI 0)) (v + 2 + 2 * w) (nI 0), ?_, fun j h1 h2 => by omega, fun m hm => ?_⟩
    · rw [itn_s, show i = 2 * w from by omega, sh_exit hv hw hS]
    · rw [upd_ne (by omega), upd_ne (by omega)]
  | d + 1, i, u + 1, S, hu, e, hS => by
    obtain ⟨T, i1, i2, i3⟩ := sh_loop (N := N) (k := k) (a := a) (b := b) hv hw (d := d) (i := i + 1) (u := u) (S := upd S (v + 1 + i) (S (v + 3 + i))) (by omega) (by omega) (by rw [upd_ne (by omega)]; exact hS)
    refine ⟨T, ?_, ?_, ?_⟩
    · rw [itn_s, sh_step hv hw (by omega) hS]; exact i1
    · intro j h1 h2
      by_cases c : j = i
      · subst c
        rw [i3 _ (by omega), upd_eq rfl]
      · rw [i2 j (by omega) h2, upd_ne (by omega)]
    · intro m hm
      rw [i3 m (by omega), upd_ne (by omega)]
/-- what begins: all but queues and counts -/
theorem tr_155 {p g x : Nx} {S : Nat → Int32} {k N : Nat} {b : Int32} (hp : PI p) (hg : GI p g) (hx : LI p x) (hT : x 8 0 < 2 ^ 30) (hN : 6 < N) (hk : k < p 6 0) (hi : x 1 k = x 2 k) (hc : canB p x k = true) (hst : Stat p g (x 4) (x 7 0) S) (h48 : S 48 = nI (x 8 0)) (hfr : ∀ l, l < p 7 0 → S (15 + 4 * l + 3) = nI (sFree p x l)) (hB : S (53 + 9 * k + 1) = if x 2 k = 0 then -1 else nI (sKind p (x 7 0) (x 2 k - 1))) : ∃ T, fX6_tries_155 N S (nI k) (nI (sKind p (x 7 0) (x 1 k))) b = some T ∧ (∀ l, l < p 7 0 → T (15 + 4 * l + 3) = nI (sFree p (sBeg p x k) l)) ∧ T (53 + 9 * k) = nI (sKind p (x 7 0) (x 1 k)) ∧ T (53 + 9 * k + 2) = nI (x 8 0 + sSet p x k) ∧ T (53 + 9 * k + 3) = nI (x 8 0 + sSet p x k + p 0 k) ∧ T (53 + 9 * k + 4) = b ∧ ∀ j, (∀ l, l < p 7 0 → j ≠ 15 + 4 * l + 3) → j ≠ 53 + 9 * k → j ≠ 53 + 9 * k + 2 → j ≠ 53 + 9 * k + 3 → j ≠ 53 + 9 * k + 4 → T j = S j := by
  have hq := hp.q
  have hn := hp.n
  obtain ⟨T, K, t1, t2, t3⟩ := tr_loop (N := N) (a := nI (sKind p (x 7 0) (x 1 k))) (b := b) hp hk (d := p 7 0) (l := 0) (u := N) (S := S) (by omega) (by omega) hst.1.2.2.1 (fun i hi => (hst.2.2.1 i hi).1)
  have tS : ∀ j, (∀ i, i < p 7 0 → j ≠ 15 + 4 * i + 3) → T j = S j := fun j h1 => t2 j (fun i _ hi => h1 i hi)
  have r := tr_exit (T := T) (k := k) (N := N) (t := x 8 0) (v := x 2 k) (bf := sKind p (x 7 0) (x 2 k - 1)) (kd := sKind p (x 7 0) (x 1 k)) (b := b) (K := K) hp hk (by rw [tS _ (fun i _ => by omega)]; exact hst.1.2.2.1) (by rw [tS _ (fun i _ => by omega)]; exact h48) (sKind_lt hp _ _) (sKind_lt hp _ _) (by rw [tS _ (fun i _ => by omega)]; exact hB) (by rw [tS _ (fun i _ => by omega)]; exact (hst.2.1 k hk).1) (by rw [tS _ (fun i _ => by omega)]; exact (hst.2.1 k hk).2)
  have es : sSet p x k = if x 2 k = 0 then 0 else if sKind p (x 7 0) (x 2 k - 1) = sKind p (x 7 0) (x 1 k) then 0 else p 1 k := by
    unfold sSet
    rw [hi]
  rw [← es] at r
  have r2 := (show fX6_tries_155 N S (nI k) (nI (sKind p (x 7 0) (x 1 k))) b = fX6_tries_158b N K T (nI k) (nI (sKind p (x 7 0) (x 1 k))) b (nI (p 7 0)) from by
    unfold fX6_tries_155 fX6_tries_158
    rw [nm_s]
    exact t1).trans r
  refine ⟨_, r2, ?_, ?_, ?_, ?_, ?_, ?_⟩
  · intro l hl
    rw [upd_ne (by omega), upd_ne (by omega), upd_ne (by omega), upd_ne (by omega), t3 l (by omega) hl, hfr l hl]
    by_cases c : p 2 l = k
    · have h1 := canB_l hc hl c
      have e : sFree p (sBeg p x k) l = sFree p x l - 1 := by
        unfold sFree
        simp (disch := omega) only [sBeg_o, sBeg_1, c, if_true]
        omega
      rw [if_pos c, e, nI_sub']
      unfold sFree
      omega
    · have e : sFree p (sBeg p x k) l = sFree p x l := by
        unfold sFree
        simp (disch := omega) only [sBeg_o, sBeg_1]
        rw [if_neg c]
      rw [if_neg c, e]
  · simp (disch := omega) only [↓nm_s, ↓bnd_s, ↓reduceIte, nI_add, pk_mul, nI_subdiv, nI_sub', nI_m1, nI_0m1, nI_clamp, gdi_nI, gdz_nI, nI_div, nrem, nI_ltI, nI_leI, nI_eq, leT, leF, ltT, ltF, eqT, eqF, neT, neF, z0, m1lt0, m1lt, m1le, nI_ne_neg, neg_ne_nI, embP_a, embL_a, embL_up, embL_up1, up2_ne, up2_at, up2_o, up1_ne, up1_at, bI_eq0, bI_eq1, or_true, true_or, and_true, true_and, or_false, false_or, and_false, false_and, not_true_eq_false, not_false_eq_true, if_true, if_false,  decide_true, decide_false, bI_t, bI_f, Nat.add_sub_cancel, Nat.zero_add, Nat.add_zero, Nat.mul_zero, upd_eq, upd_ne]
  · simp (disch := omega) only [↓nm_s, ↓bnd_s, ↓reduceIte, nI_add, pk_mul, nI_subdiv, nI_sub', nI_m1, nI_0m1, nI_clamp, gdi_nI, gdz_nI, nI_div, nrem, nI_ltI, nI_leI, nI_eq, leT, leF, ltT, ltF, eqT, eqF, neT, neF, z0, m1lt0, m1lt, m1le, nI_ne_neg, neg_ne_nI, embP_a, embL_a, embL_up, embL_up1, up2_ne, up2_at, up2_o, up1_ne, up1_at, bI_eq0, bI_eq1, or_true, true_or, and_true, true_and, or_false, false_or, and_false, false_and, not_true_eq_false, not_false_eq_true, if_true, if_false,  decide_true, decide_false, bI_t, bI_f, Nat.add_sub_cancel, Nat.zero_add, Nat.add_zero, Nat.mul_zero, upd_eq, upd_ne]
  · simp (disch := omega) only [↓nm_s, ↓bnd_s, ↓reduceIte, nI_add, pk_mul, nI_subdiv, nI_sub', nI_m1, nI_0m1, nI_clamp, gdi_nI, gdz_nI, nI_div, nrem, nI_ltI, nI_leI, nI_eq, leT, leF, ltT, ltF, eqT, eqF, neT, neF, z0, m1lt0, m1lt, m1le, nI_ne_neg, neg_ne_nI, embP_a, embL_a, embL_up, embL_up1, up2_ne, up2_at, up2_o, up1_ne, up1_at, bI_eq0, bI_eq1, or_true, true_or, and_true, true_and, or_false, false_or, and_false, false_and, not_true_eq_false, not_false_eq_true, if_true, if_false,  decide_true, decide_false, bI_t, bI_f, Nat.add_sub_cancel, Nat.zero_add, Nat.add_zero, Nat.mul_zero, upd_eq, upd_ne]
  · simp (disch := omega) only [↓nm_s, ↓bnd_s, ↓reduceIte, nI_add, pk_mul, nI_subdiv, nI_sub', nI_m1, nI_0m1, nI_clamp, gdi_nI, gdz_nI, nI_div, nrem, nI_ltI, nI_leI, nI_eq, leT, leF, ltT, ltF, eqT, eqF, neT, neF, z0, m1lt0, m1lt, m1le, nI_ne_neg, neg_ne_nI, embP_a, embL_a, embL_up, embL_up1, up2_ne, up2_at, up2_o, up1_ne, up1_at, bI_eq0, bI_eq1, or_true, true_or, and_true, true_and, or_false, false_or, and_false, false_and, not_true_eq_false, not_false_eq_true, if_true, if_false,  decide_true, decide_false, bI_t, bI_f, Nat.add_sub_cancel, Nat.zero_add, Nat.add_zero, Nat.mul_zero, upd_eq, upd_ne]
  · intro j h1 h2 h3 h4 h5
    rw [upd_ne h5, upd_ne h4, upd_ne h3, upd_ne h2, tS j h1]
/-- a begin keeps the relation -/
theorem tr_rel {p g x : Nx} {S U T : Nat → Int32} {k : Nat} (hp : PI p) (hg : GI p g) (hx : LI p x) (hk : k < p 6 0) (hi : x 1 k = x 2 k) (hc : canB p x k = true) (h : RelS p g x S) (hU : ∀ j, j ≠ 50 → (∀ c, c < 41 → j ≠ 107 + 41 * k + c) → U j = S j) (h50 : U 50 = nI (if k = 0 then x 1 0 + 1 else x 1 0)) (hQ0 : U (107 + 41 * k) = nI (sWait (sBeg p x k) k)) (hQ : ∀ i, i < sWait (sBeg p x k) k → U (107 + 41 * k + 1 + 2 * i) = nI (sKind p (x 7 0) (x 1 k + 1 + i)) ∧ U (107 + 41 * k + 2 + 2 * i) = nI (x 5 ((x 1 k + 1 + i) % 20))) (t1 : ∀ l, l < p 7 0 → T (15 + 4 * l + 3) = nI (sFree p (sBeg p x k) l)) (t2 : T (53 + 9 * k) = nI (sKind p (x 7 0) (x 1 k))) (t3 : T (53 + 9 * k + 2) = nI (x 8 0 + sSet p x k)) (t4 : T (53 + 9 * k + 3) = nI (x 8 0 + sSet p x k + p 0 k)) (t5 : T (53 + 9 * k + 4) = nI (if k = 0 then x 8 0 else x 5 (x 1 k % 20))) (t6 : ∀ j, (∀ l, l < p 7 0 → j ≠ 15 + 4 * l + 3) → j ≠ 53 + 9 * k → j ≠ 53 + 9 * k + 2 → j ≠ 53 + 9 * k + 3 → j ≠ 53 + 9 * k + 4 → T j = U j) : RelS p g (sBeg p x k) T ∧ sameSum S T := by
  have hq := hp.q
  have hn := hp.n
  obtain ⟨hst, hgl, hds⟩ := h
  have hkk := hx.k hk
  have hway := hx.way hp
  refine ⟨⟨?_, ⟨⟨?_, ?_, ?_, ?_, ?_⟩, t1⟩, ?_⟩, ?_⟩
  · rw [sBeg_o (by omega)]
    refine Stat.mv hp hg hst (fun l _ => sBeg_o (by omega)) (fun j hj hl => ?_)
    rw [t6 j hl (by omega) (by omega) (by omega) (by omega), hU j (by omega) (fun c _ => by omega)]
  · rw [sBeg_o (by omega), t6 48 (fun l _ => by omega) (by omega) (by omega) (by omega) (by omega), hU 48 (by omega) (fun c _ => by omega)]; exact hgl.1.1
  · rw [sBeg_o (by omega), t6 49 (fun l _ => by omega) (by omega) (by omega) (by omega) (by omega), hU 49 (by omega) (fun c _ => by omega)]; exact hgl.1.2.1
  · rw [t6 50 (fun l _ => by omega) (by omega) (by omega) (by omega) (by omega), h50, sBeg_1]
    by_cases c : k = 0
    · subst c; rfl
    · rw [if_neg c, if_neg (fun z => c z.symm)]
  · rw [sBeg_o (by omega), t6 51 (fun l _ => by omega) (by omega) (by omega) (by omega) (by omega), hU 51 (by omega) (fun c _ => by omega)]; exact hgl.1.2.2.2.1
  · rw [sBeg_o (by omega), t6 52 (fun l _ => by omega) (by omega) (by omega) (by omega) (by omega), hU 52 (by omega) (fun c _ => by omega)]; exact hgl.1.2.2.2.2
  · intro j hj
    by_cases z : j = k
    · subst z
      have hd := hds j hj
      have w20 : sWait (sBeg p x j) j ≤ 20 := by
        have := sWait_20 hp hx hj
        unfold sWait at this ⊢
        simp (disch := omega) only [sBeg_o, sBeg_1, if_true]
        by_cases c : j = 0
        · rw [if_pos c]; omega
        · rw [if_neg c] at this ⊢
          omega
      refine ⟨?_, ?_, ?_, ?_, ?_⟩
      · simp (disch := omega) only [sBeg_o, sBeg_1, if_true]
        rw [if_neg (by omega), t2]
        rfl
      · simp (disch := omega) only [sBeg_o]
        rw [t6 _ (fun l _ => by omega) (by omega) (by omega) (by omega) (by omega), hU _ (by omega) (fun c _ => by omega)]
        exact hd.2.1
      · intro _
        simp (disch := omega) only [sBeg_o, sBeg_1, sBeg_3, sBeg_5, if_true]
        refine ⟨?_, t4, ?_⟩
        · rw [t3]
          congr 1
          omega
        · rw [t5]
          congr 1
          by_cases c : j = 0
          · subst c
            rw [if_pos rfl, if_pos ⟨rfl, rfl⟩]
          · rw [if_neg c, if_neg (fun z => c z.1)]
            rfl
      · rw [t6 _ (fun l _ => by omega) (by omega) (by omega) (by omega) (by omega)]
        exact hQ0
      · intro i hi2
        rw [t6 _ (fun l _ => by omega) (by omega) (by omega) (by omega) (by omega), t6 _ (fun l _ => by omega) (by omega) (by omega) (by omega) (by omega)]
        have e := hQ i hi2
        simp (disch := omega) only [sBeg_o, sBeg_1, sBeg_5, if_true]
        by_cases c : j = 0
        · subst c
          unfold sWait at hi2
          rw [if_pos rfl] at hi2
          omega
        · rw [if_neg (fun z => c z.1)]
          exact e
    · refine Dst.mv (x := x) (S := S) (sWait_20 hp hx hj) (hds j hj) (by rw [sBeg_1, if_neg z]) (sBeg_o (by omega)) (by rw [sBeg_3, if_neg z]) (sBeg_o (by omega)) ?_ ?_ ?_ ?_ (hx.k hj).1
      · unfold sWait
        simp (disch := omega) only [sBeg_o, sBeg_1]
        rw [if_neg z]
      · intro i h1 h2 h3
        rw [sBeg_5]
        by_cases c : k = 0
        · rw [if_neg]
          rintro ⟨_, e⟩
          have hl0 := hp.l0
          have cl := canB_l hc (l := 0) (by omega) (by rw [hl0.1, c])
          have hc0 := hx.l (l := 0) (by omega)
          rw [hl0.1, show p 3 0 = p 6 0 - 1 from by omega] at cl
          have a1 := hx.mono' (j := p 6 0 - 1) (k := j) (by omega) (by omega)
          have a2 := hx.k hj
          have a3 := hx.mono' (j := j) (k := 0) (by omega) hj
          have a4 : x 1 j + sWait x j ≤ x 1 0 := by
            unfold sWait
            by_cases c2 : j = 0
            · omega
            · rw [if_neg c2]
              have b1 := hx.s (k := j - 1) (by omega)
              rw [show j - 1 + 1 = j from by omega] at b1
              have b2 := hx.k (k := j - 1) (by omega)
              have b3 := hx.mono' (j := j - 1) (k := 0) (by omega) (by omega)
              omega
          have := mod20 e (by omega) (by omega)
          omega
        · rw [if_neg (fun q => c q.1)]
      · intro c hc2
        rw [t6 _ (fun l _ => by omega) (by omega) (by omega) (by omega) (by omega), hU _ (by omega) (fun c _ => by omega)]
      · intro c hc2
        rw [t6 _ (fun l _ => by omega) (by omega) (by omega) (by omega) (by omega), hU _ (by omega) (fun c _ => by omega)]
  · intro j s hj hs
    rw [t6 _ (fun l _ => by omega) (by omega) (by omega) (by omega) (by omega), hU _ (by omega) (fun c _ => by omega)]
theorem m_tries20 {p g x : Nx} {S : Nat → Int32} {k N : Nat} (hp : PI p) (hg : GI p g) (hx : LI p x) (hT : x 8 0 < 2 ^ 30) (hN : 100 < N) (hk : k < p 6 0) (hi : x 1 k = x 2 k) (hc : canB p x k = true) (h : RelS p g x S) : ∃ T, fX6_tries_20 N S (nI k) = some T ∧ RelS p g (sBeg p x k) T ∧ sameSum S T := by
  have hq := hp.q
  have hn := hp.n
  have hkk := hx.k hk
  have hh := m_hasC (N := N) hp hx hT (by omega) hk h
  have hcc : hasC p x k 0 (p 7 0) = true := by
    unfold canB at hc
    by_cases c : k ≠ 0 ∧ sWait x k = 0
    · rw [if_pos c] at hc; cases hc
    · rw [if_neg c] at hc; exact hc
  rw [hcc] at hh
  have h48 := h.2.1.1.1
  have h50 := h.2.1.1.2.2.1
  have hd := h.2.2 k hk
  by_cases c : k = 0
  · subst c
    have kd := m_kind hg h.1 hx.f (N := N) (by omega) (m := x 1 0) (by omega)
    obtain ⟨T, r1, r2, r3, r4, r5, r6, r7⟩ := tr_155 (S := upd S 50 (nI (x 1 0 + 1))) (b := nI (x 8 0)) (N := N) hp hg hx hT (by omega) hk hi hc (Stat.mv hp hg h.1 (fun _ _ => rfl) (fun j hj _ => upd_ne (by omega))) (by rw [upd_ne (by omega)]; exact h48) (fun l hl => by rw [upd_ne (by omega)]; exact h.2.1.2 l hl) (by rw [upd_ne (by omega)]; exact hd.2.1)
    have w0 : sWait (sBeg p x 0) 0 = 0 := rfl
    have w1 : sWait x 0 = 0 := rfl
    refine ⟨T, ?_, tr_rel (U := upd S 50 (nI (x 1 0 + 1))) hp hg hx hk hi hc h (fun j h1 _ => upd_ne h1) (by rw [upd_eq rfl]; rfl) ?_ ?_ r2 r3 r4 r5 (by rw [r6]; rfl) r7⟩
    · unfold fX6_tries_20
      simp (disch := omega) only [↓nm_s, ↓bnd_s, ↓reduceIte, nI_add, pk_mul, nI_subdiv, nI_sub', nI_m1, nI_0m1, nI_clamp, gdi_nI, gdz_nI, nI_div, nrem, nI_ltI, nI_leI, nI_eq, leT, leF, ltT, ltF, eqT, eqF, neT, neF, z0, m1lt0, m1lt, m1le, nI_ne_neg, neg_ne_nI, embP_a, embL_a, embL_up, embL_up1, up2_ne, up2_at, up2_o, up1_ne, up1_at, bI_eq0, bI_eq1, or_true, true_or, and_true, true_and, or_false, false_or, and_false, false_and, not_true_eq_false, not_false_eq_true, if_true, if_false,  decide_true, decide_false, bI_t, bI_f, Nat.add_sub_cancel, Nat.zero_add, Nat.add_zero, Nat.mul_zero, upd_eq, upd_ne, hh, h48, h50, kd, r1]
    · rw [upd_ne (by omega), w0]
      have := hd.2.2.2.1
      rw [w1] at this
      exact this
    · intro i hi
      rw [w0] at hi
      omega
  · have cw := canB_w hc c
    have hs := hx.s (k := k - 1) (by omega)
    rw [show k - 1 + 1 = k from by omega] at hs
    have w20 := sWait_20 hp hx hk
    have w : sWait x k = x 2 (k - 1) - x 1 k := by unfold sWait; rw [if_neg c]
    have w' : sWait (sBeg p x k) k = sWait x k - 1 := by
      rw [w]
      unfold sWait
      simp (disch := omega) only [sBeg_o, sBeg_1, if_true]
      rw [if_neg c]
      omega
    have q0 := hd.2.2.2.1
    have q1 := hd.2.2.2.2 0 (by omega)
    rw [show x 1 k + 0 = x 1 k from rfl, show 107 + 41 * k + 1 + 2 * 0 = 107 + 41 * k + 1 from rfl, show 107 + 41 * k + 2 + 2 * 0 = 107 + 41 * k + 2 from rfl] at q1
    obtain ⟨U, s1, s2, s3⟩ := sh_loop (N := N) (v := 107 + 41 * k) (w := sWait x k - 1) (k := nI k) (a := nI (sKind p (x 7 0) (x 1 k))) (b := nI (x 5 (x 1 k % 20))) (by omega) (by omega) (d := 2 * (sWait x k - 1)) (i := 0) (u := N) (S := upd S (107 + 41 * k) (nI (sWait x k - 1))) (by omega) (by omega) (upd_eq rfl)
    have hU : ∀ j, j ≠ 50 → (∀ c, c < 41 → j ≠ 107 + 41 * k + c) → U j = S j := by
      intro j _ h2
      have a0 := h2 0 (by omega)
      by_cases e : j < 107 + 41 * k + 1 + 0 ∨ 107 + 41 * k + 2 + 2 * (sWait x k - 1) < j
      · rw [s3 j e, upd_ne (by omega)]
      · exact absurd (show j = 107 + 41 * k + (j - (107 + 41 * k)) from by omega) (h2 (j - (107 + 41 * k)) (by omega))
    obtain ⟨T, r1, r2, r3, r4, r5, r6, r7⟩ := tr_155 (S := U) (b := nI (x 5 (x 1 k % 20))) (N := N) hp hg hx hT (by omega) hk hi hc (Stat.mv hp hg h.1 (fun _ _ => rfl) (fun j hj _ => hU j (by omega) (fun c _ => by omega))) (by rw [hU _ (by omega) (fun c _ => by omega)]; exact h48) (fun l hl => by rw [hU _ (by omega) (fun c _ => by omega)]; exact h.2.1.2 l hl) (by rw [hU _ (by omega) (fun c _ => by omega)]; exact hd.2.1)
    refine ⟨T, ?_, tr_rel (U := U) hp hg hx hk hi hc h hU ?_ ?_ ?_ r2 r3 r4 r5 (by rw [r6, if_neg c]) r7⟩
    · unfold fX6_tries_20
      simp (disch := omega) only [↓nm_s, ↓bnd_s, ↓reduceIte, nI_add, pk_mul, nI_subdiv, nI_sub', nI_m1, nI_0m1, nI_clamp, gdi_nI, gdz_nI, nI_div, nrem, nI_ltI, nI_leI, nI_eq, leT, leF, ltT, ltF, eqT, eqF, neT, neF, z0, m1lt0, m1lt, m1le, nI_ne_neg, neg_ne_nI, embP_a, embL_a, embL_up, embL_up1, up2_ne, up2_at, up2_o, up1_ne, up1_at, bI_eq0, bI_eq1, or_true, true_or, and_true, true_and, or_false, false_or, and_false, false_and, not_true_eq_false, not_false_eq_true, if_true, if_false,  decide_true, decide_false, bI_t, bI_f, Nat.add_sub_cancel, Nat.zero_add, Nat.add_zero, Nat.mul_zero, upd_eq, upd_ne, hh, h48, q0, q1.1, q1.2, fX6_tries_92, s1, r1]
    · rw [s3 50 (by omega), upd_ne (by omega), h50, if_neg c]
    · rw [s3 _ (by omega), upd_eq rfl, w']
    · intro i hi2
      rw [w'] at hi2
      have e := hd.2.2.2.2 (i + 1) (by omega)
      have f1 := s2 (2 * i) (by omega) (by omega)
      have f2 := s2 (2 * i + 1) (by omega) (by omega)
      rw [upd_ne (by omega)] at f1 f2
      rw [show 107 + 41 * k + 2 + 2 * i = 107 + 41 * k + 1 + (2 * i + 1) from by omega, f1, f2, show x 1 k + 1 + i = x 1 k + (i + 1) from by omega]
      refine ⟨?_, ?_⟩
      · rw [← e.1]; congr 1; omega
      · rw [← e.2]; congr 1; omega
theorem m_tries {p g x : Nx} {S : Nat → Int32} {k N : Nat} (hp : PI p) (hg : GI p g) (hx : LI p x) (hT : x 8 0 < 2 ^ 30) (hN : 100 < N) (hk : k < p 6 0) (h : RelS p g x S) : ∃ T, fX6_tries N S (nI k) = some T ∧ RelS p g (sBegIf p x k) T ∧ sameSum S T := by
  have hn := hp.n
  have a := m_idle hp hk (h.2.2 k hk)
  have b := m_wait hp hk (h.2.2 k hk)
  have wl := sWait_le hx hk
  have hh := m_hasC (N := N) hp hx hT (by omega) hk h
  unfold sBegIf
  by_cases c : x 1 k = x 2 k
  · rw [if_pos c]
    by_cases d : canB p x k = true
    · rw [if_pos d]
      obtain ⟨T, r1, r2, r3⟩ := m_tries20 hp hg hx hT hN hk c d h
      refine ⟨T, ?_, r2, r3⟩
      unfold fX6_tries
      by_cases z : k = 0
      · simp (disch := omega) only [↓nm_s, ↓bnd_s, ↓reduceIte, nI_add, pk_mul, nI_subdiv, nI_sub', nI_m1, nI_0m1, nI_clamp, gdi_nI, gdz_nI, nI_div, nrem, nI_ltI, nI_leI, nI_eq, leT, leF, ltT, ltF, eqT, eqF, neT, neF, z0, m1lt0, m1lt, m1le, nI_ne_neg, neg_ne_nI, embP_a, embL_a, embL_up, embL_up1, up2_ne, up2_at, up2_o, up1_ne, up1_at, bI_eq0, bI_eq1, or_true, true_or, and_true, true_and, or_false, false_or, and_false, false_and, not_true_eq_false, not_false_eq_true, if_true, if_false,  decide_true, decide_false, bI_t, bI_f, Nat.add_sub_cancel, Nat.zero_add, Nat.add_zero, Nat.mul_zero, upd_eq, upd_ne, a, r1]
      · have w := canB_w d z
        have w2 : sWait x k = x 2 (k - 1) - x 1 k := by unfold sWait; rw [if_neg z]
        simp (disch := omega) only [↓nm_s, ↓bnd_s, ↓reduceIte, nI_add, pk_mul, nI_subdiv, nI_sub', nI_m1, nI_0m1, nI_clamp, gdi_nI, gdz_nI, nI_div, nrem, nI_ltI, nI_leI, nI_eq, leT, leF, ltT, ltF, eqT, eqF, neT, neF, z0, m1lt0, m1lt, m1le, nI_ne_neg, neg_ne_nI, embP_a, embL_a, embL_up, embL_up1, up2_ne, up2_at, up2_o, up1_ne, up1_at, bI_eq0, bI_eq1, or_true, true_or, and_true, true_and, or_false, false_or, and_false, false_and, not_true_eq_false, not_false_eq_true, if_true, if_false,  decide_true, decide_false, bI_t, bI_f, Nat.add_sub_cancel, Nat.zero_add, Nat.add_zero, Nat.mul_zero, upd_eq, upd_ne, a, b, r1]
    · rw [if_neg d]
      refine ⟨S, ?_, h, fun _ _ _ _ => rfl⟩
      unfold canB at d
      unfold fX6_tries
      by_cases z : k = 0
      · rw [if_neg (fun q => q.1 z)] at d
        rw [Bool.eq_false_iff.mpr d] at hh
        simp (disch := omega) only [↓nm_s, ↓bnd_s, ↓reduceIte, nI_add, pk_mul, nI_subdiv, nI_sub', nI_m1, nI_0m1, nI_clamp, gdi_nI, gdz_nI, nI_div, nrem, nI_ltI, nI_leI, nI_eq, leT, leF, ltT, ltF, eqT, eqF, neT, neF, z0, m1lt0, m1lt, m1le, nI_ne_neg, neg_ne_nI, embP_a, embL_a, embL_up, embL_up1, up2_ne, up2_at, up2_o, up1_ne, up1_at, bI_eq0, bI_eq1, or_true, true_or, and_true, true_and, or_false, false_or, and_false, false_and, not_true_eq_false, not_false_eq_true, if_true, if_false,  decide_true, decide_false, bI_t, bI_f, Nat.add_sub_cancel, Nat.zero_add, Nat.add_zero, Nat.mul_zero, upd_eq, upd_ne, a, fX6_tries_20, hh]
      · by_cases y : sWait x k = 0
        · simp (disch := omega) only [↓nm_s, ↓bnd_s, ↓reduceIte, nI_add, pk_mul, nI_subdiv, nI_sub', nI_m1, nI_0m1, nI_clamp, gdi_nI, gdz_nI, nI_div, nrem, nI_ltI, nI_leI, nI_eq, leT, leF, ltT, ltF, eqT, eqF, neT, neF, z0, m1lt0, m1lt, m1le, nI_ne_neg, neg_ne_nI, embP_a, embL_a, embL_up, embL_up1, up2_ne, up2_at, up2_o, up1_ne, up1_at, bI_eq0, bI_eq1, or_true, true_or, and_true, true_and, or_false, false_or, and_false, false_and, not_true_eq_false, not_false_eq_true, if_true, if_false,  decide_true, decide_false, bI_t, bI_f, Nat.add_sub_cancel, Nat.zero_add, Nat.add_zero, Nat.mul_zero, upd_eq, upd_ne, a, b]
        · rw [if_neg (fun q => y q.2)] at d
          rw [Bool.eq_false_iff.mpr d] at hh
          simp (disch := omega) only [↓nm_s, ↓bnd_s, ↓reduceIte, nI_add, pk_mul, nI_subdiv, nI_sub', nI_m1, nI_0m1, nI_clamp, gdi_nI, gdz_nI, nI_div, nrem, nI_ltI, nI_leI, nI_eq, leT, leF, ltT, ltF, eqT, eqF, neT, neF, z0, m1lt0, m1lt, m1le, nI_ne_neg, neg_ne_nI, embP_a, embL_a, embL_up, embL_up1, up2_ne, up2_at, up2_o, up1_ne, up1_at, bI_eq0, bI_eq1, or_true, true_or, and_true, true_and, or_false, false_or, and_false, false_and, not_true_eq_false, not_false_eq_true, if_true, if_false,  decide_true, decide_false, bI_t, bI_f, Nat.add_sub_cancel, Nat.zero_add, Nat.add_zero, Nat.mul_zero, upd_eq, upd_ne, a, b, fX6_tries_20, hh]
  · rw [if_neg c]
    refine ⟨S, ?_, h, fun _ _ _ _ => rfl⟩
    unfold fX6_tries
    simp (disch := omega) only [↓nm_s, ↓bnd_s, ↓reduceIte, nI_add, pk_mul, nI_subdiv, nI_sub', nI_m1, nI_0m1, nI_clamp, gdi_nI, gdz_nI, nI_div, nrem, nI_ltI, nI_leI, nI_eq, leT, leF, ltT, ltF, eqT, eqF, neT, neF, z0, m1lt0, m1lt, m1le, nI_ne_neg, neg_ne_nI, embP_a, embL_a, embL_up, embL_up1, up2_ne, up2_at, up2_o, up1_ne, up1_at, bI_eq0, bI_eq1, or_true, true_or, and_true, true_and, or_false, false_or, and_false, false_and, not_true_eq_false, not_false_eq_true, if_true, if_false,  decide_true, decide_false, bI_t, bI_f, Nat.add_sub_cancel, Nat.zero_add, Nat.add_zero, Nat.mul_zero, upd_eq, upd_ne, a]
