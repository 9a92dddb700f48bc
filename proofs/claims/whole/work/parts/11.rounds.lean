/-! the model: rounds -/
theorem sameSum.rfl' {S : Nat → Int32} : sameSum S S := fun _ _ _ _ => rfl
theorem sameSum.tr {S T U : Nat → Int32} (h : sameSum S T) (g : sameSum T U) : sameSum S U := fun k s h1 h2 => (g k s h1 h2).trans (h k s h1 h2)
theorem m_r53 {p g : Nx} {N : Nat} (hp : PI p) (hg : GI p g) (hN : 100 < N) (a : Int32) : ∀ {m u : Nat} {x : Nx} {S : Nat → Int32}, m < u → m ≤ p 6 0 → LI p x → x 8 0 < 2 ^ 30 → RelS p g x S → ∃ T, itn (fX6_rounds_53b N) (fun _ _ _ => none) u S a (dI m) = some (a, T) ∧ RelS p g (down (sBegIf p) m x) T ∧ sameSum S T
  | _, 0, _, _, h, _, _, _, _ => by omega
  | 0, u + 1, x, S, _, _, _, _, h => by
    refine ⟨S, ?_, h, sameSum.rfl'⟩
    rw [itn_s, dI_0]
    unfold fX6_rounds_53b
    simp (disch := omega) only [↓nm_s, ↓bnd_s, ↓reduceIte, nI_add, pk_mul, nI_subdiv, nI_sub', nI_m1, nI_0m1, nI_clamp, gdi_nI, gdz_nI, nI_div, nrem, nI_ltI, nI_leI, nI_eq, leT, leF, ltT, ltF, eqT, eqF, neT, neF, z0, m1lt0, m1lt, m1le, nI_ne_neg, neg_ne_nI, embP_a, embL_a, embL_up, embL_up1, up2_ne, up2_at, up2_o, up1_ne, up1_at, bI_eq0, bI_eq1, or_true, true_or, and_true, true_and, or_false, false_or, and_false, false_and, not_true_eq_false, not_false_eq_true, if_true, if_false,  decide_true, decide_false, bI_t, bI_f, Nat.add_sub_cancel, Nat.zero_add, Nat.add_zero, Nat.mul_zero, upd_eq, upd_ne]
  | m + 1, u + 1, x, S, hu, hm, hx, hT, h => by
    have hn := hp.n
    obtain ⟨T, t1, t2, t3⟩ := m_tries hp hg hx hT hN (k := m) (by omega) h
    obtain ⟨U, u1, u2, u3⟩ := m_r53 hp hg hN a (m := m) (u := u) (by omega) (by omega) (LI_begIf hp hx (by omega)) (by rw [begIf_o (by omega)]; exact hT) t2
    refine ⟨U, ?_, u2, t3.tr u3⟩
    rw [itn_s, dI_s]
    generalize itn (fX6_rounds_53b N) (fun _ _ _ => none) u = K at u1 ⊢
    unfold fX6_rounds_53b
    simp (disch := omega) only [↓nm_s, ↓bnd_s, ↓reduceIte, nI_add, pk_mul, nI_subdiv, nI_sub', nI_m1, nI_0m1, nI_clamp, gdi_nI, gdz_nI, nI_div, nrem, nI_ltI, nI_leI, nI_eq, leT, leF, ltT, ltF, eqT, eqF, neT, neF, z0, m1lt0, m1lt, m1le, nI_ne_neg, neg_ne_nI, embP_a, embL_a, embL_up, embL_up1, up2_ne, up2_at, up2_o, up1_ne, up1_at, bI_eq0, bI_eq1, or_true, true_or, and_true, true_and, or_false, false_or, and_false, false_and, not_true_eq_false, not_false_eq_true, if_true, if_false,  decide_true, decide_false, bI_t, bI_f, Nat.add_sub_cancel, Nat.zero_add, Nat.add_zero, Nat.mul_zero, upd_eq, upd_ne, t1, dI_f, u1]
theorem m_r8 {p g : Nx} {N : Nat} (hp : PI p) (hg : GI p g) (hN : 100 < N) : ∀ {m u o : Nat} {x : Nx} {S : Nat → Int32}, m < u → m ≤ p 6 0 → LI p x → x 8 0 < 2 ^ 30 → RelS p g x S → ∃ T, itn (fX6_rounds_8b N) (fun _ _ _ => none) u S (nI o) (dI m) = some (nI (o + down (sFinIf p) m x 2 (p 6 0 - 1) - x 2 (p 6 0 - 1)), T) ∧ RelS p g (down (sBegIf p) (p 6 0) (down (sFinIf p) m x)) T ∧ sameSum S T
  | _, 0, _, _, _, h, _, _, _, _ => by omega
  | 0, u + 1, o, x, S, _, _, hx, hT, h => by
    have hn := hp.n
    obtain ⟨T, t1, t2, t3⟩ := m_r53 hp hg hN (nI o) (m := p 6 0) (u := N) (by omega) (by omega) hx hT h
    have h1 := h.1.1.2.1
    refine ⟨T, ?_, t2, t3⟩
    rw [itn_s, dI_0]
    unfold fX6_rounds_8b down
    simp (disch := omega) only [↓nm_s, ↓bnd_s, ↓reduceIte, nI_add, pk_mul, nI_subdiv, nI_sub', nI_m1, nI_0m1, nI_clamp, gdi_nI, gdz_nI, nI_div, nrem, nI_ltI, nI_leI, nI_eq, leT, leF, ltT, ltF, eqT, eqF, neT, neF, z0, m1lt0, m1lt, m1le, nI_ne_neg, neg_ne_nI, embP_a, embL_a, embL_up, embL_up1, up2_ne, up2_at, up2_o, up1_ne, up1_at, bI_eq0, bI_eq1, or_true, true_or, and_true, true_and, or_false, false_or, and_false, false_and, not_true_eq_false, not_false_eq_true, if_true, if_false,  decide_true, decide_false, bI_t, bI_f, Nat.add_sub_cancel, Nat.zero_add, Nat.add_zero, Nat.mul_zero, upd_eq, upd_ne, h1, dI_p, fX6_rounds_53, t1]
  | m + 1, u + 1, o, x, S, hu, hm, hx, hT, h => by
    have hn := hp.n
    have hmk := hx.k (k := m) (by omega)
    have hd := h.2.2 m (by omega)
    have a := m_idle hp (k := m) (by omega) hd
    have e3 := m_its (S := S) (k := m) (c := 3) (by omega)
    have h48 := h.2.1.1.1
    rw [show down (sFinIf p) (m + 1) x = down (sFinIf p) m (sFinIf p x m) from rfl]
    have hL := LI_finIf (k := m) hp hx (by omega)
    have hT' : sFinIf p x m 8 0 < 2 ^ 30 := by rw [finIf_o (by omega)]; exact hT
    have rest : ∀ o' S', RelS p g (sFinIf p x m) S' → ∃ T, itn (fX6_rounds_8b N) (fun _ _ _ => none) u S' (nI o') (dI m) = some (nI (o' + down (sFinIf p) m (sFinIf p x m) 2 (p 6 0 - 1) - sFinIf p x m 2 (p 6 0 - 1)), T) ∧ RelS p g (down (sBegIf p) (p 6 0) (down (sFinIf p) m (sFinIf p x m))) T ∧ sameSum S' T := fun o' S' h' => m_r8 hp hg hN (by omega) (by omega) hL hT' h'
    rw [itn_s, dI_s]
    generalize itn (fX6_rounds_8b N) (fun _ _ _ => none) u = K at rest ⊢
    unfold fX6_rounds_8b
    generalize down (sFinIf p) m (sFinIf p x m) = Y at rest ⊢
    unfold sFinIf at rest
    by_cases c : x 1 m = x 2 m
    · rw [if_pos c] at rest
      obtain ⟨T, t1, t2, t3⟩ := rest o S h
      refine ⟨T, ?_, t2, t3⟩
      simp (disch := omega) only [↓nm_s, ↓bnd_s, ↓reduceIte, nI_add, pk_mul, nI_subdiv, nI_sub', nI_m1, nI_0m1, nI_clamp, gdi_nI, gdz_nI, nI_div, nrem, nI_ltI, nI_leI, nI_eq, leT, leF, ltT, ltF, eqT, eqF, neT, neF, z0, m1lt0, m1lt, m1le, nI_ne_neg, neg_ne_nI, embP_a, embL_a, embL_up, embL_up1, up2_ne, up2_at, up2_o, up1_ne, up1_at, bI_eq0, bI_eq1, or_true, true_or, and_true, true_and, or_false, false_or, and_false, false_and, not_true_eq_false, not_false_eq_true, if_true, if_false,  decide_true, decide_false, bI_t, bI_f, Nat.add_sub_cancel, Nat.zero_add, Nat.add_zero, Nat.mul_zero, upd_eq, upd_ne, a, fX6_rounds_41, dI_f, t1]
    · rw [if_neg c] at rest
      have he := hx.e (k := m) (by omega) c
      have d3 := (hd.2.2.1 c).2.1
      by_cases d : x 8 0 < x 3 m
      · rw [if_pos d] at rest
        obtain ⟨T, t1, t2, t3⟩ := rest o S h
        refine ⟨T, ?_, t2, t3⟩
        simp (disch := omega) only [↓nm_s, ↓bnd_s, ↓reduceIte, nI_add, pk_mul, nI_subdiv, nI_sub', nI_m1, nI_0m1, nI_clamp, gdi_nI, gdz_nI, nI_div, nrem, nI_ltI, nI_leI, nI_eq, leT, leF, ltT, ltF, eqT, eqF, neT, neF, z0, m1lt0, m1lt, m1le, nI_ne_neg, neg_ne_nI, embP_a, embL_a, embL_up, embL_up1, up2_ne, up2_at, up2_o, up1_ne, up1_at, bI_eq0, bI_eq1, or_true, true_or, and_true, true_and, or_false, false_or, and_false, false_and, not_true_eq_false, not_false_eq_true, if_true, if_false,  decide_true, decide_false, bI_t, bI_f, Nat.add_sub_cancel, Nat.zero_add, Nat.add_zero, Nat.mul_zero, upd_eq, upd_ne, a, e3, d3, h48, fX6_rounds_41, dI_f, t1]
      · rw [if_neg d] at rest
        obtain ⟨U, u1, u2, u3⟩ := m_goes hp hg hx hT (by omega) (k := m) (N := N) (by omega) c h
        obtain ⟨T, t1, t2, t3⟩ := rest (o + (if m + 1 = p 6 0 then 1 else 0)) U u2
        refine ⟨T, ?_, t2, u3.tr t3⟩
        simp (disch := omega) only [↓nm_s, ↓bnd_s, ↓reduceIte, nI_add, pk_mul, nI_subdiv, nI_sub', nI_m1, nI_0m1, nI_clamp, gdi_nI, gdz_nI, nI_div, nrem, nI_ltI, nI_leI, nI_eq, leT, leF, ltT, ltF, eqT, eqF, neT, neF, z0, m1lt0, m1lt, m1le, nI_ne_neg, neg_ne_nI, embP_a, embL_a, embL_up, embL_up1, up2_ne, up2_at, up2_o, up1_ne, up1_at, bI_eq0, bI_eq1, or_true, true_or, and_true, true_and, or_false, false_or, and_false, false_and, not_true_eq_false, not_false_eq_true, if_true, if_false,  decide_true, decide_false, bI_t, bI_f, Nat.add_sub_cancel, Nat.zero_add, Nat.add_zero, Nat.mul_zero, upd_eq, upd_ne, a, e3, d3, h48, u1]
        rw [show fX6_rounds_41 N K U (nI (o + if m + 1 = p 6 0 then 1 else 0)) (nI m) = K U (nI (o + if m + 1 = p 6 0 then 1 else 0)) (dI m) from rfl, t1, sFin_2]
        by_cases z : m + 1 = p 6 0
        · rw [if_pos z, if_pos (by omega), show p 6 0 - 1 = m from by omega]
          congr 3
          omega
        · rw [if_neg z, if_neg (by omega)]
          congr 3
theorem m_rounds {p g x : Nx} {S : Nat → Int32} {N : Nat} (hp : PI p) (hg : GI p g) (hN : 100 < N) (hx : LI p x) (hT : x 8 0 < 2 ^ 30) (h : RelS p g x S) : ∃ T, fX6_rounds N S = some (nI (sRound p x 2 (p 6 0 - 1) - x 2 (p 6 0 - 1)), T) ∧ RelS p g (sRound p x) T ∧ sameSum S T := by
  have hn := hp.n
  have h1 := h.1.1.2.1
  obtain ⟨T, t1, t2, t3⟩ := m_r8 hp hg hN (m := p 6 0) (u := N) (o := 0) (by omega) (by omega) hx hT h
  refine ⟨T, ?_, t2, t3⟩
  unfold fX6_rounds
  simp (disch := omega) only [↓nm_s, ↓bnd_s, ↓reduceIte, nI_add, pk_mul, nI_subdiv, nI_sub', nI_m1, nI_0m1, nI_clamp, gdi_nI, gdz_nI, nI_div, nrem, nI_ltI, nI_leI, nI_eq, leT, leF, ltT, ltF, eqT, eqF, neT, neF, z0, m1lt0, m1lt, m1le, nI_ne_neg, neg_ne_nI, embP_a, embL_a, embL_up, embL_up1, up2_ne, up2_at, up2_o, up1_ne, up1_at, bI_eq0, bI_eq1, or_true, true_or, and_true, true_and, or_false, false_or, and_false, false_and, not_true_eq_false, not_false_eq_true, if_true, if_false,  decide_true, decide_false, bI_t, bI_f, Nat.add_sub_cancel, Nat.zero_add, Nat.add_zero, Nat.mul_zero, upd_eq, upd_ne, h1, dI_p, fX6_rounds_8, t1]
  unfold sRound
  rw [down_o (f := sBegIf p) (fun _ _ => begIf_o (by omega))]
/-! agreeing lines have the same rows -/
theorem RelS_agr {p g x y : Nx} {S : Nat → Int32} (hp : PI p) (h : Agr x y) (hS : RelS p g x S) : RelS p g y S := by
  have hn := hp.n
  have hq := hp.q
  obtain ⟨hst, hgl, hds⟩ := hS
  have e7 := h.g1 (a := 7) (by omega)
  refine ⟨⟨hst.1, hst.2.1, fun l hl => ?_, fun r hr => ?_⟩, ⟨?_, fun l hl => ?_⟩, fun k hk => ?_⟩
  · rw [h.g4 (by omega)]; exact hst.2.2.1 l hl
  · rw [e7]; exact hst.2.2.2 r hr
  · rw [h.g1 (a := 8) (by omega), h.g1 (a := 9) (by omega), h.g1 (a := 10) (by omega), h.g6 (a := 2) (by omega) (by omega), h.g6 (a := 1) (by omega) (by omega)]
    exact hgl.1
  · have hl2 := hp.l hl
    unfold sFree
    rw [h.g4 (by omega), h.g6 (a := 2) (by omega) (by omega), h.g6 (a := 1) (by omega) (by omega)]
    exact hgl.2 l hl
  · have w : sWait y k = sWait x k := by
      unfold sWait
      rw [h.g6 (a := 2) (by omega) (by omega), h.g6 (a := 1) (by omega) (by omega)]
    have hd := hds k hk
    unfold Dst
    rw [w, e7, h.g6 (a := 2) (by omega) (by omega), h.g6 (a := 1) (by omega) (by omega), h.g6 (a := 3) (by omega) (by omega), h.g5 (Nat.mod_lt _ (by omega))]
    refine ⟨hd.1, hd.2.1, hd.2.2.1, hd.2.2.2.1, fun i hi => ?_⟩
    rw [h.g5 (Nat.mod_lt _ (by omega))]
    exact hd.2.2.2.2 i hi
theorem SumS.mv {p x : Nx} {S T : Nat → Int32} (hp : PI p) (h : SumS p x S) (hs : sameSum S T) : SumS p x T := fun k s h1 h2 => (hs k s (by have := hp.n; omega) h2).trans (h k s h1 h2)
theorem SumS.o {p x y : Nx} {S : Nat → Int32} (h : SumS p x S) (he : ∀ i, y 6 i = x 6 i) : SumS p y S := fun k s h1 h2 => by rw [he]; exact h k s h1 h2
/-! from nothing -/
theorem cl3 {N : Nat} : ∀ {d j u : Nat} {S : Nat → Int32}, d < u → j + d = 353 → ∃ T K, itn (fX6_clears_3b N) (fun _ _ => none) u S (nI j) = fX6_clears_3b N K T (nI 353) ∧ (∀ i, i < j → T i = S i) ∧ ∀ i, j ≤ i → i < 353 → T i = nI 0
  | _, _, 0, _, h, _ => by omega
  | 0, j, u + 1, S, _, e => by
    refine ⟨S, itn (fX6_clears_3b N) (fun _ _ => none) u, ?_, fun _ _ => rfl, fun i h1 h2 => by omega⟩
    rw [itn_s, show j = 353 from by omega]
  | d + 1, j, u + 1, S, hu, e => by
    obtain ⟨T, K, i1, i2, i3⟩ := cl3 (N := N) (d := d) (j := j + 1) (u := u) (S := upd S j (nI 0)) (by omega) (by omega)
    refine ⟨T, K, ?_, ?_, ?_⟩
    · rw [itn_s, ← i1]
      generalize itn (fX6_clears_3b N) (fun _ _ => none) u = K
      unfold fX6_clears_3b
      simp (disch := omega) only [↓nm_s, ↓bnd_s, ↓reduceIte, nI_add, pk_mul, nI_subdiv, nI_sub', nI_m1, nI_0m1, nI_clamp, gdi_nI, gdz_nI, nI_div, nrem, nI_ltI, nI_leI, nI_eq, leT, leF, ltT, ltF, eqT, eqF, neT, neF, z0, m1lt0, m1lt, m1le, nI_ne_neg, neg_ne_nI, embP_a, embL_a, embL_up, embL_up1, up2_ne, up2_at, up2_o, up1_ne, up1_at, bI_eq0, bI_eq1, or_true, true_or, and_true, true_and, or_false, false_or, and_false, false_and, not_true_eq_false, not_false_eq_true, if_true, if_false,  decide_true, decide_false, bI_t, bI_f, Nat.add_sub_cancel, Nat.zero_add, Nat.add_zero, Nat.mul_zero, upd_eq, upd_ne]
    · intro i hi
      rw [i2 i (by omega), upd_ne (by omega)]
    · intro i h1 h2
      by_cases c : i = j
      · subst c
        rw [i2 i (by omega), upd_eq rfl]
      · exact i3 i (by omega) h2
theorem cl32 {N : Nat} : ∀ {d k u : Nat} {S : Nat → Int32}, d < u → k + d = 6 → ∃ T K, itn (fX6_clears_32b N) (fun _ _ => none) u S (nI k) = fX6_clears_32b N K T (nI 6) ∧ (∀ i, (∀ c, k ≤ c → c < 6 → i ≠ 53 + 9 * c ∧ i ≠ 53 + 9 * c + 1) → T i = S i) ∧ ∀ c, k ≤ c → c < 6 → T (53 + 9 * c) = -1 ∧ T (53 + 9 * c + 1) = -1
  | _, _, 0, _, h, _ => by omega
  | 0, k, u + 1, S, _, e => by
    refine ⟨S, itn (fX6_clears_32b N) (fun _ _ => none) u, ?_, fun _ _ => rfl, fun i h1 h2 => by omega⟩
    rw [itn_s, show k = 6 from by omega]
  | d + 1, k, u + 1, S, hu, e => by
    obtain ⟨T, K, i1, i2, i3⟩ := cl32 (N := N) (d := d) (k := k + 1) (u := u) (S := upd (upd S (53 + 9 * k) (-1)) (53 + 9 * k + 1) (-1)) (by omega) (by omega)
    refine ⟨T, K, ?_, ?_, ?_⟩
    · rw [itn_s, ← i1]
      generalize itn (fX6_clears_32b N) (fun _ _ => none) u = K
      unfold fX6_clears_32b
      simp (disch := omega) only [↓nm_s, ↓bnd_s, ↓reduceIte, nI_add, pk_mul, nI_subdiv, nI_sub', nI_m1, nI_0m1, nI_clamp, gdi_nI, gdz_nI, nI_div, nrem, nI_ltI, nI_leI, nI_eq, leT, leF, ltT, ltF, eqT, eqF, neT, neF, z0, m1lt0, m1lt, m1le, nI_ne_neg, neg_ne_nI, embP_a, embL_a, embL_up, embL_up1, up2_ne, up2_at, up2_o, up1_ne, up1_at, bI_eq0, bI_eq1, or_true, true_or, and_true, true_and, or_false, false_or, and_false, false_and, not_true_eq_false, not_false_eq_true, if_true, if_false,  decide_true, decide_false, bI_t, bI_f, Nat.add_sub_cancel, Nat.zero_add, Nat.add_zero, Nat.mul_zero, upd_eq, upd_ne]
    · intro i hi
      have := hi k (by omega) (by omega)
      rw [i2 i (fun c h1 h2 => hi c (by omega) h2), upd_ne this.2, upd_ne this.1]
    · intro c h1 h2
      by_cases z : c = k
      · subst z
        rw [i2 _ (fun c h1 h2 => by omega), upd_ne (by omega), upd_eq rfl, i2 _ (fun c h1 h2 => by omega), upd_eq rfl]
        exact ⟨rfl, rfl⟩
      · exact i3 c (by omega) h2
theorem cl70 {N q : Nat} (hq : q ≤ 5) : ∀ {d l u : Nat} {S : Nat → Int32}, d < u → l + d = q → S 14 = nI q → ∃ T, itn (fX6_clears_70b N) (fun _ _ => none) u S (nI l) = some T ∧ (∀ i, (∀ c, l ≤ c → c < q → i ≠ 15 + 4 * c + 3) → T i = S i) ∧ ∀ c, l ≤ c → c < q → T (15 + 4 * c + 3) = S (15 + 4 * c + 2)
  | _, _, 0, _, h, _, _ => by omega
  | 0, l, u + 1, S, _, e, h14 => by
    refine ⟨S, ?_, fun _ _ => rfl, fun i h1 h2 => by omega⟩
    rw [itn_s]
    unfold fX6_clears_70b
    simp (disch := omega) only [↓nm_s, ↓bnd_s, ↓reduceIte, nI_add, pk_mul, nI_subdiv, nI_sub', nI_m1, nI_0m1, nI_clamp, gdi_nI, gdz_nI, nI_div, nrem, nI_ltI, nI_leI, nI_eq, leT, leF, ltT, ltF, eqT, eqF, neT, neF, z0, m1lt0, m1lt, m1le, nI_ne_neg, neg_ne_nI, embP_a, embL_a, embL_up, embL_up1, up2_ne, up2_at, up2_o, up1_ne, up1_at, bI_eq0, bI_eq1, or_true, true_or, and_true, true_and, or_false, false_or, and_false, false_and, not_true_eq_false, not_false_eq_true, if_true, if_false,  decide_true, decide_false, bI_t, bI_f, Nat.add_sub_cancel, Nat.zero_add, Nat.add_zero, Nat.mul_zero, upd_eq, upd_ne, h14]
  | d + 1, l, u + 1, S, hu, e, h14 => by
    obtain ⟨T, i1, i2, i3⟩ := cl70 (N := N) hq (d := d) (l := l + 1) (u := u) (S := upd S (15 + 4 * l + 3) (S (15 + 4 * l + 2))) (by omega) (by omega) (by rw [upd_ne (by omega)]; exact h14)
    refine ⟨T, ?_, ?_, ?_⟩
    · rw [itn_s]
      generalize itn (fX6_clears_70b N) (fun _ _ => none) u = K at i1 ⊢
      unfold fX6_clears_70b
      simp (disch := omega) only [↓nm_s, ↓bnd_s, ↓reduceIte, nI_add, pk_mul, nI_subdiv, nI_sub', nI_m1, nI_0m1, nI_clamp, gdi_nI, gdz_nI, nI_div, nrem, nI_ltI, nI_leI, nI_eq, leT, leF, ltT, ltF, eqT, eqF, neT, neF, z0, m1lt0, m1lt, m1le, nI_ne_neg, neg_ne_nI, embP_a, embL_a, embL_up, embL_up1, up2_ne, up2_at, up2_o, up1_ne, up1_at, bI_eq0, bI_eq1, or_true, true_or, and_true, true_and, or_false, false_or, and_false, false_and, not_true_eq_false, not_false_eq_true, if_true, if_false,  decide_true, decide_false, bI_t, bI_f, Nat.add_sub_cancel, Nat.zero_add, Nat.add_zero, Nat.mul_zero, upd_eq, upd_ne, h14, i1]
    · intro i hi
      rw [i2 i (fun c h1 h2 => hi c (by omega) h2), upd_ne (hi l (by omega) (by omega))]
    · intro c h1 h2
      by_cases z : c = l
      · subst z
        rw [i2 _ (fun c h1 h2 => by omega), upd_eq rfl]
      · rw [i3 c (by omega) h2, upd_ne (by omega)]
theorem m_clears {N q : Nat} (hq : q ≤ 5) (hN : 400 < N) {S : Nat → Int32} (h14 : S 14 = nI q) : ∃ T, fX6_clears N S = some T ∧ (∀ j, j < 48 → (∀ l, l < q → j ≠ 15 + 4 * l + 3) → T j = S j) ∧ (∀ l, l < q → T (15 + 4 * l + 3) = S (15 + 4 * l + 2)) ∧ (∀ k, k < 6 → T (53 + 9 * k) = -1 ∧ T (53 + 9 * k + 1) = -1) ∧ T 51 = -1 ∧ T 52 = -1 ∧ ∀ j, 48 ≤ j → j < 353 → j ≠ 51 → j ≠ 52 → (∀ k, k < 6 → j ≠ 53 + 9 * k ∧ j ≠ 53 + 9 * k + 1) → T j = nI 0 := by
  obtain ⟨A, K, a1, a2, a3⟩ := cl3 (N := N) (d := 305) (j := 48) (u := N) (S := S) (by omega) (by omega)
  obtain ⟨B, K2, b1, b2, b3⟩ := cl32 (N := N) (d := 6) (k := 0) (u := N) (S := upd (upd A 51 (-1)) 52 (-1)) (by omega) (by omega)
  have e14 : B 14 = nI q := by rw [b2 14 (fun c h1 h2 => by omega), upd_ne (by omega), upd_ne (by omega), a2 14 (by omega)]; exact h14
  obtain ⟨T, t1, t2, t3⟩ := cl70 (N := N) hq (d := q) (l := 0) (u := N) (S := B) (by omega) (by omega) e14
  refine ⟨T, ?_, ?_, ?_, ?_, ?_, ?_, ?_⟩
  · unfold fX6_clears
    rw [nm_s]
    unfold fX6_clears_3
    rw [a1]
    unfold fX6_clears_3b
    simp (disch := omega) only [↓nm_s, ↓bnd_s, ↓reduceIte, nI_add, pk_mul, nI_subdiv, nI_sub', nI_m1, nI_0m1, nI_clamp, gdi_nI, gdz_nI, nI_div, nrem, nI_ltI, nI_leI, nI_eq, leT, leF, ltT, ltF, eqT, eqF, neT, neF, z0, m1lt0, m1lt, m1le, nI_ne_neg, neg_ne_nI, embP_a, embL_a, embL_up, embL_up1, up2_ne, up2_at, up2_o, up1_ne, up1_at, bI_eq0, bI_eq1, or_true, true_or, and_true, true_and, or_false, false_or, and_false, false_and, not_true_eq_false, not_false_eq_true, if_true, if_false,  decide_true, decide_false, bI_t, bI_f, Nat.add_sub_cancel, Nat.zero_add, Nat.add_zero, Nat.mul_zero, upd_eq, upd_ne, fX6_clears_32, b1]
    unfold fX6_clears_32b
    simp (disch := omega) only [↓nm_s, ↓bnd_s, ↓reduceIte, nI_add, pk_mul, nI_subdiv, nI_sub', nI_m1, nI_0m1, nI_clamp, gdi_nI, gdz_nI, nI_div, nrem, nI_ltI, nI_leI, nI_eq, leT, leF, ltT, ltF, eqT, eqF, neT, neF, z0, m1lt0, m1lt, m1le, nI_ne_neg, neg_ne_nI, embP_a, embL_a, embL_up, embL_up1, up2_ne, up2_at, up2_o, up1_ne, up1_at, bI_eq0, bI_eq1, or_true, true_or, and_true, true_and, or_false, false_or, and_false, false_and, not_true_eq_false, not_false_eq_true, if_true, if_false,  decide_true, decide_false, bI_t, bI_f, Nat.add_sub_cancel, Nat.zero_add, Nat.add_zero, Nat.mul_zero, upd_eq, upd_ne, fX6_clears_70, t1]
  · intro j hj hl
    rw [t2 j (fun c _ h2 => hl c h2), b2 j (fun c h1 h2 => by omega), upd_ne (by omega), upd_ne (by omega), a2 j hj]
  · intro l hl
    rw [t3 l (by omega) hl, b2 _ (fun c h1 h2 => by omega), upd_ne (by omega), upd_ne (by omega), a2 _ (by omega)]
  · intro k hk
    rw [t2 _ (fun c h1 h2 => by omega), t2 _ (fun c h1 h2 => by omega)]
    exact b3 k (by omega) hk
  · rw [t2 _ (fun c h1 h2 => by omega), b2 _ (fun c h1 h2 => by omega), upd_ne (by omega), upd_eq rfl]
  · rw [t2 _ (fun c h1 h2 => by omega), b2 _ (fun c h1 h2 => by omega), upd_eq rfl]
  · intro j h1 h2 h3 h4 h5
    rw [t2 _ (fun c h1 h2 => by omega), b2 _ (fun c h6 h7 => h5 c h7), upd_ne h4, upd_ne h3, a3 j h1 h2]
theorem clr_1 {x : Nx} {C : Nat → Nat} {f a i : Nat} (ha : a = 1 ∨ a = 2) (hi : i < 6) : sClr x C f a i = 0 := by
  rcases ha with rfl | rfl <;> simp [sClr, hi]
theorem clr_4 {x : Nx} {C : Nat → Nat} {f i : Nat} (hi : i < 5) : sClr x C f 4 i = C i := by simp [sClr, hi]
theorem clr_6 {x : Nx} {C : Nat → Nat} {f i : Nat} (hi : i < 24) : sClr x C f 6 i = 0 := by simp [sClr, hi]
theorem clr_7 {x : Nx} {C : Nat → Nat} {f i : Nat} : sClr x C f 7 i = f := by simp [sClr]
theorem clr_8 {x : Nx} {C : Nat → Nat} {f a i : Nat} (ha : a = 8 ∨ a = 9 ∨ a = 10) : sClr x C f a i = 0 := by
  rcases ha with rfl | rfl | rfl <;> simp [sClr]
theorem rel_clr {p g x : Nx} {C : Nat → Nat} {f : Nat} {S T : Nat → Int32} (hp : PI p) (hg : GI p g) (h : Stat p g C f S) (t1 : ∀ j, j < 48 → (∀ l, l < p 7 0 → j ≠ 15 + 4 * l + 3) → T j = S j) (t2 : ∀ l, l < p 7 0 → T (15 + 4 * l + 3) = S (15 + 4 * l + 2)) (t3 : ∀ k, k < 6 → T (53 + 9 * k) = -1 ∧ T (53 + 9 * k + 1) = -1) (t4 : T 51 = -1) (t5 : T 52 = -1) (t6 : ∀ j, 48 ≤ j → j < 353 → j ≠ 51 → j ≠ 52 → (∀ k, k < 6 → j ≠ 53 + 9 * k ∧ j ≠ 53 + 9 * k + 1) → T j = nI 0) : RelS p g (sClr x C f) T ∧ SumS p (sClr x C f) T := by
  have hn := hp.n
  have hq := hp.q
  have m1 : nI 0 - nI 1 = -1 := by decide
  refine ⟨⟨?_, ⟨⟨?_, ?_, ?_, ?_, ?_⟩, ?_⟩, ?_⟩, ?_⟩
  · rw [clr_7]
    exact Stat.mv hp hg h (fun l hl => clr_4 (by omega)) t1
  · rw [clr_8 (by omega)]; exact t6 48 (by omega) (by omega) (by omega) (by omega) (fun k _ => by omega)
  · rw [clr_1 (by omega) (by omega)]; exact t6 49 (by omega) (by omega) (by omega) (by omega) (fun k _ => by omega)
  · rw [clr_1 (by omega) (by omega)]; exact t6 50 (by omega) (by omega) (by omega) (by omega) (fun k _ => by omega)
  · rw [clr_8 (by omega), m1]; exact t4
  · rw [clr_8 (by omega), m1]; exact t5
  · intro l hl
    have hl2 := hp.l hl
    rw [t2 l hl, (h.2.2.1 l hl).2.2]
    unfold sFree
    rw [clr_4 (by omega), clr_1 (by omega) (by omega), clr_1 (by omega) (by omega)]
    rfl
  · intro k hk
    have w : sWait (sClr x C f) k = 0 := by
      unfold sWait
      rw [clr_1 (by omega) (by omega), clr_1 (by omega) (by omega)]
      split <;> rfl
    unfold Dst
    rw [w, clr_1 (a := 1) (by omega) (by omega), clr_1 (a := 2) (by omega) (by omega)]
    refine ⟨(t3 k (by omega)).1, (t3 k (by omega)).2, fun z => absurd rfl z, t6 _ (by omega) (by omega) (by omega) (by omega) (fun c _ => by omega), fun i hi => by omega⟩
  · intro k s hk hs
    rw [clr_6 (by omega)]
    exact t6 _ (by omega) (by omega) (by omega) (by omega) (fun c _ => by omega)
theorem m_begins {p g x : Nx} {C : Nat → Nat} {f N : Nat} {S : Nat → Int32} (hp : PI p) (hg : GI p g) (hN : 400 < N) (hf : 1 ≤ f ∧ f ≤ 5) (hC : ∀ l, l < p 7 0 → 1 ≤ C l ∧ C l ≤ 20) (h : Stat p g C f S) : ∃ T, fX6_begins N S = some T ∧ RelS p g (sRound p (sClr x C f)) T ∧ SumS p (sRound p (sClr x C f)) T := by
  have hq := hp.q
  obtain ⟨T, c1, c2, c3, c4, c5, c6, c7⟩ := m_clears (N := N) (q := p 7 0) (by omega) hN h.1.2.2.1
  have r := rel_clr (x := x) hp hg h c2 c3 c4 c5 c6 c7
  obtain ⟨U, u1, u2, u3⟩ := m_rounds (N := N) hp hg (by omega) (LI_clr (x := x) hp hf hC) (by rw [clr_8 (by omega)]; omega) r.1
  refine ⟨U, ?_, u2, SumS.o (r.2.mv hp u3) (fun i => round_o (by omega))⟩
  unfold fX6_begins
  simp (disch := omega) only [↓nm_s, ↓bnd_s, ↓reduceIte, nI_add, pk_mul, nI_subdiv, nI_sub', nI_m1, nI_0m1, nI_clamp, gdi_nI, gdz_nI, nI_div, nrem, nI_ltI, nI_leI, nI_eq, leT, leF, ltT, ltF, eqT, eqF, neT, neF, z0, m1lt0, m1lt, m1le, nI_ne_neg, neg_ne_nI, embP_a, embL_a, embL_up, embL_up1, up2_ne, up2_at, up2_o, up1_ne, up1_at, bI_eq0, bI_eq1, or_true, true_or, and_true, true_and, or_false, false_or, and_false, false_and, not_true_eq_false, not_false_eq_true, if_true, if_false,  decide_true, decide_false, bI_t, bI_f, Nat.add_sub_cancel, Nat.zero_add, Nat.add_zero, Nat.mul_zero, upd_eq, upd_ne, c1, u1]
