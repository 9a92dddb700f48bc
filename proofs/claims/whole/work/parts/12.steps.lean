/-! the model: minutes, who is through next, steps -/
theorem m_doing {p g x : Nx} {S : Nat → Int32} {k : Nat} (hp : PI p) (hx : LI p x) (hT : x 8 0 < 2 ^ 30) (hk : k < p 6 0) (h : RelS p g x S) : fX6_doing S (nI k) = some (nI (sState p x k)) := by
  have hn := hp.n
  have hd := h.2.2 k hk
  have a := m_idle hp hk hd
  have w := m_wait hp hk hd
  have wl := sWait_le hx hk
  have h48 := h.2.1.1.1
  have e2 := m_its (S := S) (k := k) (c := 2) (by omega)
  unfold fX6_doing sState
  by_cases c : x 1 k = x 2 k
  · by_cases d : k = 0
    · simp (disch := omega) only [↓nm_s, ↓bnd_s, ↓reduceIte, nI_add, pk_mul, nI_subdiv, nI_sub', nI_m1, nI_0m1, nI_clamp, gdi_nI, gdz_nI, nI_div, nrem, nI_ltI, nI_leI, nI_eq, leT, leF, ltT, ltF, eqT, eqF, neT, neF, z0, m1lt0, m1lt, m1le, nI_ne_neg, neg_ne_nI, embP_a, embL_a, embL_up, embL_up1, up2_ne, up2_at, up2_o, up1_ne, up1_at, bI_eq0, bI_eq1, or_true, true_or, and_true, true_and, or_false, false_or, and_false, false_and, not_true_eq_false, not_false_eq_true, if_true, if_false,  decide_true, decide_false, bI_t, bI_f, Nat.add_sub_cancel, Nat.zero_add, Nat.add_zero, Nat.mul_zero, upd_eq, upd_ne, a, fX6_doing_24]
    · by_cases e : sWait x k = 0
      · simp (disch := omega) only [↓nm_s, ↓bnd_s, ↓reduceIte, nI_add, pk_mul, nI_subdiv, nI_sub', nI_m1, nI_0m1, nI_clamp, gdi_nI, gdz_nI, nI_div, nrem, nI_ltI, nI_leI, nI_eq, leT, leF, ltT, ltF, eqT, eqF, neT, neF, z0, m1lt0, m1lt, m1le, nI_ne_neg, neg_ne_nI, embP_a, embL_a, embL_up, embL_up1, up2_ne, up2_at, up2_o, up1_ne, up1_at, bI_eq0, bI_eq1, or_true, true_or, and_true, true_and, or_false, false_or, and_false, false_and, not_true_eq_false, not_false_eq_true, if_true, if_false,  decide_true, decide_false, bI_t, bI_f, Nat.add_sub_cancel, Nat.zero_add, Nat.add_zero, Nat.mul_zero, upd_eq, upd_ne, a, w, fX6_doing_24]
      · simp (disch := omega) only [↓nm_s, ↓bnd_s, ↓reduceIte, nI_add, pk_mul, nI_subdiv, nI_sub', nI_m1, nI_0m1, nI_clamp, gdi_nI, gdz_nI, nI_div, nrem, nI_ltI, nI_leI, nI_eq, leT, leF, ltT, ltF, eqT, eqF, neT, neF, z0, m1lt0, m1lt, m1le, nI_ne_neg, neg_ne_nI, embP_a, embL_a, embL_up, embL_up1, up2_ne, up2_at, up2_o, up1_ne, up1_at, bI_eq0, bI_eq1, or_true, true_or, and_true, true_and, or_false, false_or, and_false, false_and, not_true_eq_false, not_false_eq_true, if_true, if_false,  decide_true, decide_false, bI_t, bI_f, Nat.add_sub_cancel, Nat.zero_add, Nat.add_zero, Nat.mul_zero, upd_eq, upd_ne, a, w, fX6_doing_24]
  · have d3 := (hd.2.2.1 c).1
    have he := hx.e hk c
    by_cases d : x 3 k - p 0 k ≤ x 8 0
    · simp (disch := omega) only [↓nm_s, ↓bnd_s, ↓reduceIte, nI_add, pk_mul, nI_subdiv, nI_sub', nI_m1, nI_0m1, nI_clamp, gdi_nI, gdz_nI, nI_div, nrem, nI_ltI, nI_leI, nI_eq, leT, leF, ltT, ltF, eqT, eqF, neT, neF, z0, m1lt0, m1lt, m1le, nI_ne_neg, neg_ne_nI, embP_a, embL_a, embL_up, embL_up1, up2_ne, up2_at, up2_o, up1_ne, up1_at, bI_eq0, bI_eq1, or_true, true_or, and_true, true_and, or_false, false_or, and_false, false_and, not_true_eq_false, not_false_eq_true, if_true, if_false,  decide_true, decide_false, bI_t, bI_f, Nat.add_sub_cancel, Nat.zero_add, Nat.add_zero, Nat.mul_zero, upd_eq, upd_ne, a, e2, d3, h48]
    · simp (disch := omega) only [↓nm_s, ↓bnd_s, ↓reduceIte, nI_add, pk_mul, nI_subdiv, nI_sub', nI_m1, nI_0m1, nI_clamp, gdi_nI, gdz_nI, nI_div, nrem, nI_ltI, nI_leI, nI_eq, leT, leF, ltT, ltF, eqT, eqF, neT, neF, z0, m1lt0, m1lt, m1le, nI_ne_neg, neg_ne_nI, embP_a, embL_a, embL_up, embL_up1, up2_ne, up2_at, up2_o, up1_ne, up1_at, bI_eq0, bI_eq1, or_true, true_or, and_true, true_and, or_false, false_or, and_false, false_and, not_true_eq_false, not_false_eq_true, if_true, if_false,  decide_true, decide_false, bI_t, bI_f, Nat.add_sub_cancel, Nat.zero_add, Nat.add_zero, Nat.mul_zero, upd_eq, upd_ne, a, e2, d3, h48]
def addM (p : Nx) (u : Nat) (x : Nx) (k s : Nat) : Nat := if x 1 k = x 2 k then (if s = (if k = 0 ∨ sWait x k ≠ 0 then 1 else 0) then u - x 8 0 else 0) else if s = 2 then min u (x 3 k - p 0 k) - x 8 0 else if s = 3 then u - x 8 0 - (min u (x 3 k - p 0 k) - x 8 0) else 0
theorem addM_o {p x y : Nx} {u k s : Nat} (h : ∀ a i, a ≠ 6 → y a i = x a i) : addM p u y k s = addM p u x k s := by
  unfold addM sWait
  rw [h 1 k (by omega), h 2 k (by omega), h 3 k (by omega), h 8 0 (by omega), h 2 (k - 1) (by omega)]
theorem mIf_6 {p x : Nx} {u k s j : Nat} (hs : s < 4) : mIf p u x j 6 (k * 4 + s) = x 6 (k * 4 + s) + if k = j then addM p u x k s else 0 := by
  unfold mIf addM
  by_cases c : x 1 j = x 2 j
  · rw [if_pos c, up2_if]
    by_cases e : k = j
    · subst e
      rw [if_pos rfl, if_pos c]
      by_cases z : k = 0 ∨ sWait x k ≠ 0
      · simp only [if_pos z]
        by_cases y : s = 1
        · rw [if_pos (by omega), if_pos y, y]
        · rw [if_neg (by omega), if_neg y]; rfl
      · simp only [if_neg z]
        by_cases y : s = 0
        · rw [if_pos (by omega), if_pos y, y]
        · rw [if_neg (by omega), if_neg y]; rfl
    · rw [if_neg e, if_neg]
      · rfl
      · split <;> omega
  · rw [if_neg c, up2_if, up2_if]
    by_cases e : k = j
    · subst e
      rw [if_pos rfl, if_neg c]
      by_cases y : s = 2
      · rw [if_neg (by omega), if_pos (by omega), if_pos y, y]
      · rw [if_neg y]
        by_cases y3 : s = 3
        · rw [if_pos (by omega), if_pos y3, y3]
        · rw [if_neg (by omega), if_neg (by omega), if_neg y3]; rfl
    · rw [if_neg e, if_neg (by omega), if_neg (by omega)]; rfl
theorem upw_6 {p : Nx} {u k s : Nat} (hs : s < 4) : ∀ {n l : Nat} {x : Nx}, upw (mIf p u) l n x 6 (k * 4 + s) = x 6 (k * 4 + s) + if l ≤ k ∧ k < l + n then addM p u x k s else 0
  | 0, l, x => by
    rw [if_neg (by omega)]; rfl
  | n + 1, l, x => by
    show upw (mIf p u) (l + 1) n (mIf p u x l) 6 (k * 4 + s) = _
    rw [upw_6 hs, mIf_6 hs, addM_o (y := mIf p u x l) (x := x) (fun a i h => mIf_o h)]
    by_cases e : k = l
    · subst e
      rw [if_pos rfl, if_neg (by omega), if_pos (by omega)]; rfl
    · rw [if_neg e]
      by_cases z : l ≤ k ∧ k < l + (n + 1)
      · rw [if_pos z, if_pos (by omega)]; rfl
      · rw [if_neg z, if_neg (by omega)]
theorem sMin_6 {p x : Nx} {u k s : Nat} (hk : k < p 6 0) (hs : s < 4) : sMin p u x 6 (k * 4 + s) = x 6 (k * 4 + s) + addM p u x k s := by
  unfold sMin
  rw [upw_6 hs, if_pos (by omega)]
/-- one station's minutes -/
theorem w_one {p g x : Nx} {S : Nat → Int32} {k u N : Nat} {K : (Nat → Int32) → Int32 → Int32 → Option (Nat → Int32)} (hp : PI p) (hx : LI p x) (hu : u < 2 ^ 30) (hT : x 8 0 ≤ u) (hk : k < p 6 0) (hS1 : S 1 = nI (p 6 0)) (hdo : fX6_doing S (nI k) = some (nI (sState p x k))) (h2 : x 1 k ≠ x 2 k → S (53 + 9 * k + 2) = nI (x 3 k - p 0 k)) (h48 : S 48 = nI (x 8 0)) : ∃ T, fX6_waits_2b N K S (nI (u - x 8 0)) (nI k) = K T (nI (u - x 8 0)) (nI (k + 1)) ∧ (∀ j, (∀ s, s < 4 → j ≠ 53 + 9 * k + 5 + s) → T j = S j) ∧ ∀ s, s < 4 → T (53 + 9 * k + 5 + s) = S (53 + 9 * k + 5 + s) + nI (addM p u x k s) := by
  have hn := hp.n
  have e2 := m_its (S := S) (k := k) (c := 2) (by omega)
  have n0 : ∀ z : Int32, z + nI 0 = z := fun z => by rw [← z0]; exact Int32.add_zero z
  unfold sState at hdo
  by_cases c : x 1 k = x 2 k
  · rw [if_pos c] at hdo
    generalize hst : (if k = 0 ∨ sWait x k ≠ 0 then 1 else 0) = st at hdo
    have hst2 : st = 0 ∨ st = 1 := by rw [← hst]; split <;> omega
    refine ⟨upd (upd S (53 + 9 * k + 5 + st) (S (53 + 9 * k + 5 + st) + nI (u - x 8 0))) (53 + 9 * k + 5 + 3) (S (53 + 9 * k + 5 + 3) + nI (u - x 8 0 - (u - x 8 0))), ?_, ?_, ?_⟩
    · unfold fX6_waits_2b
      simp (disch := omega) only [↓nm_s, ↓bnd_s, ↓reduceIte, nI_add, pk_mul, nI_subdiv, nI_sub', nI_m1, nI_0m1, nI_clamp, gdi_nI, gdz_nI, nI_div, nrem, nI_ltI, nI_leI, nI_eq, leT, leF, ltT, ltF, eqT, eqF, neT, neF, z0, m1lt0, m1lt, m1le, nI_ne_neg, neg_ne_nI, embP_a, embL_a, embL_up, embL_up1, up2_ne, up2_at, up2_o, up1_ne, up1_at, bI_eq0, bI_eq1, or_true, true_or, and_true, true_and, or_false, false_or, and_false, false_and, not_true_eq_false, not_false_eq_true, if_true, if_false,  decide_true, decide_false, bI_t, bI_f, Nat.add_sub_cancel, Nat.zero_add, Nat.add_zero, Nat.mul_zero, upd_eq, upd_ne, hS1, hdo, fX6_waits_49, fX6_waits_50]
    · intro j hj
      rw [upd_ne (hj 3 (by omega)), upd_ne (hj st (by omega))]
    · intro s hs
      unfold addM
      rw [if_pos c, hst]
      by_cases y : s = st
      · subst y
        rw [if_pos rfl, upd_ne (by omega), upd_eq rfl]
      · rw [if_neg y]
        by_cases y3 : s = 3
        · subst y3
          rw [upd_eq rfl, Nat.sub_self]
        · rw [upd_ne (by omega), upd_ne (by omega), n0]
  · rw [if_neg c] at hdo
    have d2 := h2 c
    have he := hx.e hk c
    by_cases d : x 3 k - p 0 k ≤ x 8 0
    · rw [if_pos d] at hdo
      refine ⟨upd (upd S (53 + 9 * k + 5 + 3) (S (53 + 9 * k + 5 + 3) + nI (u - x 8 0))) (53 + 9 * k + 5 + 3) (S (53 + 9 * k + 5 + 3) + nI (u - x 8 0) + nI (u - x 8 0 - (u - x 8 0))), ?_, ?_, ?_⟩
      · unfold fX6_waits_2b
        simp (disch := omega) only [↓nm_s, ↓bnd_s, ↓reduceIte, nI_add, pk_mul, nI_subdiv, nI_sub', nI_m1, nI_0m1, nI_clamp, gdi_nI, gdz_nI, nI_div, nrem, nI_ltI, nI_leI, nI_eq, leT, leF, ltT, ltF, eqT, eqF, neT, neF, z0, m1lt0, m1lt, m1le, nI_ne_neg, neg_ne_nI, embP_a, embL_a, embL_up, embL_up1, up2_ne, up2_at, up2_o, up1_ne, up1_at, bI_eq0, bI_eq1, or_true, true_or, and_true, true_and, or_false, false_or, and_false, false_and, not_true_eq_false, not_false_eq_true, if_true, if_false,  decide_true, decide_false, bI_t, bI_f, Nat.add_sub_cancel, Nat.zero_add, Nat.add_zero, Nat.mul_zero, upd_eq, upd_ne, hS1, hdo, fX6_waits_49, fX6_waits_50]
      · intro j hj
        rw [upd_ne (hj 3 (by omega)), upd_ne (hj 3 (by omega))]
      · intro s hs
        unfold addM
        rw [if_neg c, show min u (x 3 k - p 0 k) - x 8 0 = 0 from by omega]
        by_cases y : s = 3
        · subst y
          rw [upd_eq rfl, if_neg (by omega), if_pos rfl, Nat.sub_self, n0]; rfl
        · rw [upd_ne (by omega), upd_ne (by omega), if_neg y]
          by_cases y2 : s = 2
          · rw [if_pos y2, n0]
          · rw [if_neg y2, n0]
    · rw [if_neg d] at hdo
      refine ⟨upd (upd S (53 + 9 * k + 5 + 2) (S (53 + 9 * k + 5 + 2) + nI (min u (x 3 k - p 0 k) - x 8 0))) (53 + 9 * k + 5 + 3) (S (53 + 9 * k + 5 + 3) + nI (u - x 8 0 - (min u (x 3 k - p 0 k) - x 8 0))), ?_, ?_, ?_⟩
      · unfold fX6_waits_2b
        by_cases z : x 3 k - p 0 k < u
        · rw [Nat.min_eq_right (by omega)]
          simp (disch := omega) only [↓nm_s, ↓bnd_s, ↓reduceIte, nI_add, pk_mul, nI_subdiv, nI_sub', nI_m1, nI_0m1, nI_clamp, gdi_nI, gdz_nI, nI_div, nrem, nI_ltI, nI_leI, nI_eq, leT, leF, ltT, ltF, eqT, eqF, neT, neF, z0, m1lt0, m1lt, m1le, nI_ne_neg, neg_ne_nI, embP_a, embL_a, embL_up, embL_up1, up2_ne, up2_at, up2_o, up1_ne, up1_at, bI_eq0, bI_eq1, or_true, true_or, and_true, true_and, or_false, false_or, and_false, false_and, not_true_eq_false, not_false_eq_true, if_true, if_false,  decide_true, decide_false, bI_t, bI_f, Nat.add_sub_cancel, Nat.zero_add, Nat.add_zero, Nat.mul_zero, upd_eq, upd_ne, hS1, hdo, e2, d2, h48, fX6_waits_49, fX6_waits_50]
        · rw [Nat.min_eq_left (by omega)]
          simp (disch := omega) only [↓nm_s, ↓bnd_s, ↓reduceIte, nI_add, pk_mul, nI_subdiv, nI_sub', nI_m1, nI_0m1, nI_clamp, gdi_nI, gdz_nI, nI_div, nrem, nI_ltI, nI_leI, nI_eq, leT, leF, ltT, ltF, eqT, eqF, neT, neF, z0, m1lt0, m1lt, m1le, nI_ne_neg, neg_ne_nI, embP_a, embL_a, embL_up, embL_up1, up2_ne, up2_at, up2_o, up1_ne, up1_at, bI_eq0, bI_eq1, or_true, true_or, and_true, true_and, or_false, false_or, and_false, false_and, not_true_eq_false, not_false_eq_true, if_true, if_false,  decide_true, decide_false, bI_t, bI_f, Nat.add_sub_cancel, Nat.zero_add, Nat.add_zero, Nat.mul_zero, upd_eq, upd_ne, hS1, hdo, e2, d2, h48, fX6_waits_49, fX6_waits_50]
      · intro j hj
        rw [upd_ne (hj 3 (by omega)), upd_ne (hj 2 (by omega))]
      · intro s hs
        unfold addM
        rw [if_neg c]
        by_cases y : s = 2
        · subst y
          rw [if_pos rfl, upd_ne (by omega), upd_eq rfl]
        · rw [if_neg y]
          by_cases y3 : s = 3
          · subst y3
            rw [if_pos rfl, upd_eq rfl]
          · rw [if_neg y3, upd_ne (by omega), upd_ne (by omega), n0]
/-- rows that differ in minutes alone -/
theorem RelS_sum {p g x : Nx} {S T : Nat → Int32} (hp : PI p) (hg : GI p g) (hx : LI p x) (h : RelS p g x S) (hT : ∀ j, (∀ k s, k < 6 → s < 4 → j ≠ 53 + 9 * k + 5 + s) → T j = S j) : RelS p g x T := by
  have hn := hp.n
  have hq := hp.q
  obtain ⟨hst, hgl, hds⟩ := h
  refine ⟨Stat.mv hp hg hst (fun _ _ => rfl) (fun j hj _ => hT j (fun _ _ _ _ => by omega)), ⟨⟨?_, ?_, ?_, ?_, ?_⟩, fun l hl => ?_⟩, fun k hk => ?_⟩
  · rw [hT _ (fun _ _ _ _ => by omega)]; exact hgl.1.1
  · rw [hT _ (fun _ _ _ _ => by omega)]; exact hgl.1.2.1
  · rw [hT _ (fun _ _ _ _ => by omega)]; exact hgl.1.2.2.1
  · rw [hT _ (fun _ _ _ _ => by omega)]; exact hgl.1.2.2.2.1
  · rw [hT _ (fun _ _ _ _ => by omega)]; exact hgl.1.2.2.2.2
  · rw [hT _ (fun _ _ _ _ => by omega)]; exact hgl.2 l hl
  · exact Dst.mv (x := x) (S := S) (sWait_20 hp hx hk) (hds k hk) rfl rfl rfl rfl rfl (fun _ _ _ _ => rfl) (fun c hc => hT _ (fun _ _ _ _ => by omega)) (fun c hc => hT _ (fun _ _ _ _ => by omega)) (hx.k hk).1
theorem w_loop {p g x : Nx} {u N : Nat} (hp : PI p) (hg : GI p g) (hx : LI p x) (hu : u < 2 ^ 30) (hT : x 8 0 ≤ u) : ∀ {d l f : Nat} {S : Nat → Int32}, d < f → l + d = p 6 0 → RelS p g x S → ∃ T, itn (fX6_waits_2b N) (fun _ _ _ => none) f S (nI (u - x 8 0)) (nI l) = some (upd T 48 (nI u)) ∧ (∀ j, (∀ k s, k < 6 → s < 4 → j ≠ 53 + 9 * k + 5 + s) → T j = S j) ∧ (∀ k s, k < l → s < 4 → T (53 + 9 * k + 5 + s) = S (53 + 9 * k + 5 + s)) ∧ ∀ k s, l ≤ k → k < p 6 0 → s < 4 → T (53 + 9 * k + 5 + s) = S (53 + 9 * k + 5 + s) + nI (addM p u x k s)
  | _, _, 0, _, h, _, _ => by omega
  | 0, l, f + 1, S, _, e, h => by
    have hn := hp.n
    have h1 := h.1.1.2.1
    have h48 := h.2.1.1.1
    refine ⟨S, ?_, fun _ _ => rfl, fun _ _ _ _ => rfl, fun k s h1 h2 => by omega⟩
    rw [itn_s]
    unfold fX6_waits_2b
    simp (disch := omega) only [↓nm_s, ↓bnd_s, ↓reduceIte, nI_add, pk_mul, nI_subdiv, nI_sub', nI_m1, nI_0m1, nI_clamp, gdi_nI, gdz_nI, nI_div, nrem, nI_ltI, nI_leI, nI_eq, leT, leF, ltT, ltF, eqT, eqF, neT, neF, z0, m1lt0, m1lt, m1le, nI_ne_neg, neg_ne_nI, embP_a, embL_a, embL_up, embL_up1, up2_ne, up2_at, up2_o, up1_ne, up1_at, bI_eq0, bI_eq1, or_true, true_or, and_true, true_and, or_false, false_or, and_false, false_and, not_true_eq_false, not_false_eq_true, if_true, if_false,  decide_true, decide_false, bI_t, bI_f, Nat.add_sub_cancel, Nat.zero_add, Nat.add_zero, Nat.mul_zero, upd_eq, upd_ne, h1, h48]
    rw [show x 8 0 + (u - x 8 0) = u from by omega]
  | d + 1, l, f + 1, S, hf, e, h => by
    have hn := hp.n
    obtain ⟨A, a1, a2, a3⟩ := w_one (g := g) (N := N) (K := itn (fX6_waits_2b N) (fun _ _ _ => none) f) hp hx hu hT (k := l) (by omega) h.1.1.2.1 (m_doing hp hx (by omega) (by omega) h) (fun z => ((h.2.2 l (by omega)).2.2.1 z).1) h.2.1.1.1
    have a2' : ∀ j, (∀ k s, k < 6 → s < 4 → j ≠ 53 + 9 * k + 5 + s) → A j = S j := fun j hj => a2 j (fun s hs => hj l s (by omega) hs)
    obtain ⟨T, t1, t2, t3, t4⟩ := w_loop (N := N) hp hg hx hu hT (d := d) (l := l + 1) (f := f) (S := A) (by omega) (by omega) (RelS_sum hp hg hx h a2')
    refine ⟨T, ?_, ?_, ?_, ?_⟩
    · rw [itn_s, a1]; exact t1
    · intro j hj
      rw [t2 j hj, a2' j hj]
    · intro k s hk hs
      rw [t3 k s (by omega) hs, a2 _ (fun s hs => by omega)]
    · intro k s h1 h2 hs
      by_cases z : k = l
      · subst z
        rw [t3 k s (by omega) hs, a3 s hs]
      · rw [t4 k s (by omega) h2 hs, a2 _ (fun s hs => by omega)]
theorem m_waits {p g x : Nx} {S : Nat → Int32} {u N : Nat} (hp : PI p) (hg : GI p g) (hN : 100 < N) (hx : LI p x) (hu : u < 2 ^ 30) (hT : x 8 0 ≤ u) (h : RelS p g x S) : ∃ T, fX6_waits N S (nI (u - x 8 0)) = some T ∧ RelS p g (up1 x 8 u) T ∧ (SumS p x S → SumS p (sMin p u x) T) := by
  have hn := hp.n
  have hq := hp.q
  obtain ⟨T, t1, t2, t3, t4⟩ := w_loop (N := N) hp hg hx hu hT (d := p 6 0) (l := 0) (f := N) (S := S) (by omega) (by omega) h
  have r := RelS_sum hp hg hx h t2
  refine ⟨upd T 48 (nI u), ?_, ?_, ?_⟩
  · unfold fX6_waits
    simp (disch := omega) only [↓nm_s, ↓bnd_s, ↓reduceIte, nI_add, pk_mul, nI_subdiv, nI_sub', nI_m1, nI_0m1, nI_clamp, gdi_nI, gdz_nI, nI_div, nrem, nI_ltI, nI_leI, nI_eq, leT, leF, ltT, ltF, eqT, eqF, neT, neF, z0, m1lt0, m1lt, m1le, nI_ne_neg, neg_ne_nI, embP_a, embL_a, embL_up, embL_up1, up2_ne, up2_at, up2_o, up1_ne, up1_at, bI_eq0, bI_eq1, or_true, true_or, and_true, true_and, or_false, false_or, and_false, false_and, not_true_eq_false, not_false_eq_true, if_true, if_false,  decide_true, decide_false, bI_t, bI_f, Nat.add_sub_cancel, Nat.zero_add, Nat.add_zero, Nat.mul_zero, upd_eq, upd_ne, fX6_waits_2, t1]
  · obtain ⟨hst, hgl, hds⟩ := r
    refine ⟨?_, ⟨⟨?_, ?_, ?_, ?_, ?_⟩, ?_⟩, ?_⟩
    · rw [up1_ne (by omega)]
      exact Stat.mv hp hg hst (fun l _ => up1_ne (by omega)) (fun j hj _ => upd_ne (by omega))
    · rw [up1_at, upd_eq rfl]
    · rw [up1_ne (by omega), upd_ne (by omega)]; exact hgl.1.2.1
    · rw [up1_ne (by omega), upd_ne (by omega)]; exact hgl.1.2.2.1
    · rw [up1_ne (by omega), upd_ne (by omega)]; exact hgl.1.2.2.2.1
    · rw [up1_ne (by omega), upd_ne (by omega)]; exact hgl.1.2.2.2.2
    · intro l hl
      unfold sFree
      rw [up1_ne (by omega), up1_ne (by omega), up1_ne (by omega), upd_ne (by omega)]
      exact hgl.2 l hl
    · intro k hk
      refine Dst.mv (x := x) (S := T) (sWait_20 hp hx hk) (hds k hk) (up1_ne (by omega)) (up1_ne (by omega)) (up1_ne (by omega)) (up1_ne (by omega)) ?_ (fun _ _ _ _ => up1_ne (by omega)) (fun c hc => upd_ne (by omega)) (fun c hc => upd_ne (by omega)) (hx.k hk).1
      unfold sWait
      rw [up1_ne (by omega), up1_ne (by omega)]
  · intro hs k s hk hs4
    rw [upd_ne (by omega), t4 k s (by omega) hk hs4, hs k s hk hs4, sMin_6 hk hs4, nI_add]
theorem m_next4 {p g x : Nx} {S : Nat → Int32} {N : Nat} (hp : PI p) (hx : LI p x) (hT : x 8 0 < 2 ^ 30) (h : RelS p g x S) : ∀ {d l f a : Nat} {r : Int32}, d < f → l + d = p 6 0 → (a = 2147483647 ∧ r = -1) ∨ (a < 2147483647 ∧ r = nI a) → ∃ r', itn (fX6_nextTime_4b N) (fun _ _ _ => none) f S r (nI l) = some r' ∧ ((nextF x l d a = 2147483647 ∧ r' = -1) ∨ (nextF x l d a < 2147483647 ∧ r' = nI (nextF x l d a)))
  | _, _, 0, _, _, h, _, _ => by omega
  | 0, l, f + 1, a, r, _, e, hr => by
    have hn := hp.n
    have h1 := h.1.1.2.1
    refine ⟨r, ?_, hr⟩
    rw [itn_s]
    unfold fX6_nextTime_4b
    simp (disch := omega) only [↓nm_s, ↓bnd_s, ↓reduceIte, nI_add, pk_mul, nI_subdiv, nI_sub', nI_m1, nI_0m1, nI_clamp, gdi_nI, gdz_nI, nI_div, nrem, nI_ltI, nI_leI, nI_eq, leT, leF, ltT, ltF, eqT, eqF, neT, neF, z0, m1lt0, m1lt, m1le, nI_ne_neg, neg_ne_nI, embP_a, embL_a, embL_up, embL_up1, up2_ne, up2_at, up2_o, up1_ne, up1_at, bI_eq0, bI_eq1, or_true, true_or, and_true, true_and, or_false, false_or, and_false, false_and, not_true_eq_false, not_false_eq_true, if_true, if_false,  decide_true, decide_false, bI_t, bI_f, Nat.add_sub_cancel, Nat.zero_add, Nat.add_zero, Nat.mul_zero, upd_eq, upd_ne, h1]
  | d + 1, l, f + 1, a, r, hf, e, hr => by
    have hn := hp.n
    have h1 := h.1.1.2.1
    have hd := h.2.2 l (by omega)
    have i := m_idle hp (k := l) (by omega) hd
    have e3 := m_its (S := S) (k := l) (c := 3) (by omega)
    rw [itn_s]
    unfold nextF
    by_cases c : x 1 l = x 2 l
    · rw [if_pos c]
      obtain ⟨r', t1, t2⟩ := m_next4 (N := N) hp hx hT h (d := d) (l := l + 1) (f := f) (a := a) (r := r) (by omega) (by omega) hr
      refine ⟨r', ?_, t2⟩
      generalize itn (fX6_nextTime_4b N) (fun _ _ _ => none) f = K at t1 ⊢
      unfold fX6_nextTime_4b
      simp (disch := omega) only [↓nm_s, ↓bnd_s, ↓reduceIte, nI_add, pk_mul, nI_subdiv, nI_sub', nI_m1, nI_0m1, nI_clamp, gdi_nI, gdz_nI, nI_div, nrem, nI_ltI, nI_leI, nI_eq, leT, leF, ltT, ltF, eqT, eqF, neT, neF, z0, m1lt0, m1lt, m1le, nI_ne_neg, neg_ne_nI, embP_a, embL_a, embL_up, embL_up1, up2_ne, up2_at, up2_o, up1_ne, up1_at, bI_eq0, bI_eq1, or_true, true_or, and_true, true_and, or_false, false_or, and_false, false_and, not_true_eq_false, not_false_eq_true, if_true, if_false,  decide_true, decide_false, bI_t, bI_f, Nat.add_sub_cancel, Nat.zero_add, Nat.add_zero, Nat.mul_zero, upd_eq, upd_ne, h1, i, fX6_nextTime_41, t1]
    · rw [if_neg c]
      have he := hx.e (k := l) (by omega) c
      have d3 := (hd.2.2.1 c).2.1
      by_cases z : a ≤ x 3 l
      · rw [if_pos z]
        obtain ⟨r', t1, t2⟩ := m_next4 (N := N) hp hx hT h (d := d) (l := l + 1) (f := f) (a := a) (r := r) (by omega) (by omega) hr
        refine ⟨r', ?_, t2⟩
        generalize itn (fX6_nextTime_4b N) (fun _ _ _ => none) f = K at t1 ⊢
        unfold fX6_nextTime_4b
        rcases hr with ⟨ra, rfl⟩ | ⟨ra, rfl⟩
        · omega
        · simp (disch := omega) only [↓nm_s, ↓bnd_s, ↓reduceIte, nI_add, pk_mul, nI_subdiv, nI_sub', nI_m1, nI_0m1, nI_clamp, gdi_nI, gdz_nI, nI_div, nrem, nI_ltI, nI_leI, nI_eq, leT, leF, ltT, ltF, eqT, eqF, neT, neF, z0, m1lt0, m1lt, m1le, nI_ne_neg, neg_ne_nI, embP_a, embL_a, embL_up, embL_up1, up2_ne, up2_at, up2_o, up1_ne, up1_at, bI_eq0, bI_eq1, or_true, true_or, and_true, true_and, or_false, false_or, and_false, false_and, not_true_eq_false, not_false_eq_true, if_true, if_false,  decide_true, decide_false, bI_t, bI_f, Nat.add_sub_cancel, Nat.zero_add, Nat.add_zero, Nat.mul_zero, upd_eq, upd_ne, h1, i, e3, d3, fX6_nextTime_41, t1]
      · rw [if_neg z]
        obtain ⟨r', t1, t2⟩ := m_next4 (N := N) hp hx hT h (d := d) (l := l + 1) (f := f) (a := x 3 l) (r := nI (x 3 l)) (by omega) (by omega) (Or.inr ⟨by omega, rfl⟩)
        refine ⟨r', ?_, t2⟩
        generalize itn (fX6_nextTime_4b N) (fun _ _ _ => none) f = K at t1 ⊢
        unfold fX6_nextTime_4b
        rcases hr with ⟨ra, rfl⟩ | ⟨ra, rfl⟩
        · simp (disch := omega) only [↓nm_s, ↓bnd_s, ↓reduceIte, nI_add, pk_mul, nI_subdiv, nI_sub', nI_m1, nI_0m1, nI_clamp, gdi_nI, gdz_nI, nI_div, nrem, nI_ltI, nI_leI, nI_eq, leT, leF, ltT, ltF, eqT, eqF, neT, neF, z0, m1lt0, m1lt, m1le, nI_ne_neg, neg_ne_nI, embP_a, embL_a, embL_up, embL_up1, up2_ne, up2_at, up2_o, up1_ne, up1_at, bI_eq0, bI_eq1, or_true, true_or, and_true, true_and, or_false, false_or, and_false, false_and, not_true_eq_false, not_false_eq_true, if_true, if_false,  decide_true, decide_false, bI_t, bI_f, Nat.add_sub_cancel, Nat.zero_add, Nat.add_zero, Nat.mul_zero, upd_eq, upd_ne, h1, i, fX6_nextTime_34, e3, d3, fX6_nextTime_41, t1]
        · simp (disch := omega) only [↓nm_s, ↓bnd_s, ↓reduceIte, nI_add, pk_mul, nI_subdiv, nI_sub', nI_m1, nI_0m1, nI_clamp, gdi_nI, gdz_nI, nI_div, nrem, nI_ltI, nI_leI, nI_eq, leT, leF, ltT, ltF, eqT, eqF, neT, neF, z0, m1lt0, m1lt, m1le, nI_ne_neg, neg_ne_nI, embP_a, embL_a, embL_up, embL_up1, up2_ne, up2_at, up2_o, up1_ne, up1_at, bI_eq0, bI_eq1, or_true, true_or, and_true, true_and, or_false, false_or, and_false, false_and, not_true_eq_false, not_false_eq_true, if_true, if_false,  decide_true, decide_false, bI_t, bI_f, Nat.add_sub_cancel, Nat.zero_add, Nat.add_zero, Nat.mul_zero, upd_eq, upd_ne, h1, i, fX6_nextTime_34, e3, d3, fX6_nextTime_41, t1]
theorem m_next {p g x : Nx} {S : Nat → Int32} {N : Nat} (hp : PI p) (hN : 100 < N) (hx : LZ p x) (hT : x 8 0 < 2 ^ 30) (h : RelS p g x S) : fX6_nextTime N S = some (nI (sNext p x)) := by
  have hn := hp.n
  have hb := sNext_b hp hx hT
  obtain ⟨r, t1, t2⟩ := m_next4 (N := N) hp hx.1 hT h (d := p 6 0) (l := 0) (f := N) (a := 2147483647) (r := -1) (by omega) (by omega) (Or.inl ⟨rfl, rfl⟩)
  unfold sNext at hb ⊢
  rcases t2 with ⟨t2, rfl⟩ | ⟨t2, rfl⟩
  · omega
  · unfold fX6_nextTime
    simp (disch := omega) only [↓nm_s, ↓bnd_s, ↓reduceIte, nI_add, pk_mul, nI_subdiv, nI_sub', nI_m1, nI_0m1, nI_clamp, gdi_nI, gdz_nI, nI_div, nrem, nI_ltI, nI_leI, nI_eq, leT, leF, ltT, ltF, eqT, eqF, neT, neF, z0, m1lt0, m1lt, m1le, nI_ne_neg, neg_ne_nI, embP_a, embL_a, embL_up, embL_up1, up2_ne, up2_at, up2_o, up1_ne, up1_at, bI_eq0, bI_eq1, or_true, true_or, and_true, true_and, or_false, false_or, and_false, false_and, not_true_eq_false, not_false_eq_true, if_true, if_false,  decide_true, decide_false, bI_t, bI_f, Nat.add_sub_cancel, Nat.zero_add, Nat.add_zero, Nat.mul_zero, upd_eq, upd_ne, fX6_nextTime_4, t1]
/-- a step on paper: minutes don't matter -/
theorem m_step {p g x : Nx} {S : Nat → Int32} {N : Nat} (hp : PI p) (hg : GI p g) (hN : 100 < N) (hx : LZ p x) (hT : x 8 0 < 2 ^ 29) (h : RelS p g x S) : ∃ T, fX6_steps N S = some (nI (sStep p x 2 (p 6 0 - 1) - x 2 (p 6 0 - 1)), T) ∧ RelS p g (sStep p x) T := by
  have hb := sNext_b hp hx (by omega)
  have h48 := h.2.1.1.1
  have nx := m_next hp hN hx (by omega) h
  obtain ⟨A, a1, a2, _⟩ := m_waits (u := sNext p x) (N := N) hp hg hN hx.1 (by omega) (by omega) h
  obtain ⟨T, t1, t2, _⟩ := m_rounds (N := N) hp hg hN (LI_step hp hx (by omega)) (by rw [up1_at]; omega) a2
  rw [up1_ne (by omega)] at t1
  refine ⟨T, ?_, t2⟩
  unfold fX6_steps
  simp (disch := omega) only [↓nm_s, ↓bnd_s, ↓reduceIte, nI_add, pk_mul, nI_subdiv, nI_sub', nI_m1, nI_0m1, nI_clamp, gdi_nI, gdz_nI, nI_div, nrem, nI_ltI, nI_leI, nI_eq, leT, leF, ltT, ltF, eqT, eqF, neT, neF, z0, m1lt0, m1lt, m1le, nI_ne_neg, neg_ne_nI, embP_a, embL_a, embL_up, embL_up1, up2_ne, up2_at, up2_o, up1_ne, up1_at, bI_eq0, bI_eq1, or_true, true_or, and_true, true_and, or_false, false_or, and_false, false_and, not_true_eq_false, not_false_eq_true, if_true, if_false,  decide_true, decide_false, bI_t, bI_f, Nat.add_sub_cancel, Nat.zero_add, Nat.add_zero, Nat.mul_zero, upd_eq, upd_ne, nx, h48, a1, t1]
  rfl
/-- a step of the works itself -/
theorem m_stepM {p g x : Nx} {S : Nat → Int32} {N : Nat} (hp : PI p) (hg : GI p g) (hN : 100 < N) (hx : LZ p x) (hT : x 8 0 < 2 ^ 29) (h : RelS p g x S) (hs : SumS p x S) : ∃ T, fX6_steps N S = some (nI (sMove1 p (sNext p x) x 2 (p 6 0 - 1) - x 2 (p 6 0 - 1)), T) ∧ RelS p g (sMove1 p (sNext p x) x) T ∧ SumS p (sMove1 p (sNext p x) x) T := by
  have hb := sNext_b hp hx (by omega)
  have h48 := h.2.1.1.1
  have nx := m_next hp hN hx (by omega) h
  obtain ⟨A, a1, a2, a3⟩ := m_waits (u := sNext p x) (N := N) hp hg hN hx.1 (by omega) (by omega) h
  have ag : Agr (up1 x 8 (sNext p x)) (up1 (sMin p (sNext p x) x) 8 (sNext p x)) := by
    refine Agr.of6 (fun a i ha => ?_)
    by_cases c : a = 8
    · subst c; rw [up1_at, up1_at]
    · rw [up1_ne c, up1_ne c, sMin_o ha]
  obtain ⟨T, t1, t2, t3⟩ := m_rounds (N := N) hp hg hN (LI_move1 hp hx (u := sNext p x) (by omega) (by omega)) (by rw [up1_at]; omega) (RelS_agr hp ag a2)
  rw [up1_ne (by omega), sMin_o (by omega)] at t1
  refine ⟨T, ?_, t2, ?_⟩
  · unfold fX6_steps
    simp (disch := omega) only [↓nm_s, ↓bnd_s, ↓reduceIte, nI_add, pk_mul, nI_subdiv, nI_sub', nI_m1, nI_0m1, nI_clamp, gdi_nI, gdz_nI, nI_div, nrem, nI_ltI, nI_leI, nI_eq, leT, leF, ltT, ltF, eqT, eqF, neT, neF, z0, m1lt0, m1lt, m1le, nI_ne_neg, neg_ne_nI, embP_a, embL_a, embL_up, embL_up1, up2_ne, up2_at, up2_o, up1_ne, up1_at, bI_eq0, bI_eq1, or_true, true_or, and_true, true_and, or_false, false_or, and_false, false_and, not_true_eq_false, not_false_eq_true, if_true, if_false,  decide_true, decide_false, bI_t, bI_f, Nat.add_sub_cancel, Nat.zero_add, Nat.add_zero, Nat.mul_zero, upd_eq, upd_ne, nx, h48, a1, t1]
    rfl
  · refine SumS.o ((a3 hs).mv hp t3) (fun i => ?_)
    unfold sMove1
    rw [round_o (by omega), up1_ne (by omega)]
