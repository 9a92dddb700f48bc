/-! the model's row -/
/-- runs: g 0 kinds, g 1 counts -/
def sumG (g : Nx) : Nat → Nat
  | 0 => 0
  | r + 1 => sumG g r + g 1 r
def GI (p g : Nx) : Prop := p 8 0 ≤ 6 ∧ (∀ r, r < p 8 0 → 1 ≤ g 1 r ∧ g 1 r ≤ 20 ∧ g 0 r ≤ 3) ∧ p 9 0 = sumG g (p 8 0) ∧ ∀ r, r < p 8 0 → ∀ i, i < g 1 r → p 5 (sumG g r + i) = g 0 r
/-- what a row says of the plan: C the cards, f the factor -/
def Stat (p g : Nx) (C : Nat → Nat) (f : Nat) (S : Nat → Int32) : Prop := (S 0 = nI 1 ∧ S 1 = nI (p 6 0) ∧ S 14 = nI (p 7 0) ∧ S 35 = nI (p 8 0)) ∧ (∀ k, k < p 6 0 → S (2 + k) = nI (p 0 k) ∧ S (8 + k) = nI (p 1 k)) ∧ (∀ l, l < p 7 0 → S (15 + 4 * l) = nI (p 2 l) ∧ S (15 + 4 * l + 1) = nI (p 3 l) ∧ S (15 + 4 * l + 2) = nI (C l)) ∧ ∀ r, r < p 8 0 → S (36 + 2 * r) = nI (g 0 r) ∧ S (36 + 2 * r + 1) = nI (g 1 r * f)
def Dgl (p x : Nx) (S : Nat → Int32) : Prop := (S 48 = nI (x 8 0) ∧ S 49 = nI (x 2 (p 6 0 - 1)) ∧ S 50 = nI (x 1 0) ∧ S 51 = nI (x 9 0) - nI 1 ∧ S 52 = nI (x 10 0) - nI 1) ∧ ∀ l, l < p 7 0 → S (15 + 4 * l + 3) = nI (sFree p x l)
def Dst (p x : Nx) (S : Nat → Int32) (k : Nat) : Prop := S (53 + 9 * k) = (if x 1 k = x 2 k then -1 else nI (sKind p (x 7 0) (x 1 k - 1))) ∧ S (53 + 9 * k + 1) = (if x 2 k = 0 then -1 else nI (sKind p (x 7 0) (x 2 k - 1))) ∧ (x 1 k ≠ x 2 k → S (53 + 9 * k + 2) = nI (x 3 k - p 0 k) ∧ S (53 + 9 * k + 3) = nI (x 3 k) ∧ S (53 + 9 * k + 4) = nI (x 5 ((x 1 k - 1) % 20))) ∧ S (107 + 41 * k) = nI (sWait x k) ∧ ∀ i, i < sWait x k → S (107 + 41 * k + 1 + 2 * i) = nI (sKind p (x 7 0) (x 1 k + i)) ∧ S (107 + 41 * k + 2 + 2 * i) = nI (x 5 ((x 1 k + i) % 20))
def RelS (p g x : Nx) (S : Nat → Int32) : Prop := Stat p g (x 4) (x 7 0) S ∧ Dgl p x S ∧ ∀ k, k < p 6 0 → Dst p x S k
def SumS (p x : Nx) (S : Nat → Int32) : Prop := ∀ k s, k < p 6 0 → s < 4 → S (53 + 9 * k + 5 + s) = nI (x 6 (k * 4 + s))
def sameSum (S T : Nat → Int32) : Prop := ∀ k s, k < 6 → s < 4 → T (53 + 9 * k + 5 + s) = S (53 + 9 * k + 5 + s)
theorem Stat.mv {p g : Nx} {C C' : Nat → Nat} {f : Nat} {S T : Nat → Int32} (hp : PI p) (hg : GI p g) (h : Stat p g C f S) (hC : ∀ l, l < p 7 0 → C' l = C l) (hT : ∀ j, j < 48 → (∀ l, l < p 7 0 → j ≠ 15 + 4 * l + 3) → T j = S j) : Stat p g C' f T := by
  have hn := hp.n
  have hq := hp.q
  have h8 := hg.1
  refine ⟨⟨?_, ?_, ?_, ?_⟩, fun k hk => ⟨?_, ?_⟩, fun l hl => ⟨?_, ?_, ?_⟩, fun r hr => ⟨?_, ?_⟩⟩
  · rw [hT 0 (by omega) (fun l _ => by omega)]; exact h.1.1
  · rw [hT 1 (by omega) (fun l _ => by omega)]; exact h.1.2.1
  · rw [hT 14 (by omega) (fun l _ => by omega)]; exact h.1.2.2.1
  · rw [hT 35 (by omega) (fun l _ => by omega)]; exact h.1.2.2.2
  · rw [hT (2 + k) (by omega) (fun l _ => by omega)]; exact (h.2.1 k hk).1
  · rw [hT (8 + k) (by omega) (fun l _ => by omega)]; exact (h.2.1 k hk).2
  · rw [hT (15 + 4 * l) (by omega) (fun l _ => by omega)]; exact (h.2.2.1 l hl).1
  · rw [hT (15 + 4 * l + 1) (by omega) (fun l _ => by omega)]; exact (h.2.2.1 l hl).2.1
  · rw [hT (15 + 4 * l + 2) (by omega) (fun l _ => by omega), hC l hl]; exact (h.2.2.1 l hl).2.2
  · rw [hT (36 + 2 * r) (by omega) (fun l _ => by omega)]; exact (h.2.2.2 r hr).1
  · rw [hT (36 + 2 * r + 1) (by omega) (fun l _ => by omega)]; exact (h.2.2.2 r hr).2
/-- a station that nothing touched -/
theorem Dst.mv {p x y : Nx} {S T : Nat → Int32} {k : Nat} (hw : sWait x k ≤ 20) (h : Dst p x S k) (h1 : y 1 k = x 1 k) (h2 : y 2 k = x 2 k) (h3 : y 3 k = x 3 k) (h7 : y 7 0 = x 7 0) (w : sWait y k = sWait x k) (h5 : ∀ j, x 1 k ≤ j + 1 → j < x 1 k + sWait x k → (x 1 k ≤ j ∨ x 1 k ≠ x 2 k) → y 5 (j % 20) = x 5 (j % 20)) (hT : ∀ c, c < 5 → T (53 + 9 * k + c) = S (53 + 9 * k + c)) (hQ : ∀ c, c < 41 → T (107 + 41 * k + c) = S (107 + 41 * k + c)) (hb : x 2 k ≤ x 1 k) : Dst p y T k := by
  refine ⟨?_, ?_, ?_, ?_, ?_⟩
  · rw [h1, h2, h7]; exact (hT 0 (by omega)).trans h.1
  · rw [h2, h7]; exact (hT 1 (by omega)).trans h.2.1
  · rw [h1, h2, h3]
    intro z
    have e := h.2.2.1 z
    refine ⟨(hT 2 (by omega)).trans e.1, (hT 3 (by omega)).trans e.2.1, ?_⟩
    rw [h5 (x 1 k - 1) (by omega) (by omega) (Or.inr z)]
    exact (hT 4 (by omega)).trans e.2.2
  · rw [w]; exact (hQ 0 (by omega)).trans h.2.2.2.1
  · rw [w, h1, h7]
    intro i hi
    have e := h.2.2.2.2 i hi
    rw [h5 (x 1 k + i) (by omega) (by omega) (Or.inl (by omega))]
    refine ⟨?_, ?_⟩
    · rw [show 107 + 41 * k + 1 + 2 * i = 107 + 41 * k + (1 + 2 * i) from by omega, hQ (1 + 2 * i) (by omega), ← e.1]
      congr 1
      omega
    · rw [show 107 + 41 * k + 2 + 2 * i = 107 + 41 * k + (2 + 2 * i) from by omega, hQ (2 + 2 * i) (by omega), ← e.2]
      congr 1
      omega
theorem m_perR4 {p g : Nx} {C : Nat → Nat} {f : Nat} {S : Nat → Int32} (hg : GI p g) (h : Stat p g C f S) (N : Nat) : ∀ {d r u : Nat}, d < u → r + d = p 8 0 → itn (fX6_perRound_4b N) (fun _ _ _ => none) u S (nI (sumG g r * f)) (nI r) = some (nI (sumG g (p 8 0) * f))
  | _, _, 0, h, _ => by omega
  | 0, r, u + 1, _, e => by
    have h8 := hg.1
    have h35 := h.1.2.2.2
    rw [itn_s]
    unfold fX6_perRound_4b
    simp (disch := omega) only [↓nm_s, ↓bnd_s, ↓reduceIte, nI_add, pk_mul, nI_subdiv, nI_sub', nI_m1, nI_0m1, nI_clamp, gdi_nI, gdz_nI, nI_div, nrem, nI_ltI, nI_leI, nI_eq, leT, leF, ltT, ltF, eqT, eqF, neT, neF, z0, m1lt0, m1lt, m1le, nI_ne_neg, neg_ne_nI, embP_a, embL_a, embL_up, embL_up1, up2_ne, up2_at, up2_o, up1_ne, up1_at, bI_eq0, bI_eq1, or_true, true_or, and_true, true_and, or_false, false_or, and_false, false_and, not_true_eq_false, not_false_eq_true, if_true, if_false,  decide_true, decide_false, bI_t, bI_f, Nat.add_sub_cancel, Nat.zero_add, Nat.add_zero, Nat.mul_zero, upd_eq, upd_ne, h35]
    rw [show r = p 8 0 from by omega]
  | d + 1, r, u + 1, hu, e => by
    have h8 := hg.1
    have h35 := h.1.2.2.2
    have hr := (h.2.2.2 r (by omega)).2
    have i := m_perR4 hg h N (d := d) (r := r + 1) (u := u) (by omega) (by omega)
    rw [show sumG g (r + 1) * f = sumG g r * f + g 1 r * f from Nat.add_mul _ _ _] at i
    rw [itn_s]
    generalize itn (fX6_perRound_4b N) (fun _ _ _ => none) u = K at i ⊢
    unfold fX6_perRound_4b
    simp (disch := omega) only [↓nm_s, ↓bnd_s, ↓reduceIte, nI_add, pk_mul, nI_subdiv, nI_sub', nI_m1, nI_0m1, nI_clamp, gdi_nI, gdz_nI, nI_div, nrem, nI_ltI, nI_leI, nI_eq, leT, leF, ltT, ltF, eqT, eqF, neT, neF, z0, m1lt0, m1lt, m1le, nI_ne_neg, neg_ne_nI, embP_a, embL_a, embL_up, embL_up1, up2_ne, up2_at, up2_o, up1_ne, up1_at, bI_eq0, bI_eq1, or_true, true_or, and_true, true_and, or_false, false_or, and_false, false_and, not_true_eq_false, not_false_eq_true, if_true, if_false,  decide_true, decide_false, bI_t, bI_f, Nat.add_sub_cancel, Nat.zero_add, Nat.add_zero, Nat.mul_zero, upd_eq, upd_ne, h35, hr, i]
theorem m_perR {p g : Nx} {C : Nat → Nat} {f : Nat} {S : Nat → Int32} (hg : GI p g) (h : Stat p g C f S) {N : Nat} (hN : 6 < N) : fX6_perRound N S = some (nI (p 9 0 * f)) := by
  have h8 := hg.1
  have i := m_perR4 hg h N (d := p 8 0) (r := 0) (u := N) (by omega) (by omega)
  rw [show sumG g 0 * f = 0 from Nat.zero_mul _] at i
  unfold fX6_perRound
  rw [hg.2.2.1]
  simp (disch := omega) only [↓nm_s, ↓bnd_s, ↓reduceIte, nI_add, pk_mul, nI_subdiv, nI_sub', nI_m1, nI_0m1, nI_clamp, gdi_nI, gdz_nI, nI_div, nrem, nI_ltI, nI_leI, nI_eq, leT, leF, ltT, ltF, eqT, eqF, neT, neF, z0, m1lt0, m1lt, m1le, nI_ne_neg, neg_ne_nI, embP_a, embL_a, embL_up, embL_up1, up2_ne, up2_at, up2_o, up1_ne, up1_at, bI_eq0, bI_eq1, or_true, true_or, and_true, true_and, or_false, false_or, and_false, false_and, not_true_eq_false, not_false_eq_true, if_true, if_false,  decide_true, decide_false, bI_t, bI_f, Nat.add_sub_cancel, Nat.zero_add, Nat.add_zero, Nat.mul_zero, upd_eq, upd_ne, fX6_perRound_4, i]
theorem sumG_le {p g : Nx} (hg : GI p g) : ∀ {r : Nat}, r ≤ p 8 0 → sumG g r ≤ 20 * r ∧ r ≤ sumG g r
  | 0, _ => ⟨Nat.le_refl _, Nat.le_refl _⟩
  | r + 1, h => by
    have i := sumG_le hg (r := r) (by omega)
    have j := hg.2.1 r (by omega)
    unfold sumG
    omega
theorem m_kind18 {p g : Nx} {C : Nat → Nat} {f : Nat} {S : Nat → Int32} (hg : GI p g) (h : Stat p g C f S) (hf : 1 ≤ f ∧ f ≤ 5) (N : Nat) {L : Nat} (hL : L < sumG g (p 8 0) * f) : ∀ {d r u v : Nat}, d < u → r + d = p 8 0 → v + sumG g r * f = L → itn (fX6_kindOf_18b N) (fun _ _ _ => none) u S (nI v) (nI r) = some (nI (p 5 (L / f)))
  | _, _, 0, _, h, _, _ => by omega
  | 0, r, u + 1, v, _, e, e2 => by
    rw [show r = p 8 0 from by omega] at e2
    omega
  | d + 1, r, u + 1, v, hu, e, e2 => by
    have h8 := hg.1
    have hr := h.2.2.2 r (by omega)
    have hc := hg.2.1 r (by omega)
    have hs := (sumG_le hg (r := p 8 0) (Nat.le_refl _)).1
    have hb : sumG g (p 8 0) * f ≤ 120 * 5 := Nat.mul_le_mul (by omega) hf.2
    have hb2 : g 1 r * f ≤ 20 * 5 := Nat.mul_le_mul hc.2.1 hf.2
    rw [itn_s]
    by_cases c : v < g 1 r * f
    · have q : v / f < g 1 r := (Nat.div_lt_iff_lt_mul (by omega)).mpr c
      have w := hg.2.2.2 r (by omega) (v / f) q
      have z : L / f = sumG g r + v / f := by
        rw [← e2, Nat.add_mul_div_right _ _ (by omega)]
        omega
      generalize itn (fX6_kindOf_18b N) (fun _ _ _ => none) u = K
      unfold fX6_kindOf_18b
      rw [z, w]
      simp (disch := omega) only [↓nm_s, ↓bnd_s, ↓reduceIte, nI_add, pk_mul, nI_subdiv, nI_sub', nI_m1, nI_0m1, nI_clamp, gdi_nI, gdz_nI, nI_div, nrem, nI_ltI, nI_leI, nI_eq, leT, leF, ltT, ltF, eqT, eqF, neT, neF, z0, m1lt0, m1lt, m1le, nI_ne_neg, neg_ne_nI, embP_a, embL_a, embL_up, embL_up1, up2_ne, up2_at, up2_o, up1_ne, up1_at, bI_eq0, bI_eq1, or_true, true_or, and_true, true_and, or_false, false_or, and_false, false_and, not_true_eq_false, not_false_eq_true, if_true, if_false,  decide_true, decide_false, bI_t, bI_f, Nat.add_sub_cancel, Nat.zero_add, Nat.add_zero, Nat.mul_zero, upd_eq, upd_ne, hr.1, hr.2]
    · have i := m_kind18 hg h hf N hL (d := d) (r := r + 1) (u := u) (v := v - g 1 r * f) (by omega) (by omega) (by rw [show sumG g (r + 1) * f = sumG g r * f + g 1 r * f from Nat.add_mul _ _ _]; omega)
      generalize itn (fX6_kindOf_18b N) (fun _ _ _ => none) u = K at i ⊢
      unfold fX6_kindOf_18b
      simp (disch := omega) only [↓nm_s, ↓bnd_s, ↓reduceIte, nI_add, pk_mul, nI_subdiv, nI_sub', nI_m1, nI_0m1, nI_clamp, gdi_nI, gdz_nI, nI_div, nrem, nI_ltI, nI_leI, nI_eq, leT, leF, ltT, ltF, eqT, eqF, neT, neF, z0, m1lt0, m1lt, m1le, nI_ne_neg, neg_ne_nI, embP_a, embL_a, embL_up, embL_up1, up2_ne, up2_at, up2_o, up1_ne, up1_at, bI_eq0, bI_eq1, or_true, true_or, and_true, true_and, or_false, false_or, and_false, false_and, not_true_eq_false, not_false_eq_true, if_true, if_false,  decide_true, decide_false, bI_t, bI_f, Nat.add_sub_cancel, Nat.zero_add, Nat.add_zero, Nat.mul_zero, upd_eq, upd_ne, hr.1, hr.2, i]
theorem m_kind {p g : Nx} {C : Nat → Nat} {f : Nat} {S : Nat → Int32} (hg : GI p g) (h : Stat p g C f S) (hf : 1 ≤ f ∧ f ≤ 5) {N : Nat} (hN : 6 < N) {m : Nat} (hm : m < 2 ^ 31) : fX6_kindOf N S (nI m) = some (nI (sKind p f m)) := by
  have h8 := hg.1
  have h35 := h.1.2.2.2
  have pr := m_perR hg h hN
  have hs := sumG_le hg (r := p 8 0) (Nat.le_refl _)
  have h9 := hg.2.2.1
  unfold fX6_kindOf sKind
  by_cases c : p 8 0 = 0
  · have z : p 9 0 = 0 := by rw [h9, c]; rfl
    simp (disch := omega) only [↓nm_s, ↓bnd_s, ↓reduceIte, nI_add, pk_mul, nI_subdiv, nI_sub', nI_m1, nI_0m1, nI_clamp, gdi_nI, gdz_nI, nI_div, nrem, nI_ltI, nI_leI, nI_eq, leT, leF, ltT, ltF, eqT, eqF, neT, neF, z0, m1lt0, m1lt, m1le, nI_ne_neg, neg_ne_nI, embP_a, embL_a, embL_up, embL_up1, up2_ne, up2_at, up2_o, up1_ne, up1_at, bI_eq0, bI_eq1, or_true, true_or, and_true, true_and, or_false, false_or, and_false, false_and, not_true_eq_false, not_false_eq_true, if_true, if_false,  decide_true, decide_false, bI_t, bI_f, Nat.add_sub_cancel, Nat.zero_add, Nat.add_zero, Nat.mul_zero, upd_eq, upd_ne, h35]
  · have hb : p 9 0 * f ≤ 120 * 5 := Nat.mul_le_mul (by omega) hf.2
    have hb0 : 0 < p 9 0 * f := Nat.mul_pos (by omega) (by omega)
    have hm2 : m % (p 9 0 * f) < p 9 0 * f := Nat.mod_lt _ hb0
    have hd : m / (p 9 0 * f) ≤ m := Nat.div_le_self _ _
    have i := m_kind18 hg h hf N (L := m % (p 9 0 * f)) (by rw [← h9]; exact hm2) (d := p 8 0) (r := 0) (u := N) (v := m % (p 9 0 * f)) (by omega) (by omega) (by rw [show sumG g 0 * f = 0 from Nat.zero_mul _]; rfl)
    rw [Nat.mod_mul_left_div_self] at i
    simp (disch := omega) only [↓nm_s, ↓bnd_s, ↓reduceIte, nI_add, pk_mul, nI_subdiv, nI_sub', nI_m1, nI_0m1, nI_clamp, gdi_nI, gdz_nI, nI_div, nrem, nI_ltI, nI_leI, nI_eq, leT, leF, ltT, ltF, eqT, eqF, neT, neF, z0, m1lt0, m1lt, m1le, nI_ne_neg, neg_ne_nI, embP_a, embL_a, embL_up, embL_up1, up2_ne, up2_at, up2_o, up1_ne, up1_at, bI_eq0, bI_eq1, or_true, true_or, and_true, true_and, or_false, false_or, and_false, false_and, not_true_eq_false, not_false_eq_true, if_true, if_false,  decide_true, decide_false, bI_t, bI_f, Nat.add_sub_cancel, Nat.zero_add, Nat.add_zero, Nat.mul_zero, upd_eq, upd_ne, h35, pr, fX6_kindOf_18, i]
