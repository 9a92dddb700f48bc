/-! what finishing and beginning leave -/
theorem sFin_o {p x : Nx} {k a i : Nat} (h : a ≠ 2 ∧ a ≠ 9 ∧ a ≠ 10) : sFin p x k a i = x a i := by
  unfold sFin
  by_cases c : k + 1 = p 6 0
  · rw [if_pos c, up1_ne h.2.2, up1_ne h.2.1, up2_ne h.1]
  · rw [if_neg c, up2_ne h.1]
theorem sFin_2 {p x : Nx} {k i : Nat} : sFin p x k 2 i = if i = k then x 2 k + 1 else x 2 i := by
  unfold sFin
  by_cases c : k + 1 = p 6 0
  · rw [if_pos c, up1_ne (by omega), up1_ne (by omega), up2_if]
  · rw [if_neg c, up2_if]
theorem sFin_9 {p x : Nx} {k i : Nat} : sFin p x k 9 i = if k + 1 = p 6 0 then x 8 0 - x 5 (x 2 k % 20) + 1 else x 9 i := by
  unfold sFin
  by_cases c : k + 1 = p 6 0
  · rw [if_pos c, if_pos c, up1_ne (by omega), up1_at]
  · rw [if_neg c, if_neg c, up2_ne (by omega)]
theorem sFin_10 {p x : Nx} {k i : Nat} : sFin p x k 10 i = if k + 1 = p 6 0 then max (x 10 0) (x 8 0 - x 5 (x 2 k % 20) + 1) else x 10 i := by
  unfold sFin
  by_cases c : k + 1 = p 6 0
  · rw [if_pos c, if_pos c, up1_at]
  · rw [if_neg c, if_neg c, up2_ne (by omega)]
theorem sBeg_o {p x : Nx} {k a i : Nat} (h : a ≠ 1 ∧ a ≠ 3 ∧ a ≠ 5) : sBeg p x k a i = x a i := by
  unfold sBeg
  by_cases c : k = 0
  · rw [if_pos c, up2_ne h.2.2, up2_ne h.2.1, up2_ne h.1]
  · rw [if_neg c, up2_ne h.2.1, up2_ne h.1]
theorem sBeg_1 {p x : Nx} {k i : Nat} : sBeg p x k 1 i = if i = k then x 1 k + 1 else x 1 i := by
  unfold sBeg
  by_cases c : k = 0
  · rw [if_pos c, up2_ne (by omega), up2_ne (by omega), up2_if]
  · rw [if_neg c, up2_ne (by omega), up2_if]
theorem sBeg_3 {p x : Nx} {k i : Nat} : sBeg p x k 3 i = if i = k then x 8 0 + sSet p x k + p 0 k else x 3 i := by
  unfold sBeg
  by_cases c : k = 0
  · rw [if_pos c, up2_ne (by omega), up2_if, up2_ne (by omega)]
  · rw [if_neg c, up2_if, up2_ne (by omega)]
theorem sBeg_5 {p x : Nx} {k i : Nat} : sBeg p x k 5 i = if k = 0 ∧ i = x 1 0 % 20 then x 8 0 else x 5 i := by
  unfold sBeg
  by_cases c : k = 0
  · subst c
    rw [if_pos rfl, up2_if, up2_ne (by omega), up2_ne (by omega)]
    by_cases e : i = x 1 0 % 20
    · rw [if_pos e, if_pos ⟨rfl, e⟩]
    · rw [if_neg e, if_neg (fun z => e z.2)]
  · rw [if_neg c, up2_ne (by omega), up2_ne (by omega), if_neg (fun z => c z.1)]
theorem sSet_le {p x : Nx} (hp : PI p) {k : Nat} (hk : k < p 6 0) : sSet p x k ≤ 60 := by
  have := hp.k hk
  unfold sSet
  by_cases a : x 1 k = 0
  · rw [if_pos a]; omega
  · rw [if_neg a]
    by_cases b : sKind p (x 7 0) (x 1 k - 1) = sKind p (x 7 0) (x 1 k)
    · rw [if_pos b]; omega
    · rw [if_neg b]; omega
theorem LI_fin {p x : Nx} (hp : PI p) (hx : LI p x) {k : Nat} (hk : k < p 6 0) (hb : x 1 k ≠ x 2 k) (hd : x 3 k ≤ x 8 0) : LI p (sFin p x k) := by
  have hn := hp.n
  have hkk := hx.k hk
  have hek := hx.e hk hb
  have htk := hp.k hk
  refine ⟨?_, ?_, ?_, ?_, ?_, ?_, ?_⟩
  · simp (disch := omega) only [sFin_o, sFin_2, sFin_9, sFin_10]; exact hx.f
  · intro l hl
    have h1 := hx.l hl
    simp (disch := omega) only [sFin_o, sFin_2, sFin_9, sFin_10]
    by_cases c : p 3 l = k
    · rw [if_pos c]; rw [c] at h1; omega
    · rw [if_neg c]; omega
  · intro j hj
    have h1 := hx.k hj
    simp (disch := omega) only [sFin_o, sFin_2, sFin_9, sFin_10]
    by_cases c : j = k
    · subst c; rw [if_pos rfl]; omega
    · rw [if_neg c]; omega
  · intro j hj
    have h1 := hx.s hj
    simp (disch := omega) only [sFin_o, sFin_2, sFin_9, sFin_10]
    by_cases c : j = k
    · subst c; rw [if_pos rfl]; omega
    · rw [if_neg c]; omega
  · intro j hj
    simp (disch := omega) only [sFin_o, sFin_2, sFin_9, sFin_10]
    by_cases c : j = k
    · subst c; rw [if_pos rfl]; intro; omega
    · rw [if_neg c]; intro z
      exact hx.e hj z
  · intro j
    simp (disch := omega) only [sFin_o, sFin_2, sFin_9, sFin_10]
    by_cases c : p 6 0 - 1 = k
    · subst c; rw [if_pos rfl]; intro h1 h2
      exact hx.b (by omega) h2
    · rw [if_neg c]; intro h1 h2
      exact hx.b h1 h2
  · have h1 := hx.d
    simp (disch := omega) only [sFin_o, sFin_2, sFin_9, sFin_10]
    by_cases c : k + 1 = p 6 0
    · rw [if_pos c, if_pos c]; omega
    · rw [if_neg c, if_neg c]; omega
theorem canB_w {p x : Nx} {k : Nat} (h : canB p x k = true) (h0 : k ≠ 0) : x 1 k < x 2 (k - 1) := by
  unfold canB at h
  by_cases c : k ≠ 0 ∧ sWait x k = 0
  · rw [if_pos c] at h; cases h
  · have : sWait x k ≠ 0 := fun z => c ⟨h0, z⟩
    unfold sWait at this
    rw [if_neg h0] at this
    omega
theorem canB_l {p x : Nx} {k l : Nat} (h : canB p x k = true) (hl : l < p 7 0) (e : p 2 l = k) : x 1 (p 2 l) < x 4 l + x 2 (p 3 l) := by
  unfold canB at h
  by_cases c : k ≠ 0 ∧ sWait x k = 0
  · rw [if_pos c] at h; cases h
  · rw [if_neg c] at h
    have := hasC_iff.mp h l (by omega) (by omega) e
    unfold sFree at this
    omega
theorem canB_mk {p x : Nx} {k : Nat} (h0 : k ≠ 0 → x 1 k < x 2 (k - 1)) (hl : ∀ l, l < p 7 0 → p 2 l = k → x 1 (p 2 l) < x 4 l + x 2 (p 3 l)) : canB p x k = true := by
  unfold canB
  rw [if_neg]
  · refine hasC_iff.mpr (fun l _ h2 h3 => ?_)
    have := hl l (by omega) h3
    unfold sFree
    omega
  · rintro ⟨h1, h2⟩
    have := h0 h1
    unfold sWait at h2
    rw [if_neg h1] at h2
    omega
theorem mod20 {a b : Nat} (h : a % 20 = b % 20) (h1 : a ≤ b) (h2 : b < a + 20) : a = b := by omega
theorem LI_beg {p x : Nx} (hp : PI p) (hx : LI p x) {k : Nat} (hk : k < p 6 0) (hb : x 1 k = x 2 k) (hc : canB p x k = true) : LI p (sBeg p x k) := by
  have hn := hp.n
  have hkk := hx.k hk
  have htk := hp.k hk
  have hs := sSet_le (x := x) hp hk
  refine ⟨?_, ?_, ?_, ?_, ?_, ?_, ?_⟩
  · simp (disch := omega) only [sBeg_o, sBeg_1, sBeg_3, sBeg_5]; exact hx.f
  · intro l hl
    have h1 := hx.l hl
    simp (disch := omega) only [sBeg_o, sBeg_1, sBeg_3, sBeg_5]
    by_cases c : p 2 l = k
    · have := canB_l hc hl c
      rw [if_pos c]; rw [c] at this; omega
    · rw [if_neg c]; omega
  · intro j hj
    have h1 := hx.k hj
    simp (disch := omega) only [sBeg_o, sBeg_1, sBeg_3, sBeg_5]
    by_cases c : j = k
    · subst c; rw [if_pos rfl]; omega
    · rw [if_neg c]; omega
  · intro j hj
    have h1 := hx.s hj
    simp (disch := omega) only [sBeg_o, sBeg_1, sBeg_3, sBeg_5]
    by_cases c : j + 1 = k
    · have := canB_w hc (by omega)
      subst c; rw [if_pos rfl]
      rw [show j + 1 - 1 = j from rfl] at this
      omega
    · rw [if_neg c]; omega
  · intro j hj
    simp (disch := omega) only [sBeg_o, sBeg_1, sBeg_3, sBeg_5]
    by_cases c : j = k
    · subst c; rw [if_pos rfl, if_pos rfl]; intro; omega
    · rw [if_neg c, if_neg c]; intro z
      exact hx.e hj z
  · intro j
    simp (disch := omega) only [sBeg_o, sBeg_1, sBeg_3, sBeg_5]
    intro h1 h2
    by_cases c : k = 0
    · subst c
      rw [if_pos rfl] at h2
      by_cases e : j = x 1 0
      · subst e; rw [if_pos ⟨rfl, rfl⟩]; omega
      · by_cases e2 : j % 20 = x 1 0 % 20
        · rw [if_pos ⟨rfl, e2⟩]; omega
        · rw [if_neg (fun z => e2 z.2)]
          exact hx.b h1 (by omega)
    · rw [if_neg (fun z => c z.1)]
      rw [if_neg (fun z => c z.symm)] at h2
      exact hx.b h1 h2
  · have h1 := hx.d
    simp (disch := omega) only [sBeg_o, sBeg_1, sBeg_3, sBeg_5]
    exact h1
/-! rounds -/
def dI (m : Nat) : Int32 := nI m + (-1)
theorem dI_0 : dI 0 = -1 := by decide
theorem dI_s (m : Nat) : dI (m + 1) = nI m := pk_m1 m
theorem dI_f (m : Nat) : nI m + (-1) = dI m := rfl
theorem dI_p {m : Nat} (h : 0 < m) : nI (m - 1) = dI m := by
  obtain ⟨b, rfl⟩ : ∃ b, m = b + 1 := ⟨m - 1, by omega⟩
  rw [dI_s]; rfl
theorem LI_begIf {p x : Nx} (hp : PI p) (hx : LI p x) {k : Nat} (hk : k < p 6 0) : LI p (sBegIf p x k) := by
  unfold sBegIf
  by_cases a : x 1 k = x 2 k
  · rw [if_pos a]
    by_cases b : canB p x k = true
    · rw [if_pos b]; exact LI_beg hp hx hk a b
    · rw [if_neg b]; exact hx
  · rw [if_neg a]; exact hx
theorem LI_finIf {p x : Nx} (hp : PI p) (hx : LI p x) {k : Nat} (hk : k < p 6 0) : LI p (sFinIf p x k) := by
  unfold sFinIf
  by_cases a : x 1 k = x 2 k
  · rw [if_pos a]; exact hx
  · rw [if_neg a]
    by_cases b : x 8 0 < x 3 k
    · rw [if_pos b]; exact hx
    · rw [if_neg b]; exact LI_fin hp hx hk a (by omega)
theorem begIf_o {p x : Nx} {k a i : Nat} (h : a ≠ 1 ∧ a ≠ 3 ∧ a ≠ 5) : sBegIf p x k a i = x a i := by
  unfold sBegIf
  by_cases c : x 1 k = x 2 k
  · rw [if_pos c]
    by_cases b : canB p x k = true
    · rw [if_pos b]; exact sBeg_o h
    · rw [if_neg b]
  · rw [if_neg c]
theorem begIf_k {p x : Nx} {k a i : Nat} (h : a = 1 ∨ a = 3) (h2 : i ≠ k) : sBegIf p x k a i = x a i := by
  unfold sBegIf
  by_cases c : x 1 k = x 2 k
  · rw [if_pos c]
    by_cases b : canB p x k = true
    · rw [if_pos b]
      rcases h with rfl | rfl
      · rw [sBeg_1, if_neg h2]
      · rw [sBeg_3, if_neg h2]
    · rw [if_neg b]
  · rw [if_neg c]
theorem finIf_o {p x : Nx} {k a i : Nat} (h : a ≠ 2 ∧ a ≠ 9 ∧ a ≠ 10) : sFinIf p x k a i = x a i := by
  unfold sFinIf
  by_cases c : x 1 k = x 2 k
  · rw [if_pos c]
  · rw [if_neg c]
    by_cases b : x 8 0 < x 3 k
    · rw [if_pos b]
    · rw [if_neg b]; exact sFin_o h
theorem finIf_k {p x : Nx} {k i : Nat} (h2 : i ≠ k) : sFinIf p x k 2 i = x 2 i := by
  unfold sFinIf
  by_cases c : x 1 k = x 2 k
  · rw [if_pos c]
  · rw [if_neg c]
    by_cases b : x 8 0 < x 3 k
    · rw [if_pos b]
    · rw [if_neg b, sFin_2, if_neg h2]
theorem LI_down {p : Nx} {f : Nx → Nat → Nx} (hf : ∀ x k, LI p x → k < p 6 0 → LI p (f x k)) : ∀ {m : Nat} {x : Nx}, m ≤ p 6 0 → LI p x → LI p (down f m x)
  | 0, _, _, h => h
  | m + 1, x, hm, h => LI_down hf (m := m) (by omega) (hf x m h (by omega))
theorem LI_round {p x : Nx} (hp : PI p) (hx : LI p x) : LI p (sRound p x) :=
  LI_down (fun _ _ h hk => LI_begIf hp h hk) (Nat.le_refl _) (LI_down (fun _ _ h hk => LI_finIf hp h hk) (Nat.le_refl _) hx)
theorem down_o {f : Nx → Nat → Nx} {a i : Nat} (hf : ∀ x k, f x k a i = x a i) : ∀ {m : Nat} {x : Nx}, down f m x a i = x a i
  | 0, _ => rfl
  | m + 1, x => (down_o hf (m := m) (x := f x m)).trans (hf x m)
theorem down_k {f : Nx → Nat → Nx} {a i : Nat} (hf : ∀ x k, i ≠ k → f x k a i = x a i) : ∀ {m : Nat} {x : Nx}, m ≤ i → down f m x a i = x a i
  | 0, _, _ => rfl
  | m + 1, x, h => (down_k hf (m := m) (x := f x m) (by omega)).trans (hf x m (by omega))
theorem round_o {p x : Nx} {a i : Nat} (h : a = 4 ∨ a = 6 ∨ a = 7 ∨ a = 8) : sRound p x a i = x a i := by
  unfold sRound
  rw [down_o (fun _ _ => begIf_o (by omega)), down_o (fun _ _ => finIf_o (by omega))]
theorem s_round56 {p : Nx} (hp : PI p) (N : Nat) (hN : 5 < N) : ∀ {m f : Nat} {x : Nx}, m < f → m ≤ p 6 0 → LI p x → x 8 0 < 2 ^ 30 → itn (fX1_round_56b N) (fun _ _ _ => none) f (embP p) (embL x) (dI m) = some (embL (down (sBegIf p) m x))
  | _, 0, x, h, _, _, _ => by omega
  | 0, f + 1, x, h, hm, hx, hT => by
    rw [itn_s]
    unfold fX1_round_56b down
    rw [dI_0]
    simp (disch := omega) only [↓nm_s, ↓bnd_s, ↓reduceIte, nI_add, pk_mul, nI_subdiv, nI_sub', nI_m1, nI_0m1, nI_clamp, gdi_nI, gdz_nI, nI_div, nrem, nI_ltI, nI_leI, nI_eq, leT, leF, ltT, ltF, eqT, eqF, neT, neF, z0, m1lt0, m1lt, m1le, nI_ne_neg, neg_ne_nI, embP_a, embL_a, embL_up, embL_up1, up2_ne, up2_at, up2_o, up1_ne, up1_at, bI_eq0, bI_eq1, or_true, true_or, and_true, true_and, or_false, false_or, and_false, false_and, not_true_eq_false, not_false_eq_true, if_true, if_false,  decide_true, decide_false, bI_t, bI_f, Nat.add_sub_cancel, Nat.zero_add, Nat.add_zero, Nat.mul_zero, upd_eq, upd_ne]
  | m + 1, f + 1, x, h, hm, hx, hT => by
    have h2 := hp.n
    have h3 := hx.k (k := m) (by omega)
    have hi := LI_begIf (k := m) hp hx (by omega)
    have i := s_round56 hp N hN (m := m) (f := f) (x := sBegIf p x m) (by omega) (by omega) hi (by rw [begIf_o (by omega)]; exact hT)
    rw [itn_s, dI_s]
    generalize itn (fX1_round_56b N) (fun _ _ _ => none) f = K at i ⊢
    have a := s_isIdle (x := x) (k := m) (by omega) (by omega) (by omega)
    have b := s_canB hp hx hT (N := N) (k := m) hN (by omega)
    have c := s_begin hp hx hT (k := m) (by omega)
    unfold fX1_round_56b down
    unfold sBegIf at i ⊢
    by_cases e : x 1 m = x 2 m
    · cases d : canB p x m with
      | true =>
        rw [if_pos e, if_pos d] at i
        rw [d] at b
        simp (disch := omega) only [↓nm_s, ↓bnd_s, ↓reduceIte, nI_add, pk_mul, nI_subdiv, nI_sub', nI_m1, nI_0m1, nI_clamp, gdi_nI, gdz_nI, nI_div, nrem, nI_ltI, nI_leI, nI_eq, leT, leF, ltT, ltF, eqT, eqF, neT, neF, z0, m1lt0, m1lt, m1le, nI_ne_neg, neg_ne_nI, embP_a, embL_a, embL_up, embL_up1, up2_ne, up2_at, up2_o, up1_ne, up1_at, bI_eq0, bI_eq1, or_true, true_or, and_true, true_and, or_false, false_or, and_false, false_and, not_true_eq_false, not_false_eq_true, if_true, if_false,  decide_true, decide_false, bI_t, bI_f, Nat.add_sub_cancel, Nat.zero_add, Nat.add_zero, Nat.mul_zero, upd_eq, upd_ne, a, b, c, fX1_round_81, dI_f, i]
      | false =>
        rw [if_pos e, if_neg (by rw [d]; decide)] at i
        rw [d] at b
        simp (disch := omega) only [↓nm_s, ↓bnd_s, ↓reduceIte, nI_add, pk_mul, nI_subdiv, nI_sub', nI_m1, nI_0m1, nI_clamp, gdi_nI, gdz_nI, nI_div, nrem, nI_ltI, nI_leI, nI_eq, leT, leF, ltT, ltF, eqT, eqF, neT, neF, z0, m1lt0, m1lt, m1le, nI_ne_neg, neg_ne_nI, embP_a, embL_a, embL_up, embL_up1, up2_ne, up2_at, up2_o, up1_ne, up1_at, bI_eq0, bI_eq1, or_true, true_or, and_true, true_and, or_false, false_or, and_false, false_and, not_true_eq_false, not_false_eq_true, if_true, if_false,  decide_true, decide_false, bI_t, bI_f, Nat.add_sub_cancel, Nat.zero_add, Nat.add_zero, Nat.mul_zero, upd_eq, upd_ne, a, b, c, fX1_round_81, dI_f, i, Bool.false_eq_true]
    · rw [if_neg e] at i
      simp (disch := omega) only [↓nm_s, ↓bnd_s, ↓reduceIte, nI_add, pk_mul, nI_subdiv, nI_sub', nI_m1, nI_0m1, nI_clamp, gdi_nI, gdz_nI, nI_div, nrem, nI_ltI, nI_leI, nI_eq, leT, leF, ltT, ltF, eqT, eqF, neT, neF, z0, m1lt0, m1lt, m1le, nI_ne_neg, neg_ne_nI, embP_a, embL_a, embL_up, embL_up1, up2_ne, up2_at, up2_o, up1_ne, up1_at, bI_eq0, bI_eq1, or_true, true_or, and_true, true_and, or_false, false_or, and_false, false_and, not_true_eq_false, not_false_eq_true, if_true, if_false,  decide_true, decide_false, bI_t, bI_f, Nat.add_sub_cancel, Nat.zero_add, Nat.add_zero, Nat.mul_zero, upd_eq, upd_ne, a, fX1_round_81, dI_f, i]
theorem s_round10 {p : Nx} (hp : PI p) (N : Nat) (hN : 6 < N) : ∀ {m f : Nat} {x : Nx}, m < f → m ≤ p 6 0 → LI p x → x 8 0 < 2 ^ 30 → itn (fX1_round_10b N) (fun _ _ _ => none) f (embP p) (embL x) (dI m) = some (embL (down (sBegIf p) (p 6 0) (down (sFinIf p) m x)))
  | _, 0, x, h, _, _, _ => by omega
  | 0, f + 1, x, h, hm, hx, hT => by
    have h2 := hp.n
    have g := s_round56 hp N (by omega) (m := p 6 0) (f := N) (x := x) (by omega) (by omega) hx hT
    rw [itn_s]
    unfold fX1_round_10b
    rw [dI_0]
    simp (disch := omega) only [↓nm_s, ↓bnd_s, ↓reduceIte, nI_add, pk_mul, nI_subdiv, nI_sub', nI_m1, nI_0m1, nI_clamp, gdi_nI, gdz_nI, nI_div, nrem, nI_ltI, nI_leI, nI_eq, leT, leF, ltT, ltF, eqT, eqF, neT, neF, z0, m1lt0, m1lt, m1le, nI_ne_neg, neg_ne_nI, embP_a, embL_a, embL_up, embL_up1, up2_ne, up2_at, up2_o, up1_ne, up1_at, bI_eq0, bI_eq1, or_true, true_or, and_true, true_and, or_false, false_or, and_false, false_and, not_true_eq_false, not_false_eq_true, if_true, if_false,  decide_true, decide_false, bI_t, bI_f, Nat.add_sub_cancel, Nat.zero_add, Nat.add_zero, Nat.mul_zero, upd_eq, upd_ne, fX1_round_56, dI_p, g]
    rfl
  | m + 1, f + 1, x, h, hm, hx, hT => by
    have h2 := hp.n
    have h3 := hx.k (k := m) (by omega)
    have hi := LI_finIf (k := m) hp hx (by omega)
    have i := s_round10 hp N hN (m := m) (f := f) (x := sFinIf p x m) (by omega) (by omega) hi (by rw [finIf_o (by omega)]; exact hT)
    rw [itn_s, dI_s]
    generalize itn (fX1_round_10b N) (fun _ _ _ => none) f = K at i ⊢
    have a := s_isIdle (x := x) (k := m) (by omega) (by omega) (by omega)
    unfold fX1_round_10b
    rw [show down (sFinIf p) (m + 1) x = down (sFinIf p) m (sFinIf p x m) from rfl]
    unfold sFinIf at i ⊢
    by_cases e : x 1 m = x 2 m
    · rw [if_pos e] at i
      simp (disch := omega) only [↓nm_s, ↓bnd_s, ↓reduceIte, nI_add, pk_mul, nI_subdiv, nI_sub', nI_m1, nI_0m1, nI_clamp, gdi_nI, gdz_nI, nI_div, nrem, nI_ltI, nI_leI, nI_eq, leT, leF, ltT, ltF, eqT, eqF, neT, neF, z0, m1lt0, m1lt, m1le, nI_ne_neg, neg_ne_nI, embP_a, embL_a, embL_up, embL_up1, up2_ne, up2_at, up2_o, up1_ne, up1_at, bI_eq0, bI_eq1, or_true, true_or, and_true, true_and, or_false, false_or, and_false, false_and, not_true_eq_false, not_false_eq_true, if_true, if_false,  decide_true, decide_false, bI_t, bI_f, Nat.add_sub_cancel, Nat.zero_add, Nat.add_zero, Nat.mul_zero, upd_eq, upd_ne, a, fX1_round_40, dI_f, i]
    · have h4 := hx.e (k := m) (by omega) e
      rw [if_neg e] at i
      by_cases d : x 8 0 < x 3 m
      · rw [if_pos d] at i
        simp (disch := omega) only [↓nm_s, ↓bnd_s, ↓reduceIte, nI_add, pk_mul, nI_subdiv, nI_sub', nI_m1, nI_0m1, nI_clamp, gdi_nI, gdz_nI, nI_div, nrem, nI_ltI, nI_leI, nI_eq, leT, leF, ltT, ltF, eqT, eqF, neT, neF, z0, m1lt0, m1lt, m1le, nI_ne_neg, neg_ne_nI, embP_a, embL_a, embL_up, embL_up1, up2_ne, up2_at, up2_o, up1_ne, up1_at, bI_eq0, bI_eq1, or_true, true_or, and_true, true_and, or_false, false_or, and_false, false_and, not_true_eq_false, not_false_eq_true, if_true, if_false,  decide_true, decide_false, bI_t, bI_f, Nat.add_sub_cancel, Nat.zero_add, Nat.add_zero, Nat.mul_zero, upd_eq, upd_ne, a, fX1_round_40, dI_f, i]
      · have c := s_finish hp hx hT (k := m) (by omega) e
        rw [if_neg d] at i
        simp (disch := omega) only [↓nm_s, ↓bnd_s, ↓reduceIte, nI_add, pk_mul, nI_subdiv, nI_sub', nI_m1, nI_0m1, nI_clamp, gdi_nI, gdz_nI, nI_div, nrem, nI_ltI, nI_leI, nI_eq, leT, leF, ltT, ltF, eqT, eqF, neT, neF, z0, m1lt0, m1lt, m1le, nI_ne_neg, neg_ne_nI, embP_a, embL_a, embL_up, embL_up1, up2_ne, up2_at, up2_o, up1_ne, up1_at, bI_eq0, bI_eq1, or_true, true_or, and_true, true_and, or_false, false_or, and_false, false_and, not_true_eq_false, not_false_eq_true, if_true, if_false,  decide_true, decide_false, bI_t, bI_f, Nat.add_sub_cancel, Nat.zero_add, Nat.add_zero, Nat.mul_zero, upd_eq, upd_ne, a, c, fX1_round_40, dI_f, i]
theorem s_round {p x : Nx} (hp : PI p) {N : Nat} (hN : 6 < N) (hx : LI p x) (hT : x 8 0 < 2 ^ 30) : fX1_round N (embP p) (embL x) = some (embL (sRound p x)) := by
  have h2 := hp.n
  have g := s_round10 hp N hN (m := p 6 0) (f := N) (x := x) (by omega) (by omega) hx hT
  unfold fX1_round sRound
  simp (disch := omega) only [↓nm_s, ↓bnd_s, ↓reduceIte, nI_add, pk_mul, nI_subdiv, nI_sub', nI_m1, nI_0m1, nI_clamp, gdi_nI, gdz_nI, nI_div, nrem, nI_ltI, nI_leI, nI_eq, leT, leF, ltT, ltF, eqT, eqF, neT, neF, z0, m1lt0, m1lt, m1le, nI_ne_neg, neg_ne_nI, embP_a, embL_a, embL_up, embL_up1, up2_ne, up2_at, up2_o, up1_ne, up1_at, bI_eq0, bI_eq1, or_true, true_or, and_true, true_and, or_false, false_or, and_false, false_and, not_true_eq_false, not_false_eq_true, if_true, if_false,  decide_true, decide_false, bI_t, bI_f, Nat.add_sub_cancel, Nat.zero_add, Nat.add_zero, Nat.mul_zero, upd_eq, upd_ne, fX1_round_10, dI_p, g]
