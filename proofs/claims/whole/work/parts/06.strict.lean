/-! after a round: nobody is due, nobody idle can begin; somebody is busy -/
theorem canB_iff {p x : Nx} {k : Nat} : canB p x k = true ↔ (k ≠ 0 → x 1 k < x 2 (k - 1)) ∧ ∀ l, l < p 7 0 → p 2 l = k → x 1 (p 2 l) < x 4 l + x 2 (p 3 l) :=
  ⟨fun h => ⟨fun h0 => canB_w h h0, fun _ hl e => canB_l h hl e⟩, fun h => canB_mk h.1 h.2⟩
theorem canB_congr {p x y : Nx} {k : Nat} (h1 : x 1 k = y 1 k) (h2 : ∀ i, x 2 i = y 2 i) (h4 : ∀ l, l < p 7 0 → x 4 l = y 4 l) : canB p x k = canB p y k := by
  rw [Bool.eq_iff_iff, canB_iff, canB_iff]
  constructor
  · rintro ⟨a, b⟩
    refine ⟨fun h0 => ?_, fun l hl e => ?_⟩
    · have := a h0; rw [← h1, ← h2]; exact this
    · have := b l hl e; rw [e] at this ⊢; rw [← h1, ← h2, ← h4 l hl]; exact this
  · rintro ⟨a, b⟩
    refine ⟨fun h0 => ?_, fun l hl e => ?_⟩
    · have := a h0; rw [h1, h2]; exact this
    · have := b l hl e; rw [e] at this ⊢; rw [h1, h2, h4 l hl]; exact this
def SDu (p x : Nx) (m : Nat) : Prop := ∀ k, m ≤ k → k < p 6 0 → x 1 k ≠ x 2 k → x 8 0 < x 3 k
def NB (p x : Nx) (m : Nat) : Prop := ∀ k, m ≤ k → k < p 6 0 → x 1 k = x 2 k → canB p x k = false
theorem S1_finIf {p x : Nx} {m : Nat} (hx : LI p x) (hm : m < p 6 0) (h : SDu p x (m + 1)) : SDu p (sFinIf p x m) m := by
  intro k h1 h2 h3
  have hk := hx.k hm
  by_cases e : k = m
  · subst e
    unfold sFinIf at h3 ⊢
    by_cases c : x 1 k = x 2 k
    · rw [if_pos c] at h3; exact absurd c h3
    · rw [if_neg c] at h3 ⊢
      by_cases d : x 8 0 < x 3 k
      · rw [if_pos d]; exact d
      · rw [if_neg d, sFin_o (by omega), sFin_2, if_pos rfl] at h3
        omega
  · rw [finIf_o (by omega), finIf_o (by omega)]
    rw [finIf_o (by omega), finIf_k e] at h3
    exact h k (by omega) h2 h3
theorem S1_fin {p : Nx} (hp : PI p) : ∀ {m : Nat} {x : Nx}, m ≤ p 6 0 → LI p x → SDu p x m → SDu p (down (sFinIf p) m x) 0
  | 0, _, _, _, h => h
  | m + 1, x, hm, hx, h => S1_fin hp (m := m) (by omega) (LI_finIf hp hx (by omega)) (S1_finIf hx (by omega) h)
theorem S1_begIf {p x : Nx} {m : Nat} (hp : PI p) (hm : m < p 6 0) (h : SDu p x 0) : SDu p (sBegIf p x m) 0 := by
  have ht := hp.k hm
  intro k h1 h2 h3
  unfold sBegIf at h3 ⊢
  by_cases c : x 1 m = x 2 m
  · rw [if_pos c] at h3 ⊢
    by_cases d : canB p x m = true
    · rw [if_pos d] at h3 ⊢
      rw [sBeg_o (by omega), sBeg_3]
      by_cases e : k = m
      · rw [if_pos e]; omega
      · rw [if_neg e]
        rw [sBeg_1, if_neg e, sBeg_o (by omega)] at h3
        exact h k (by omega) h2 h3
    · rw [if_neg d] at h3 ⊢
      exact h k h1 h2 h3
  · rw [if_neg c] at h3 ⊢
    exact h k h1 h2 h3
theorem NB_begIf {p x : Nx} {m : Nat} (h : NB p x (m + 1)) : NB p (sBegIf p x m) m := by
  intro k h1 h2 h3
  by_cases e : k = m
  · subst e
    unfold sBegIf at h3 ⊢
    by_cases c : x 1 k = x 2 k
    · rw [if_pos c] at h3 ⊢
      by_cases d : canB p x k = true
      · rw [if_pos d, sBeg_1, if_pos rfl, sBeg_o (by omega)] at h3
        omega
      · rw [if_neg d]
        exact Bool.eq_false_iff.mpr d
    · rw [if_neg c] at h3
      exact absurd h3 c
  · rw [canB_congr (y := x) (begIf_k (Or.inl rfl) e) (fun i => begIf_o (by omega)) (fun l _ => begIf_o (by omega))]
    rw [begIf_k (Or.inl rfl) e, begIf_o (by omega)] at h3
    exact h k (by omega) h2 h3
theorem SN_beg {p : Nx} (hp : PI p) : ∀ {m : Nat} {x : Nx}, m ≤ p 6 0 → SDu p x 0 → NB p x m → SDu p (down (sBegIf p) m x) 0 ∧ NB p (down (sBegIf p) m x) 0
  | 0, _, _, h, g => ⟨h, g⟩
  | m + 1, x, hm, h, g => SN_beg hp (m := m) (by omega) (S1_begIf hp (by omega) h) (NB_begIf g)
/-- a line between two rounds -/
def LZ (p x : Nx) : Prop := LI p x ∧ SDu p x 0 ∧ NB p x 0
theorem LZ_round {p x : Nx} (hp : PI p) (hx : LI p x) : LZ p (sRound p x) := by
  refine ⟨LI_round hp hx, ?_⟩
  exact SN_beg hp (Nat.le_refl _) (S1_fin hp (Nat.le_refl _) hx (fun k h1 h2 => by omega)) (fun k h1 h2 => by omega)
/-- through counts after a round -/
theorem finIf_at {p x : Nx} {k : Nat} : sFinIf p x k 2 k = x 2 k + (if x 1 k ≠ x 2 k ∧ x 3 k ≤ x 8 0 then 1 else 0) := by
  unfold sFinIf
  by_cases c : x 1 k = x 2 k
  · rw [if_pos c, if_neg (fun z => z.1 c)]; rfl
  · rw [if_neg c]
    by_cases d : x 8 0 < x 3 k
    · rw [if_pos d, if_neg (by omega)]; rfl
    · rw [if_neg d, sFin_2, if_pos rfl, if_pos ⟨c, by omega⟩]
theorem fin_at {p : Nx} : ∀ {m k : Nat} {x : Nx}, k < m → down (sFinIf p) m x 2 k = x 2 k + (if x 1 k ≠ x 2 k ∧ x 3 k ≤ x 8 0 then 1 else 0)
  | 0, k, x, h => by omega
  | m + 1, k, x, h => by
    show down (sFinIf p) m (sFinIf p x m) 2 k = _
    by_cases e : k = m
    · subst e
      rw [down_k (fun _ _ z => finIf_k z) (Nat.le_refl _), finIf_at]
    · rw [fin_at (m := m) (by omega), finIf_k e, finIf_o (by omega), finIf_o (by omega), finIf_o (by omega)]
theorem round_2 {p x : Nx} {k : Nat} (hk : k < p 6 0) : sRound p x 2 k = x 2 k + (if x 1 k ≠ x 2 k ∧ x 3 k ≤ x 8 0 then 1 else 0) := by
  unfold sRound
  rw [down_o (fun _ _ => begIf_o (by omega)), fin_at hk]
/-- nothing to do: nothing done -/
theorem down_id {f : Nx → Nat → Nx} : ∀ {m : Nat} {x : Nx}, (∀ k, k < m → f x k = x) → down f m x = x
  | 0, _, _ => rfl
  | m + 1, x, h => by
    show down f m (f x m) = x
    rw [h m (by omega)]
    exact down_id (fun k hk => h k (by omega))
theorem round_id {p x : Nx} (h1 : SDu p x 0) (h2 : NB p x 0) : sRound p x = x := by
  unfold sRound
  rw [down_id (f := sFinIf p) (x := x)]
  · apply down_id
    intro k hk
    unfold sBegIf
    by_cases c : x 1 k = x 2 k
    · rw [if_pos c, if_neg]
      rw [h2 k (by omega) hk c]
      decide
    · rw [if_neg c]
  · intro k hk
    unfold sFinIf
    by_cases c : x 1 k = x 2 k
    · rw [if_pos c]
    · rw [if_neg c, if_pos (h1 k (by omega) hk c)]
theorem busy_ex {p x : Nx} (hp : PI p) (hx : LZ p x) : ∃ k, k < p 6 0 ∧ x 1 k ≠ x 2 k := by
  refine Classical.byContradiction (fun hne => ?_)
  have idle : ∀ k, k < p 6 0 → x 1 k = x 2 k := fun k hk => Classical.byContradiction (fun z => hne ⟨k, hk, z⟩)
  have hn := hp.n
  have all : ∀ d k, k + d + 1 = p 6 0 → x 2 k = x 2 (p 6 0 - 1) := by
    intro d
    induction d with
    | zero => intro k h; rw [show k = p 6 0 - 1 from by omega]
    | succ d ih =>
      intro k h
      have i := ih (k + 1) (by omega)
      have s := hx.1.s (k := k) (by omega)
      have a := idle (k + 1) (by omega)
      have nb := hx.2.2 (k + 1) (by omega) (by omega) a
      by_cases w : x 1 (k + 1) < x 2 k
      · exfalso
        have : canB p x (k + 1) = true := by
          refine canB_mk (fun _ => w) (fun l hl e => ?_)
          have h3 := hp.l hl
          have h4 := hx.1.l hl
          have j : x 2 (p 3 l) = x 2 (p 6 0 - 1) := by
            have g1 := hx.1.mono' (j := p 3 l) (k := k + 1) (by omega) (by omega)
            have g2 := hx.1.mono' (j := p 6 0 - 1) (k := p 3 l) (by omega) (by omega)
            omega
          rw [e]
          omega
        rw [this] at nb
        cases nb
      · omega
  have a0 := idle 0 (by omega)
  have nb := hx.2.2 0 (by omega) (by omega) a0
  have : canB p x 0 = true := by
    refine canB_mk (fun z => absurd rfl z) (fun l hl e => ?_)
    have h3 := hp.l hl
    have h4 := hx.1.l hl
    have j := all (p 6 0 - 1) 0 (by omega)
    have g2 := hx.1.mono' (j := p 6 0 - 1) (k := p 3 l) (by omega) (by omega)
    have g1 := hx.1.mono' (j := p 3 l) (k := 0) (by omega) (by omega)
    rw [e]
    omega
  rw [this] at nb
  cases nb
/-! who is through next -/
def nextF (x : Nx) : Nat → Nat → Nat → Nat
  | _, 0, a => a
  | l, n + 1, a => nextF x (l + 1) n (if x 1 l = x 2 l then a else if a ≤ x 3 l then a else x 3 l)
def sNext (p x : Nx) : Nat := nextF x 0 (p 6 0) 2147483647
theorem nextF_le {x : Nx} : ∀ {n l a : Nat}, nextF x l n a ≤ a ∧ ∀ k, l ≤ k → k < l + n → x 1 k ≠ x 2 k → nextF x l n a ≤ x 3 k
  | 0, l, a => ⟨Nat.le_refl _, fun k h1 h2 => by omega⟩
  | n + 1, l, a => by
    have i := nextF_le (x := x) (n := n) (l := l + 1) (a := if x 1 l = x 2 l then a else if a ≤ x 3 l then a else x 3 l)
    unfold nextF
    have c : (if x 1 l = x 2 l then a else if a ≤ x 3 l then a else x 3 l) ≤ a := by split <;> (try split) <;> omega
    refine ⟨by omega, fun k h1 h2 h3 => ?_⟩
    by_cases e : k = l
    · subst e
      have : (if x 1 k = x 2 k then a else if a ≤ x 3 k then a else x 3 k) ≤ x 3 k := by rw [if_neg h3]; split <;> omega
      omega
    · exact i.2 k (by omega) (by omega) h3
theorem nextF_eq {x : Nx} : ∀ {n l a : Nat}, nextF x l n a = a ∨ ∃ k, l ≤ k ∧ k < l + n ∧ x 1 k ≠ x 2 k ∧ nextF x l n a = x 3 k
  | 0, l, a => Or.inl rfl
  | n + 1, l, a => by
    have i := nextF_eq (x := x) (n := n) (l := l + 1) (a := if x 1 l = x 2 l then a else if a ≤ x 3 l then a else x 3 l)
    unfold nextF
    rcases i with i | ⟨k, h1, h2, h3, h4⟩
    · rw [i]
      by_cases c : x 1 l = x 2 l
      · rw [if_pos c]; exact Or.inl rfl
      · rw [if_neg c]
        by_cases d : a ≤ x 3 l
        · rw [if_pos d]; exact Or.inl rfl
        · rw [if_neg d]; exact Or.inr ⟨l, by omega, by omega, c, rfl⟩
    · exact Or.inr ⟨k, by omega, by omega, h3, h4⟩
theorem sNext_le {p x : Nx} {k : Nat} (hk : k < p 6 0) (hb : x 1 k ≠ x 2 k) : sNext p x ≤ x 3 k := nextF_le.2 k (by omega) (by omega) hb
theorem sNext_ex {p x : Nx} (hp : PI p) (hx : LZ p x) (hT : x 8 0 < 2 ^ 30) : ∃ k, k < p 6 0 ∧ x 1 k ≠ x 2 k ∧ sNext p x = x 3 k := by
  obtain ⟨k, hk, hb⟩ := busy_ex hp hx
  have e := hx.1.e hk hb
  have l := sNext_le hk hb
  rcases nextF_eq (x := x) (n := p 6 0) (l := 0) (a := 2147483647) with h | ⟨j, h1, h2, h3, h4⟩
  · exfalso
    unfold sNext at l
    omega
  · exact ⟨j, by omega, h3, h4⟩
theorem sNext_b {p x : Nx} (hp : PI p) (hx : LZ p x) (hT : x 8 0 < 2 ^ 30) : x 8 0 < sNext p x ∧ sNext p x ≤ x 8 0 + 120 := by
  obtain ⟨k, hk, hb, e⟩ := sNext_ex hp hx hT
  have a := hx.1.e hk hb
  have b := hx.2.1 k (by omega) hk hb
  omega
theorem s_next5 {p x : Nx} (hp : PI p) (hx : LI p x) (hT : x 8 0 < 2 ^ 30) (N : Nat) : ∀ {d l f a : Nat}, d < f → l + d = p 6 0 → a < 2 ^ 31 → itn (fX1_nextThrough_5b N) (fun _ _ _ _ => none) f (embP p) (embL x) (nI a) (nI l) = some (nI (nextF x l d a))
  | _, _, 0, _, h, _, _ => by omega
  | 0, l, f + 1, a, h, e, ha => by
    have hn := hp.n
    rw [itn_s]
    unfold fX1_nextThrough_5b nextF
    simp (disch := omega) only [↓nm_s, ↓bnd_s, ↓reduceIte, nI_add, pk_mul, nI_subdiv, nI_sub', nI_m1, nI_0m1, nI_clamp, gdi_nI, gdz_nI, nI_div, nrem, nI_ltI, nI_leI, nI_eq, leT, leF, ltT, ltF, eqT, eqF, neT, neF, z0, m1lt0, m1lt, m1le, nI_ne_neg, neg_ne_nI, embP_a, embL_a, embL_up, embL_up1, up2_ne, up2_at, up2_o, up1_ne, up1_at, bI_eq0, bI_eq1, or_true, true_or, and_true, true_and, or_false, false_or, and_false, false_and, not_true_eq_false, not_false_eq_true, if_true, if_false,  decide_true, decide_false, bI_t, bI_f, Nat.add_sub_cancel, Nat.zero_add, Nat.add_zero, Nat.mul_zero, upd_eq, upd_ne]
  | d + 1, l, f + 1, a, h, e, ha => by
    have hn := hp.n
    have h3 := hx.k (k := l) (by omega)
    have g := s_isIdle (x := x) (k := l) (by omega) (by omega) (by omega)
    rw [itn_s]
    unfold nextF
    by_cases c : x 1 l = x 2 l
    · have i := s_next5 hp hx hT N (d := d) (l := l + 1) (f := f) (a := a) (by omega) (by omega) ha
      generalize itn (fX1_nextThrough_5b N) (fun _ _ _ _ => none) f = K at i ⊢
      unfold fX1_nextThrough_5b
      simp (disch := omega) only [↓nm_s, ↓bnd_s, ↓reduceIte, nI_add, pk_mul, nI_subdiv, nI_sub', nI_m1, nI_0m1, nI_clamp, gdi_nI, gdz_nI, nI_div, nrem, nI_ltI, nI_leI, nI_eq, leT, leF, ltT, ltF, eqT, eqF, neT, neF, z0, m1lt0, m1lt, m1le, nI_ne_neg, neg_ne_nI, embP_a, embL_a, embL_up, embL_up1, up2_ne, up2_at, up2_o, up1_ne, up1_at, bI_eq0, bI_eq1, or_true, true_or, and_true, true_and, or_false, false_or, and_false, false_and, not_true_eq_false, not_false_eq_true, if_true, if_false,  decide_true, decide_false, bI_t, bI_f, Nat.add_sub_cancel, Nat.zero_add, Nat.add_zero, Nat.mul_zero, upd_eq, upd_ne, g, fX1_nextThrough_41, i]
    · have h4 := hx.e (k := l) (by omega) c
      by_cases z : a ≤ x 3 l
      · have i := s_next5 hp hx hT N (d := d) (l := l + 1) (f := f) (a := a) (by omega) (by omega) ha
        generalize itn (fX1_nextThrough_5b N) (fun _ _ _ _ => none) f = K at i ⊢
        unfold fX1_nextThrough_5b
        simp (disch := omega) only [↓nm_s, ↓bnd_s, ↓reduceIte, nI_add, pk_mul, nI_subdiv, nI_sub', nI_m1, nI_0m1, nI_clamp, gdi_nI, gdz_nI, nI_div, nrem, nI_ltI, nI_leI, nI_eq, leT, leF, ltT, ltF, eqT, eqF, neT, neF, z0, m1lt0, m1lt, m1le, nI_ne_neg, neg_ne_nI, embP_a, embL_a, embL_up, embL_up1, up2_ne, up2_at, up2_o, up1_ne, up1_at, bI_eq0, bI_eq1, or_true, true_or, and_true, true_and, or_false, false_or, and_false, false_and, not_true_eq_false, not_false_eq_true, if_true, if_false,  decide_true, decide_false, bI_t, bI_f, Nat.add_sub_cancel, Nat.zero_add, Nat.add_zero, Nat.mul_zero, upd_eq, upd_ne, g, fX1_nextThrough_41, i]
      · have i := s_next5 hp hx hT N (d := d) (l := l + 1) (f := f) (a := x 3 l) (by omega) (by omega) (by omega)
        generalize itn (fX1_nextThrough_5b N) (fun _ _ _ _ => none) f = K at i ⊢
        unfold fX1_nextThrough_5b
        simp (disch := omega) only [↓nm_s, ↓bnd_s, ↓reduceIte, nI_add, pk_mul, nI_subdiv, nI_sub', nI_m1, nI_0m1, nI_clamp, gdi_nI, gdz_nI, nI_div, nrem, nI_ltI, nI_leI, nI_eq, leT, leF, ltT, ltF, eqT, eqF, neT, neF, z0, m1lt0, m1lt, m1le, nI_ne_neg, neg_ne_nI, embP_a, embL_a, embL_up, embL_up1, up2_ne, up2_at, up2_o, up1_ne, up1_at, bI_eq0, bI_eq1, or_true, true_or, and_true, true_and, or_false, false_or, and_false, false_and, not_true_eq_false, not_false_eq_true, if_true, if_false,  decide_true, decide_false, bI_t, bI_f, Nat.add_sub_cancel, Nat.zero_add, Nat.add_zero, Nat.mul_zero, upd_eq, upd_ne, g, fX1_nextThrough_41, i]
theorem s_next {p x : Nx} (hp : PI p) (hx : LI p x) (hT : x 8 0 < 2 ^ 30) {N : Nat} (hN : 6 < N) : fX1_nextThrough N (embP p) (embL x) = some (nI (sNext p x)) := by
  have hn := hp.n
  have g := s_next5 hp hx hT N (d := p 6 0) (l := 0) (f := N) (a := 2147483647) (by omega) (by omega) (by omega)
  unfold fX1_nextThrough sNext
  simp (disch := omega) only [↓nm_s, ↓bnd_s, ↓reduceIte, nI_add, pk_mul, nI_subdiv, nI_sub', nI_m1, nI_0m1, nI_clamp, gdi_nI, gdz_nI, nI_div, nrem, nI_ltI, nI_leI, nI_eq, leT, leF, ltT, ltF, eqT, eqF, neT, neF, z0, m1lt0, m1lt, m1le, nI_ne_neg, neg_ne_nI, embP_a, embL_a, embL_up, embL_up1, up2_ne, up2_at, up2_o, up1_ne, up1_at, bI_eq0, bI_eq1, or_true, true_or, and_true, true_and, or_false, false_or, and_false, false_and, not_true_eq_false, not_false_eq_true, if_true, if_false,  decide_true, decide_false, bI_t, bI_f, Nat.add_sub_cancel, Nat.zero_add, Nat.add_zero, Nat.mul_zero, upd_eq, upd_ne, fX1_nextThrough_5, g]
/-! till somebody is through -/
theorem LI_time {p x : Nx} {u : Nat} (hx : LI p x) (h1 : x 8 0 ≤ u) (h2 : ∀ k, k < p 6 0 → x 1 k ≠ x 2 k → u ≤ x 3 k) : LI p (up1 x 8 u) := by
  refine ⟨?_, ?_, ?_, ?_, ?_, ?_, ?_⟩
  · rw [up1_ne (by omega)]; exact hx.f
  · intro l hl
    simp (disch := omega) only [up1_ne]
    exact hx.l hl
  · intro k hk
    have := hx.k hk
    simp (disch := omega) only [up1_ne, up1_at]
    omega
  · intro k hk
    simp (disch := omega) only [up1_ne]
    exact hx.s hk
  · intro k hk
    simp (disch := omega) only [up1_ne, up1_at]
    intro hb
    have a := hx.e hk hb
    have b := h2 k hk hb
    omega
  · intro j
    simp (disch := omega) only [up1_ne, up1_at]
    intro g1 g2
    have := hx.b g1 g2
    omega
  · have := hx.d
    simp (disch := omega) only [up1_ne, up1_at]
    omega
/-- one round further -/
def sStep (p x : Nx) : Nx := sRound p (up1 x 8 (sNext p x))
theorem LI_step {p x : Nx} (hp : PI p) (hx : LZ p x) (hT : x 8 0 < 2 ^ 30) : LI p (up1 x 8 (sNext p x)) := LI_time hx.1 (by have := sNext_b hp hx hT; omega) (fun k hk hb => sNext_le hk hb)
theorem LZ_step {p x : Nx} (hp : PI p) (hx : LZ p x) (hT : x 8 0 < 2 ^ 30) : LZ p (sStep p x) := LZ_round hp (LI_step hp hx hT)
theorem step_8 {p x : Nx} : sStep p x 8 0 = sNext p x := by
  unfold sStep
  rw [round_o (by omega), up1_at]
theorem step_2 {p x : Nx} {k : Nat} (hk : k < p 6 0) : sStep p x 2 k = x 2 k + (if x 1 k ≠ x 2 k ∧ x 3 k ≤ sNext p x then 1 else 0) := by
  unfold sStep
  rw [round_2 hk]
  simp (disch := omega) only [up1_ne, up1_at]
theorem step_ex {p x : Nx} (hp : PI p) (hx : LZ p x) (hT : x 8 0 < 2 ^ 30) : ∃ k, k < p 6 0 ∧ sStep p x 2 k = x 2 k + 1 := by
  obtain ⟨k, hk, hb, e⟩ := sNext_ex hp hx hT
  refine ⟨k, hk, ?_⟩
  rw [step_2 hk, if_pos ⟨hb, by omega⟩]
theorem step_mono {p x : Nx} {k : Nat} (hk : k < p 6 0) : x 2 k ≤ sStep p x 2 k ∧ sStep p x 2 k ≤ x 2 k + 1 := by
  rw [step_2 hk]
  split <;> omega
/-- how much can be through yet ahead of the next one OUT -/
def sumD (x : Nx) (T : Nat) : Nat → Nat
  | 0 => 0
  | n + 1 => sumD x T n + (T + 20 - x 2 n)
theorem sumD_le {x : Nx} {T : Nat} : ∀ {n : Nat}, (∀ k, k < n → T ≤ x 2 k) → sumD x T n ≤ 20 * n
  | 0, _ => Nat.le_refl _
  | n + 1, h => by
    have := sumD_le (x := x) (T := T) (n := n) (fun k hk => h k (by omega))
    have := h n (by omega)
    unfold sumD
    omega
theorem sumD_mono {x y : Nx} {T : Nat} : ∀ {n : Nat}, (∀ k, k < n → x 2 k ≤ y 2 k) → sumD y T n ≤ sumD x T n
  | 0, _ => Nat.le_refl _
  | n + 1, h => by
    have := sumD_mono (x := x) (y := y) (T := T) (n := n) (fun k hk => h k (by omega))
    have := h n (by omega)
    unfold sumD
    omega
theorem sumD_lt {x y : Nx} {T : Nat} : ∀ {n : Nat}, (∀ k, k < n → x 2 k ≤ y 2 k) → (∃ k, k < n ∧ x 2 k < y 2 k ∧ y 2 k ≤ T + 20) → sumD y T n < sumD x T n
  | 0, _, ⟨k, hk, _⟩ => by omega
  | n + 1, h, ⟨k, hk, h1, h2⟩ => by
    have a := sumD_mono (x := x) (y := y) (T := T) (n := n) (fun k hk => h k (by omega))
    have b := h n (by omega)
    unfold sumD
    by_cases e : k = n
    · subst e; omega
    · have := sumD_lt (x := x) (y := y) (T := T) (n := n) (fun k hk => h k (by omega)) ⟨k, by omega, h1, h2⟩
      omega
def leapN (p : Nx) (T : Nat) : Nat → Nx → Nx
  | 0, x => x
  | d + 1, x => if x 2 (p 6 0 - 1) = T then leapN p T d (sStep p x) else x
def sLeap (p x : Nx) : Nx := leapN p (x 2 (p 6 0 - 1)) 102 x
