/-! station, waits, loop, next -/
/-- what stands in every state -/
theorem Rel_base {c : Nat → Rc} {FL : RcL} {M : Rc} {ML : RcL} (h : Rel c FL M ML) : ∃ p, c 1 = embP p ∧ p 6 0 ≤ 6 ∧ p 7 0 ≤ 5 ∧ M 11 1 = nI (p 6 0) ∧ M 11 14 = nI (p 7 0) ∧ ((p 6 0 = 0 ∧ p 7 0 = 0 ∧ M 11 0 = nI 0) ∨ ∃ g x, Wk p g x c M) := by
  obtain ⟨_, _, _, p, p1, p2, h4⟩ := h
  rcases h4 with ⟨e1, e2, e3, e4⟩ | ⟨g, x, w⟩
  · exact ⟨p, p1, by omega, by omega, by rw [e4.2.1, e1.1], by rw [e4.2.2.1, e1.2.1], Or.inl ⟨e1.1, e1.2.1, e4.1⟩⟩
  · have n := w.1.n
    have q := w.1.q
    have S := w.2.2.2.1.2.2.2.1
    exact ⟨p, p1, n.2, q.2, S.1.1.2.1, S.1.1.2.2.1, Or.inr ⟨g, x, w⟩⟩
theorem s_kindAt {p x : Nx} (hp : PI p) (hx : LI p x) (hT : x 8 0 < 2 ^ 30) {k : Nat} (hk : k < p 6 0) : fX1_kindAt (embP p) (embL x) (nI k) = some (if x 1 k = x 2 k then -1 else nI (sKind p (x 7 0) (x 1 k - 1))) := by
  have hn := hp.n
  have a := hx.k hk
  have i := s_isIdle (x := x) (k := k) (by omega) (by omega) (by omega)
  unfold fX1_kindAt
  rw [i, bnd_s]
  by_cases c : x 1 k = x 2 k
  · rw [if_bT (decide_eq_true c), if_pos c]
  · rw [if_bF (decide_eq_false c), if_neg c, gdi_nI (by omega) (by omega), nI_clamp (by omega), embL_a (by omega), nI_sub' (by omega), s_kindOf hp hx (by omega), bnd_s]
theorem st_refuse {c : Nat → Rc} {FL : RcL} {M1 : Rc} {ML : RcL} (h : Rel c FL M1 ML) {cl : Option (Option Int32)} {mo : Option (Int32 × Rc)} (h1 : cl = some none) (h2 : mo = fX6_station_31 M1 ML) : ∃ (zx : Option Int32) (zm : Int32 × Rc), cl = some zx ∧ mo = some zm ∧ fX6_thrown zm.2 ML = some (stK zx) ∧ (∀ v, zx = some v → zm.1 = v) ∧ Rel c FL zm.2 ML := by
  refine ⟨none, (nI 0, va_up M1 0 (fun _ => nI 1)), h1, ?_, ?_, fun v hv => (by cases hv), Rel_0 h⟩
  · rw [h2]
    unfold fX6_station_31 fX6_refuse
    rw [nm_s, bnd_s]
  · unfold fX6_thrown
    dsimp only
    rw [va_up_self]
    rfl
theorem st_tell {c : Nat → Rc} {FL : RcL} {M1 : Rc} {ML : RcL} (h : Rel c FL M1 ML) (h0 : M1 0 0 = nI 0) {cl : Option (Option Int32)} {mo : Option (Int32 × Rc)} {v : Int32} (h1 : cl = some (some v)) (h2 : mo = some (v, M1)) : ∃ (zx : Option Int32) (zm : Int32 × Rc), cl = some zx ∧ mo = some zm ∧ fX6_thrown zm.2 ML = some (stK zx) ∧ (∀ v, zx = some v → zm.1 = v) ∧ Rel c FL zm.2 ML := by
  refine ⟨some v, (v, M1), h1, h2, ?_, fun w hw => (by cases hw; rfl), h⟩
  unfold fX6_thrown
  dsimp only
  rw [h0]
  rfl
theorem SP5_ok {N : Nat} : SP5 N Rel := by
  intro c FL M ML h a1 a2
  have h1 := Rel_0 (v := fun _ => nI 0) h
  have h0 : va_up M 0 (fun _ => nI 0) 0 0 = nI 0 := by rw [va_up_self]
  unfold fX6_station
  rw [nm_s]
  generalize va_up M 0 (fun _ => nI 0) = M1 at h1 h0 ⊢
  obtain ⟨p, p1, b6, b7, s1, s14, hw⟩ := Rel_base h1
  unfold fX5_station
  rw [p1, s1, embP_a]
  rcases in_q (x := a1) (q := p 6 0) (by omega) with ⟨k, hk, rfl, k0, ki⟩ | ⟨ki, k0⟩
  · rcases hw with z | ⟨g, x, w1, w2, w3, w4, w5, w6⟩
    · omega
    have S := w4.2.2.2.1
    have hn := w1.n
    have x8 := w4.2.2.1
    have hx := w4.1.1
    have D := S.2.2 k hk
    have xk := hx.k hk
    rw [if_neg k0, if_lt hk (by omega), ki, bnd_s, if_n0 (by omega) (by omega), w3]
    rcases in_ab a2 (a := 0) (b := 9) (by omega) (by omega) with ⟨j, _, j9, rfl, _, _, _, ji⟩ | ⟨ji, j0⟩
    · rw [ji, bnd_s, if_n0 (by omega) (by omega)]
      rcases (show j = 0 ∨ j = 1 ∨ j = 2 ∨ j = 3 ∨ j = 4 ∨ j = 5 ∨ j = 6 ∨ j = 7 ∨ j = 8 ∨ j = 9 from by omega) with rfl | rfl | rfl | rfl | rfl | rfl | rfl | rfl | rfl | rfl
      · rw [if_eq rfl, if_eq rfl, gdi_nI (by omega) (by omega), nI_clamp (by omega), embP_a, nI_add, gdi_nI (by omega) (by omega), nI_clamp (by omega), (S.1.2.1 k hk).1]
        exact st_tell h1 h0 rfl rfl
      · rw [if_neq (by omega) (by omega) (by omega), if_eq rfl, if_neq (by omega) (by omega) (by omega), if_eq rfl, gdi_nI (by omega) (by omega), nI_clamp (by omega), embP_a, nI_add, gdi_nI (by omega) (by omega), nI_clamp (by omega), (S.1.2.1 k hk).2]
        exact st_tell h1 h0 rfl rfl
      · rw [if_neq (by omega) (by omega) (by omega), if_neq (by omega) (by omega) (by omega), if_eq rfl, if_neq (by omega) (by omega) (by omega), if_neq (by omega) (by omega) (by omega), if_eq rfl, s_state w1 hx (by omega) hk, bnd_s, m_doing w1 hx (by omega) hk S, bnd_s]
        exact st_tell h1 h0 rfl rfl
      · rw [if_neq (by omega) (by omega) (by omega), if_neq (by omega) (by omega) (by omega), if_neq (by omega) (by omega) (by omega), if_eq rfl, if_neq (by omega) (by omega) (by omega), if_neq (by omega) (by omega) (by omega), if_neq (by omega) (by omega) (by omega), if_eq rfl, s_kindAt w1 hx (by omega) hk, bnd_s, m_its (c := 0) (by omega), bnd_s, Nat.add_zero, D.1]
        exact st_tell h1 h0 rfl rfl
      · rw [if_neq (by omega) (by omega) (by omega), if_neq (by omega) (by omega) (by omega), if_neq (by omega) (by omega) (by omega), if_neq (by omega) (by omega) (by omega), if_eq rfl, if_neq (by omega) (by omega) (by omega), if_neq (by omega) (by omega) (by omega), if_neq (by omega) (by omega) (by omega), if_neq (by omega) (by omega) (by omega), if_eq rfl, s_wait w1 hx (by omega) hk, bnd_s, m_wait w1 hk D, bnd_s]
        exact st_tell h1 h0 rfl rfl
      · rw [if_neq (by omega) (by omega) (by omega), if_neq (by omega) (by omega) (by omega), if_neq (by omega) (by omega) (by omega), if_neq (by omega) (by omega) (by omega), if_neq (by omega) (by omega) (by omega), if_eq rfl, if_neq (by omega) (by omega) (by omega), if_neq (by omega) (by omega) (by omega), if_neq (by omega) (by omega) (by omega), if_neq (by omega) (by omega) (by omega), if_neq (by omega) (by omega) (by omega), if_eq rfl, s_isIdle (by omega) (by omega) (by omega), bnd_s, m_idle w1 hk D, bnd_s]
        by_cases e : x 1 k = x 2 k
        · rw [if_bT (decide_eq_true e), if_bT (decide_eq_true e)]
          exact st_tell h1 h0 rfl rfl
        · rw [if_bF (decide_eq_false e), if_bF (decide_eq_false e), gdi_nI (by omega) (by omega), nI_clamp (by omega), embL_a (by omega), m_its (c := 3) (by omega), bnd_s, (D.2.2.1 e).2.1]
          exact st_tell h1 h0 rfl rfl
      · have q := w4.2.2.2.2 k 0 hk (by omega)
        rw [if_neq (by omega) (by omega) (by omega), if_neq (by omega) (by omega) (by omega), if_neq (by omega) (by omega) (by omega), if_neq (by omega) (by omega) (by omega), if_neq (by omega) (by omega) (by omega), if_neq (by omega) (by omega) (by omega), if_eq rfl, if_neq (by omega) (by omega) (by omega), if_neq (by omega) (by omega) (by omega), if_neq (by omega) (by omega) (by omega), if_neq (by omega) (by omega) (by omega), if_neq (by omega) (by omega) (by omega), if_neq (by omega) (by omega) (by omega), pk_mul, nI_add, nI_sub' (by omega), nI_add, nI_sub' (by omega), gdi_nI (by omega) (by omega), nI_clamp (by omega), embL_a (by omega), m_its (by omega), bnd_s, show 53 + 9 * k + (5 + 6 - 6) = 53 + 9 * k + 5 + 0 from by omega, q, show k * 4 + 6 - 6 = k * 4 + 0 from by omega]
        exact st_tell h1 h0 rfl rfl
      · have q := w4.2.2.2.2 k 1 hk (by omega)
        rw [if_neq (by omega) (by omega) (by omega), if_neq (by omega) (by omega) (by omega), if_neq (by omega) (by omega) (by omega), if_neq (by omega) (by omega) (by omega), if_neq (by omega) (by omega) (by omega), if_neq (by omega) (by omega) (by omega), if_neq (by omega) (by omega) (by omega), if_eq rfl, if_neq (by omega) (by omega) (by omega), if_neq (by omega) (by omega) (by omega), if_neq (by omega) (by omega) (by omega), if_neq (by omega) (by omega) (by omega), if_neq (by omega) (by omega) (by omega), if_neq (by omega) (by omega) (by omega), pk_mul, nI_add, nI_sub' (by omega), nI_add, nI_sub' (by omega), gdi_nI (by omega) (by omega), nI_clamp (by omega), embL_a (by omega), m_its (by omega), bnd_s, show 53 + 9 * k + (5 + 7 - 6) = 53 + 9 * k + 5 + 1 from by omega, q, show k * 4 + 7 - 6 = k * 4 + 1 from by omega]
        exact st_tell h1 h0 rfl rfl
      · have q := w4.2.2.2.2 k 2 hk (by omega)
        rw [if_neq (by omega) (by omega) (by omega), if_neq (by omega) (by omega) (by omega), if_neq (by omega) (by omega) (by omega), if_neq (by omega) (by omega) (by omega), if_neq (by omega) (by omega) (by omega), if_neq (by omega) (by omega) (by omega), if_neq (by omega) (by omega) (by omega), if_neq (by omega) (by omega) (by omega), if_eq rfl, if_neq (by omega) (by omega) (by omega), if_neq (by omega) (by omega) (by omega), if_neq (by omega) (by omega) (by omega), if_neq (by omega) (by omega) (by omega), if_neq (by omega) (by omega) (by omega), if_neq (by omega) (by omega) (by omega), pk_mul, nI_add, nI_sub' (by omega), nI_add, nI_sub' (by omega), gdi_nI (by omega) (by omega), nI_clamp (by omega), embL_a (by omega), m_its (by omega), bnd_s, show 53 + 9 * k + (5 + 8 - 6) = 53 + 9 * k + 5 + 2 from by omega, q, show k * 4 + 8 - 6 = k * 4 + 2 from by omega]
        exact st_tell h1 h0 rfl rfl
      · have q := w4.2.2.2.2 k 3 hk (by omega)
        rw [if_neq (by omega) (by omega) (by omega), if_neq (by omega) (by omega) (by omega), if_neq (by omega) (by omega) (by omega), if_neq (by omega) (by omega) (by omega), if_neq (by omega) (by omega) (by omega), if_neq (by omega) (by omega) (by omega), if_neq (by omega) (by omega) (by omega), if_neq (by omega) (by omega) (by omega), if_neq (by omega) (by omega) (by omega), if_eq rfl, if_neq (by omega) (by omega) (by omega), if_neq (by omega) (by omega) (by omega), if_neq (by omega) (by omega) (by omega), if_neq (by omega) (by omega) (by omega), if_neq (by omega) (by omega) (by omega), if_neq (by omega) (by omega) (by omega), pk_mul, nI_add, nI_sub' (by omega), nI_add, nI_sub' (by omega), gdi_nI (by omega) (by omega), nI_clamp (by omega), embL_a (by omega), m_its (by omega), bnd_s, show 53 + 9 * k + (5 + 9 - 6) = 53 + 9 * k + 5 + 3 from by omega, q, show k * 4 + 9 - 6 = k * 4 + 3 from by omega]
        exact st_tell h1 h0 rfl rfl
    · have hne : ∀ j, j < 10 → ¬ a2 = nI j := by
        intro j hj z
        subst z
        rcases j0 with j0 | j0
        · exact nI_pos (by omega) j0
        · exact j0.2.2 (nI_le (by omega) (by omega))
      rw [ji, bnd_s, if_e0 rfl, if_neg (hne 0 (by omega)), if_neg (hne 1 (by omega)), if_neg (hne 2 (by omega)), if_neg (hne 3 (by omega)), if_neg (hne 4 (by omega)), if_neg (hne 5 (by omega)), if_neg (hne 6 (by omega)), if_neg (hne 7 (by omega)), if_neg (hne 8 (by omega)), if_neg (hne 9 (by omega))]
      exact st_refuse h1 rfl rfl
  · rw [ki, bnd_s, if_e0 rfl]
    refine st_refuse h1 ?_ rfl
    rcases k0 with k0 | k0
    · rw [if_pos k0]
    · rw [if_neg k0.1, if_neg k0.2.2]
theorem SP6_ok {N : Nat} : SP6 N Rel := by
  intro c FL M ML h a1 a2
  have h1 := Rel_0 (v := fun _ => nI 0) h
  unfold fX6_waits_
  rw [nm_s]
  generalize va_up M 0 (fun _ => nI 0) = M1 at h1 ⊢
  obtain ⟨p, p1, b6, b7, s1, s14, hw⟩ := Rel_base h1
  unfold fX5_waits fX5_waits_31 fX6_waits__60
  rw [p1, s1, embP_a]
  rcases in_q (x := a1) (q := p 6 0) (by omega) with ⟨k, hk, rfl, k0, ki⟩ | ⟨ki, k0⟩
  · rcases hw with z | ⟨g, x, w1, w2, w3, w4, w5, w6⟩
    · omega
    have S := w4.2.2.2.1
    have hn := w1.n
    have x8 := w4.2.2.1
    have hx := w4.1.1
    have D := S.2.2 k hk
    have xk := hx.k hk
    have w20 := sWait_20 w1 hx hk
    rw [if_neg k0, if_nle (by omega) (by omega), ki, bnd_s, if_n0 (by omega) (by omega), w3, s_wait w1 hx (by omega) hk, bnd_s, m_wait w1 hk D, bnd_s]
    rcases in_q (x := a2) (q := sWait x k) (by omega) with ⟨i, hi, rfl, i0, ii⟩ | ⟨ii, i0⟩
    · rw [if_neg i0, if_lt hi (by omega), ii, bnd_s, if_n0 (by omega) (by omega), gdi_nI (by omega) (by omega), nI_clamp (by omega), embL_a (by omega), nI_add, s_kindOf w1 hx (by omega), bnd_s, pk_mul, pk_mul, nI_add, nI_add, nI_add, gdi_nI (by omega) (by omega), nI_clamp (by omega), (D.2.2.2.2 i hi).1]
      exact ⟨_, _, rfl, rfl, rfl, h1⟩
    · rw [ii, bnd_s, if_e0 rfl]
      rcases i0 with i0 | i0
      · rw [if_pos i0]; exact ⟨_, _, rfl, rfl, rfl, h1⟩
      · rw [if_neg i0.1, if_neg i0.2.2]; exact ⟨_, _, rfl, rfl, rfl, h1⟩
  · rw [ki, bnd_s, if_e0 rfl]
    rcases k0 with k0 | k0
    · rw [if_pos k0]; exact ⟨_, _, rfl, rfl, rfl, h1⟩
    · rw [if_neg k0.1, if_pos k0.2.1]; exact ⟨_, _, rfl, rfl, rfl, h1⟩
theorem SP7_ok {N : Nat} : SP7 N Rel := by
  intro c FL M ML h a1 a2
  have h1 := Rel_0 (v := fun _ => nI 0) h
  unfold fX6_loop
  rw [nm_s]
  generalize va_up M 0 (fun _ => nI 0) = M1 at h1 ⊢
  obtain ⟨p, p1, b6, b7, s1, s14, hw⟩ := Rel_base h1
  unfold fX5_loop fX6_loop_38
  rw [p1]
  rcases both_lp (ML := ML) (X := c 0) (x := a1) b7 s14 with ⟨l, hl, rfl, e1, e2⟩ | ⟨e1, e2⟩
  · rcases hw with z | ⟨g, x, w1, w2, w3, w4, w5, w6⟩
    · omega
    have S := w4.2.2.2.1
    have x8 := w4.2.2.1
    have hx := w4.1.1
    have Sl := S.1.2.2.1 l hl
    have Dl := S.2.1.2 l hl
    rw [e1, e2, bnd_s, bnd_s, if_n0 (by omega) (by omega), if_n0 (by omega) (by omega), w3]
    rcases in_ab a2 (a := 0) (b := 3) (by omega) (by omega) with ⟨j, _, j9, rfl, _, _, _, ji⟩ | ⟨ji, j0⟩
    · rw [ji, bnd_s, if_n0 (by omega) (by omega), pk_mul, nI_add, nI_add]
      rcases (show j = 0 ∨ j = 1 ∨ j = 2 ∨ j = 3 from by omega) with rfl | rfl | rfl | rfl
      · rw [if_eq rfl, gdi_nI (by omega) (by omega), nI_clamp (by omega), embP_a, gdi_nI (by omega) (by omega), nI_clamp (by omega), Nat.add_zero, Sl.1]
        exact ⟨_, _, rfl, rfl, rfl, h1⟩
      · rw [if_neq (by omega) (by omega) (by omega), if_eq rfl, gdi_nI (by omega) (by omega), nI_clamp (by omega), embP_a, gdi_nI (by omega) (by omega), nI_clamp (by omega), Sl.2.1]
        exact ⟨_, _, rfl, rfl, rfl, h1⟩
      · rw [if_neq (by omega) (by omega) (by omega), if_neq (by omega) (by omega) (by omega), if_eq rfl, gdi_nI (by omega) (by omega), nI_clamp (by omega), embL_a (by omega), gdi_nI (by omega) (by omega), nI_clamp (by omega), Sl.2.2]
        exact ⟨_, _, rfl, rfl, rfl, h1⟩
      · rw [if_neq (by omega) (by omega) (by omega), if_neq (by omega) (by omega) (by omega), if_neq (by omega) (by omega) (by omega), if_eq rfl, s_free w1 hx (by omega) hl, bnd_s, gdi_nI (by omega) (by omega), nI_clamp (by omega), Dl]
        exact ⟨_, _, rfl, rfl, rfl, h1⟩
    · have hne : ∀ j, j < 4 → ¬ a2 = nI j := by
        intro j hj z
        subst z
        rcases j0 with j0 | j0
        · exact nI_pos (by omega) j0
        · exact j0.2.2 (nI_le (by omega) (by omega))
      rw [ji, bnd_s, if_e0 rfl, if_neg (hne 0 (by omega)), if_neg (hne 1 (by omega)), if_neg (hne 2 (by omega)), if_neg (hne 3 (by omega))]
      exact ⟨_, _, rfl, rfl, rfl, h1⟩
  · rw [e1, e2, bnd_s, bnd_s, if_e0 rfl, if_e0 rfl]
    exact ⟨_, _, rfl, rfl, rfl, h1⟩
theorem SP8_ok {N : Nat} (hN : 100 < N) : SP8 N Rel := by
  intro c FL M ML h a1
  have h1 := Rel_0 (v := fun _ => nI 0) h
  unfold fX6_next
  rw [nm_s]
  generalize va_up M 0 (fun _ => nI 0) = M1 at h1 ⊢
  obtain ⟨p, p1, b6, b7, s1, s14, hw⟩ := Rel_base h1
  unfold fX5_next fX5_next_18 fX6_next_42
  rw [p1]
  rcases hw with z | ⟨g, x, w1, w2, w3, w4, w5, w6⟩
  · rw [empty_T z.1, there_F z.2.2, bnd_s, bnd_s, if_n0 (by omega) (by omega), if_e0 rfl]
    exact ⟨_, _, rfl, rfl, rfl, h1⟩
  · have S := w4.2.2.2.1
    have x8 := w4.2.2.1
    have hx := w4.1.1
    have xk := hx.k (k := 0) (by have := w1.n; omega)
    rw [empty_F w1, there_T S.1.1.1, bnd_s, bnd_s, if_e0 rfl, if_n0 (by omega) (by omega), w3]
    rcases in_ab a1 (a := 0) (b := 999) (by omega) (by omega) with ⟨j, _, j9, rfl, q1, q2, _, ji⟩ | ⟨ji, j0⟩
    · rw [if_neg (show ¬ nI j < 0 from q1), if_pos q2, ji, bnd_s, if_n0 (by omega) (by omega), embL_a (by omega), nI_add, s_kindOf w1 hx (by omega), bnd_s, S.2.1.1.2.2.1, nI_add, m_kind w2 S.1 hx.f (by omega) (by omega), bnd_s]
      exact ⟨_, _, rfl, rfl, rfl, h1⟩
    · rw [ji, bnd_s, if_e0 rfl]
      rcases j0 with j0 | j0
      · rw [if_pos (show a1 < 0 from j0)]; exact ⟨_, _, rfl, rfl, rfl, h1⟩
      · rw [if_neg (show ¬ a1 < 0 from j0.1), if_neg j0.2.2]; exact ⟨_, _, rfl, rfl, rfl, h1⟩
