/-! when -/
theorem preG {p : Nx} (hp : PI p) : ∀ {n : Nat} {y : Nx}, LZ p y → y 8 0 + 12120 * n < 2 ^ 29 → LZ p (pre p y n) ∧ pre p y n 2 (p 6 0 - 1) = y 2 (p 6 0 - 1) + n ∧ pre p y n 8 0 ≤ y 8 0 + 12120 * n
  | 0, y, h, _ => ⟨h, rfl, Nat.le_refl _⟩
  | n + 1, y, h, hT => by
    have i := preG hp (n := n) h (by omega)
    have s := sLeap_ok hp i.1 (by omega)
    refine ⟨s.1, ?_, ?_⟩
    · show sLeap p (pre p y n) 2 (p 6 0 - 1) = _
      omega
    · show sLeap p (pre p y n) 8 0 ≤ _
      omega
theorem pre_front {p y : Nx} : ∀ {n : Nat}, pre p (sLeap p y) n = pre p y (n + 1)
  | 0 => rfl
  | n + 1 => by
    show sLeap p (pre p (sLeap p y) n) = sLeap p (pre p y (n + 1))
    rw [pre_front]
theorem c_when {p : Nx} (hp : PI p) {X Lc : Rc} {N n : Nat} {w : Int32} (hN : 200 < N) (hn : n ≤ 200) : ∀ {i k u : Nat} {y : Nx}, i < u → k + i = n → LZ p y → y 8 0 + 12120 * i < 2 ^ 28 → itn (fX5_when_43b N) (fun _ _ _ _ _ _ _ => none) u X (embP p) Lc (embL y) (nI n) w (nI k) = if w = 0 then some (embL (pre p y i) 8 0, embL (pre p y i)) else some (embL (pre p y i) 9 0, embL (pre p y i))
  | _, _, 0, _, h, _, _, _ => by omega
  | 0, k, u + 1, y, _, e, hy, _ => by
    rw [itn_s]
    unfold fX5_when_43b
    rw [if_le (by omega) (by omega)]
    rfl
  | i + 1, k, u + 1, y, hu, e, hy, hT => by
    have s := sLeap_ok hp hy (by omega)
    have lp := s_leap (N := N) hp hN hy (by omega)
    have r := c_when hp (X := X) (Lc := Lc) (w := w) hN hn (i := i) (k := k + 1) (u := u) (y := sLeap p y) (by omega) (by omega) s.1 (by omega)
    rw [itn_s]
    generalize itn (fX5_when_43b N) (fun _ _ _ _ _ _ _ => none) u = K at r ⊢
    unfold fX5_when_43b
    rw [if_nle (by omega) (by omega), lp, bnd_s, nI_add, nm_s, r, pre_front]
theorem wn_one {p g : Nx} {n o T N : Nat} {w : Int32} (hp : PI p) (hg : GI p g) (hN : 100 < N) (hon : o + n < 2 ^ 30) (hT : T < o + n) {ML : RcL} : ∀ {d u : Nat} {y : Nx} {M : Rc}, LZ p y → RelS p g y (M 13) → M 11 49 = nI o → (y 2 (p 6 0 - 1) = T → sumD y T (p 6 0 - 1) < d) → (y 2 (p 6 0 - 1) = T ∨ y 2 (p 6 0 - 1) = T + 1) → y 8 0 + 120 * d < 2 ^ 29 → d ≤ u → ∃ M' u', u ≤ u' + d ∧ (∀ a, a ≠ 13 → M' a = M a) ∧ RelS p g (leapN p T d y) (M' 13) ∧ itn (fX6_when_47b N) (fun _ _ _ _ => none) u M ML (nI n) w = itn (fX6_when_47b N) (fun _ _ _ _ => none) u' M' ML (nI n) w
  | d, u, y, M, hy, hr, h49, h1, h2, h3, hu => by
    have s49 := hr.2.1.1.2.1
    by_cases c : y 2 (p 6 0 - 1) = T
    · obtain ⟨e, rfl⟩ : ∃ e, d = e + 1 := ⟨d - 1, by have := h1 c; omega⟩
      obtain ⟨v, rfl⟩ : ∃ v, u = v + 1 := ⟨u - 1, by omega⟩
      obtain ⟨S, t1, t2⟩ := m_step hp hg hN hy (by omega) hr
      have so := step_out hp c
      have z := LZ_step hp hy (by omega)
      have b := sNext_b hp hy (by omega)
      obtain ⟨M', u', r0, r1, r2, r3⟩ := wn_one (w := w) hp hg hN hon hT (ML := ML) (d := e) (u := v) (y := sStep p y) (M := va_up M 13 S) z (by rw [va_up_self]; exact t2) (by rw [va_up_ne _ _ (by omega)]; exact h49) (fun q => by have := sumD_step hp hy (by omega) c q; have := h1 c; omega) so (by rw [step_8]; omega) (by omega)
      refine ⟨M', u', by omega, fun a ha => by rw [r1 a ha, va_up_ne _ _ ha], by rw [leapN_go c]; exact r2, ?_⟩
      rw [itn_s, ← r3]
      generalize itn (fX6_when_47b N) (fun _ _ _ _ => none) v = K2
      unfold fX6_when_47b
      rw [s49, h49, nI_add, if_nle (by omega) (by omega), t1, bnd_s, nm_s]
    · exact ⟨M, u, by omega, fun _ _ => rfl, by rw [leapN_stop c]; exact hr, rfl⟩
theorem wn_k2 {a i : Nat} (h : a + 13000 * (i + 1) < 2 ^ 28) : a + 120 * 102 < 2 ^ 29 := by
  have h2 : 13000 ≤ 13000 * (i + 1) := Nat.le_mul_of_pos_right _ (Nat.succ_pos i)
  have h3 : 120 * 102 = 12240 := rfl
  rw [h3]
  generalize 13000 * (i + 1) = v at h h2
  omega
theorem wn_all {p g : Nx} {n o N : Nat} {w : Int32} (hp : PI p) (hg : GI p g) (hN : 100 < N) (hon : o + n < 2 ^ 30) {ML : RcL} : ∀ {i u : Nat} {y : Nx} {M : Rc}, LZ p y → RelS p g y (M 13) → M 11 49 = nI o → y 2 (p 6 0 - 1) + i = o + n → y 8 0 + 13000 * i < 2 ^ 28 → 102 * i < u → ∃ M', (∀ a, a ≠ 13 → M' a = M a) ∧ RelS p g (pre p y i) (M' 13) ∧ itn (fX6_when_47b N) (fun _ _ _ _ => none) u M ML (nI n) w = if w = 0 then some (M' 13 48, M') else some (M' 13 51, M')
  | 0, u, y, M, hy, hr, h49, e, _, hu => by
    obtain ⟨v, rfl⟩ : ∃ v, u = v + 1 := ⟨u - 1, by omega⟩
    refine ⟨M, fun _ _ => rfl, hr, ?_⟩
    rw [itn_s]
    unfold fX6_when_47b
    rw [h49, hr.2.1.1.2.1, nI_add, if_le (by omega) (by omega)]
  | i + 1, u, y, M, hy, hr, h49, e, hT, hu => by
    have k1 : sumD y (y 2 (p 6 0 - 1)) (p 6 0 - 1) < 102 := by have := sumD_100 hp hy; omega
    have k2 : y 8 0 + 120 * 102 < 2 ^ 29 := wn_k2 hT
    have k3 : 102 ≤ u := by omega
    have k4 : y 2 (p 6 0 - 1) < o + n := by omega
    have s := sLeap_ok hp hy (by omega)
    obtain ⟨M1, u1, a0, a1, a2, a3⟩ := wn_one (w := w) hp hg hN hon (T := y 2 (p 6 0 - 1)) k4 (ML := ML) (d := 102) (u := u) (y := y) (M := M) hy hr h49 (fun _ => k1) (Or.inl (Eq.refl (y 2 (p 6 0 - 1)))) k2 k3
    obtain ⟨M2, b1, b2, b3⟩ := wn_all (w := w) hp hg hN hon (ML := ML) (i := i) (u := u1) (y := sLeap p y) (M := M1) s.1 a2 (by rw [a1 11 (by omega)]; exact h49) (by omega) (by omega) (by omega)
    refine ⟨M2, fun a ha => (b1 a ha).trans (a1 a ha), by rw [← pre_front]; exact b2, ?_⟩
    rw [a3, b3]
theorem SP9_ok {N : Nat} (hN : 100000 < N) : SP9 N Rel := by
  intro c FL M ML h a1 a2
  have h1 := Rel_0 (v := fun _ => nI 0) h
  unfold fX6_when
  rw [nm_s]
  generalize va_up M 0 (fun _ => nI 0) = M1 at h1 ⊢
  obtain ⟨p, p1, b6, b7, s1, s14, hw⟩ := Rel_base h1
  obtain ⟨j, hj⟩ := embL_all (c 2)
  have same : Rel (va_up c 2 (c 2)) FL M1 ML := Rel_mv (fun a q1 _ => by rw [va_up_ne _ _ q1]) (fun _ _ => rfl) h1
  unfold fX5_when fX5_when_28 fX6_when_32
  rw [p1]
  rcases hw with z | ⟨g, x, w1, w2, w3, w4, w5, w6⟩
  · rw [empty_T z.1, there_F z.2.2, bnd_s, bnd_s, if_n0 (by omega) (by omega), if_e0 rfl]
    exact ⟨_, _, rfl, rfl, rfl, same⟩
  · have S := w4.2.2.2.1
    have x8 := w4.2.2.1
    have hx := w4.1.1
    rw [empty_F w1, there_T S.1.1.1, bnd_s, bnd_s, if_e0 rfl, if_n0 (by omega) (by omega), w3]
    rcases in_ab a1 (a := 1) (b := 200) (by omega) (by omega) with ⟨n, n1, n2, rfl, q1, q2, q3, ni⟩ | ⟨ni, n0⟩
    · rw [if_neg q1, if_neg q3, ni, bnd_s, if_n0 (by omega) (by omega)]
      rcases in_ab a2 (a := 0) (b := 1) (by omega) (by omega) with ⟨v, _, v2, rfl, r1, r2, _, vi⟩ | ⟨vi, v0⟩
      · have ag := cpy_agr j x
        have ly := LZ_agr w1 ag w4.1
        have ry := RelS_agr w1 ag S
        have y8 : sCpy j x 8 0 = x 8 0 := ag.g1 (by omega)
        have y2 : sCpy j x 2 (p 6 0 - 1) = x 2 (p 6 0 - 1) := ag.g6 (by omega) (by have := w1.n; omega)
        have xo := hx.k (k := p 6 0 - 1) (by have := w1.n; omega)
        have cw := c_when w1 (X := c 0) (Lc := embL x) (w := nI v) (N := N) (by omega) n2 (i := n) (k := 0) (u := N) (y := sCpy j x) (by omega) (by omega) ly (by omega)
        have cp := m_copy (nU := 353) (nV := 353) (N := N) (a := 0) (b := 0) (by omega) (by omega) (by omega) (by omega) (by omega) (U := M1 11) (V := M1 13)
        generalize hV : (fun j => if 0 ≤ j ∧ j < 0 + 353 then M1 11 (0 + (j - 0)) else M1 13 j) = V at cp
        have rv : RelS p g (sCpy j x) V := RelS_eq w1 w2 ly.1 (fun i hi => by rw [← hV]; show (if 0 ≤ i ∧ i < 0 + 353 then M1 11 (0 + (i - 0)) else M1 13 i) = _; rw [if_pos (by omega)]; congr 1; omega) ry
        obtain ⟨M2, m1, m2, m3⟩ := wn_all (w := nI v) w1 w2 (N := N) (by omega) (n := n) (o := x 2 (p 6 0 - 1)) (by omega) (ML := ML) (i := n) (u := N) (y := sCpy j x) (M := va_up M1 13 V) ly (by rw [va_up_self]; exact rv) (by rw [va_up_ne _ _ (by omega)]; exact S.2.1.1.2.1) (by omega) (by omega) (by omega)
        rw [if_neg (show ¬ nI v < 0 from r1), if_pos r2, vi, bnd_s, if_n0 (by omega) (by omega), hj, s_copy, bnd_s, nm_s, show (nI 0 : Int32) = nI 0 from rfl, cp, bnd_s, nm_s]
        unfold fX5_when_43 fX6_when_47
        rw [cw, m3]
        have fin : Rel (va_up c 2 (embL (pre p (sCpy j x) n))) FL M2 ML := Rel_mv (fun a q1 _ => by rw [va_up_ne _ _ q1]) (fun a ha => by rw [m1 a (by omega), va_up_ne _ _ (by omega)]) h1
        by_cases e : v = 0
        · rw [if_e0 e, if_e0 e, embL_a (by omega), m2.2.1.1.1]
          exact ⟨_, _, rfl, rfl, rfl, fin⟩
        · rw [if_n0 e (by omega), if_n0 e (by omega), embL_9, m2.2.1.1.2.2.2.1]
          exact ⟨_, _, rfl, rfl, rfl, fin⟩
      · rw [vi, bnd_s, if_e0 rfl]
        rcases v0 with v0 | v0
        · rw [if_pos (show a2 < 0 from v0)]; exact ⟨_, _, rfl, rfl, rfl, same⟩
        · rw [if_neg (show ¬ a2 < 0 from v0.1), if_neg v0.2.2]; exact ⟨_, _, rfl, rfl, rfl, same⟩
    · rw [ni, bnd_s, if_e0 rfl]
      rcases n0 with n0 | n0
      · rw [if_pos n0]; exact ⟨_, _, rfl, rfl, rfl, same⟩
      · rw [if_neg n0.1, if_pos n0.2.1]; exact ⟨_, _, rfl, rfl, rfl, same⟩
