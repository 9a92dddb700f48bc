/-! history -/
def HRk (p g : Nx) (Y : Rc) (K : Nat → Rc) (S : Nat → Int32) (m : Int32) : Prop := ∃ n d, n ≤ 8 ∧ d < 8 ∧ Y 1 0 = nI n ∧ Y 2 0 = nI d ∧ m = nI n ∧ ∀ i, i < n → ∃ y, K ((d + 7 - i) % 8) = embL y ∧ Lst p g y (fun j => S (353 * (n - 1 - i) + j))
theorem HR_k {p g : Nx} {c : Nat → Rc} {M : Rc} (h : HR p g c M) : HRk p g (c 7) (fun i => c (8 + i)) (M 14) (M 15 0) := h
theorem HRk_congr {p g : Nx} {Y : Rc} {K K' : Nat → Rc} {S : Nat → Int32} {m : Int32} (hK : ∀ i, i < 8 → K' i = K i) (h : HRk p g Y K S m) : HRk p g Y K' S m := by
  obtain ⟨n, d, h1, h2, h3, h4, h5, h6⟩ := h
  refine ⟨n, d, h1, h2, h3, h4, h5, fun i hi => ?_⟩
  rw [hK _ (by omega)]
  exact h6 i hi
theorem c_keep {x : Nx} {Y : Rc} {c : Nat → Rc} {n d : Nat} (hn : n ≤ 8) (hd : d < 8) (h1 : Y 1 0 = nI n) (h2 : Y 2 0 = nI d) : ∃ (Y' : Rc) (K' : Nat → Rc) (y : Nx), fX0_keep (embL x) Y (c 8) (c 9) (c 10) (c 11) (c 12) (c 13) (c 14) (c 15) = some (Y', K' 0, K' 1, K' 2, K' 3, K' 4, K' 5, K' 6, K' 7) ∧ Y' 1 0 = nI (min (n + 1) 8) ∧ Y' 2 0 = nI ((d + 1) % 8) ∧ (∀ i, i < 8 → i ≠ d → K' i = c (8 + i)) ∧ K' d = embL y ∧ Agr x y ∧ ∀ i, i < 24 → y 6 i = x 6 i := by
  have e2 : (nI d + nI 1) - (nI d + nI 1) / nI 8 * nI 8 = nI ((d + 1) % 8) := by
    rw [nI_add, nI_div (by omega) (by omega) (by omega), pk_mul, nI_subdiv]
  have e1 : (if nI 8 < nI n + nI 1 then nI 8 else nI n + nI 1) = nI (min (n + 1) 8) := by
    rw [nI_add]
    by_cases c : 8 < n + 1
    · rw [if_lt c (by omega), show min (n + 1) 8 = 8 from by omega]
    · rw [if_nlt (by omega) (by omega), show min (n + 1) 8 = n + 1 from by omega]
  have y21 : va_up Y 2 (fun _ => nI ((d + 1) % 8)) 1 0 = nI n := by rw [va_up_ne _ _ (by omega)]; exact h1
  have f1 : va_up (va_up Y 2 (fun _ => nI ((d + 1) % 8))) 1 (fun _ => nI (min (n + 1) 8)) 1 0 = nI (min (n + 1) 8) := by rw [va_up_self]
  have f2 : va_up (va_up Y 2 (fun _ => nI ((d + 1) % 8))) 1 (fun _ => nI (min (n + 1) 8)) 2 0 = nI ((d + 1) % 8) := by rw [va_up_ne _ _ (by omega), va_up_self]
  unfold fX0_keep
  rw [h2, e2]
  rcases (show d = 0 ∨ d = 1 ∨ d = 2 ∨ d = 3 ∨ d = 4 ∨ d = 5 ∨ d = 6 ∨ d = 7 from by omega) with rfl | rfl | rfl | rfl | rfl | rfl | rfl | rfl
  · obtain ⟨y, hy⟩ := embL_all (c 8)
    rw [if_eq rfl, hy, s_copy, bnd_s, nm_s, y21, e1, nm_s]
    refine ⟨_, fun i => if i = 0 then embL (sCpy y x) else c (8 + i), sCpy y x, rfl, f1, f2, fun i _ hi => if_neg hi, rfl, cpy_agr y x, fun i hi => cpy_6 hi⟩
  · obtain ⟨y, hy⟩ := embL_all (c 9)
    rw [if_neq (by omega) (by omega) (by omega), if_eq rfl, hy, s_copy, bnd_s, nm_s, y21, e1, nm_s]
    refine ⟨_, fun i => if i = 1 then embL (sCpy y x) else c (8 + i), sCpy y x, rfl, f1, f2, fun i _ hi => if_neg hi, rfl, cpy_agr y x, fun i hi => cpy_6 hi⟩
  · obtain ⟨y, hy⟩ := embL_all (c 10)
    rw [if_neq (by omega) (by omega) (by omega), if_neq (by omega) (by omega) (by omega), if_eq rfl, hy, s_copy, bnd_s, nm_s, y21, e1, nm_s]
    refine ⟨_, fun i => if i = 2 then embL (sCpy y x) else c (8 + i), sCpy y x, rfl, f1, f2, fun i _ hi => if_neg hi, rfl, cpy_agr y x, fun i hi => cpy_6 hi⟩
  · obtain ⟨y, hy⟩ := embL_all (c 11)
    rw [if_neq (by omega) (by omega) (by omega), if_neq (by omega) (by omega) (by omega), if_neq (by omega) (by omega) (by omega), if_eq rfl, hy, s_copy, bnd_s, nm_s, y21, e1, nm_s]
    refine ⟨_, fun i => if i = 3 then embL (sCpy y x) else c (8 + i), sCpy y x, rfl, f1, f2, fun i _ hi => if_neg hi, rfl, cpy_agr y x, fun i hi => cpy_6 hi⟩
  · obtain ⟨y, hy⟩ := embL_all (c 12)
    rw [if_neq (by omega) (by omega) (by omega), if_neq (by omega) (by omega) (by omega), if_neq (by omega) (by omega) (by omega), if_neq (by omega) (by omega) (by omega), if_eq rfl, hy, s_copy, bnd_s, nm_s, y21, e1, nm_s]
    refine ⟨_, fun i => if i = 4 then embL (sCpy y x) else c (8 + i), sCpy y x, rfl, f1, f2, fun i _ hi => if_neg hi, rfl, cpy_agr y x, fun i hi => cpy_6 hi⟩
  · obtain ⟨y, hy⟩ := embL_all (c 13)
    rw [if_neq (by omega) (by omega) (by omega), if_neq (by omega) (by omega) (by omega), if_neq (by omega) (by omega) (by omega), if_neq (by omega) (by omega) (by omega), if_neq (by omega) (by omega) (by omega), if_eq rfl, hy, s_copy, bnd_s, nm_s, y21, e1, nm_s]
    refine ⟨_, fun i => if i = 5 then embL (sCpy y x) else c (8 + i), sCpy y x, rfl, f1, f2, fun i _ hi => if_neg hi, rfl, cpy_agr y x, fun i hi => cpy_6 hi⟩
  · obtain ⟨y, hy⟩ := embL_all (c 14)
    rw [if_neq (by omega) (by omega) (by omega), if_neq (by omega) (by omega) (by omega), if_neq (by omega) (by omega) (by omega), if_neq (by omega) (by omega) (by omega), if_neq (by omega) (by omega) (by omega), if_neq (by omega) (by omega) (by omega), if_eq rfl, hy, s_copy, bnd_s, nm_s, y21, e1, nm_s]
    refine ⟨_, fun i => if i = 6 then embL (sCpy y x) else c (8 + i), sCpy y x, rfl, f1, f2, fun i _ hi => if_neg hi, rfl, cpy_agr y x, fun i hi => cpy_6 hi⟩
  · obtain ⟨y, hy⟩ := embL_all (c 15)
    rw [if_neq (by omega) (by omega) (by omega), if_neq (by omega) (by omega) (by omega), if_neq (by omega) (by omega) (by omega), if_neq (by omega) (by omega) (by omega), if_neq (by omega) (by omega) (by omega), if_neq (by omega) (by omega) (by omega), if_neq (by omega) (by omega) (by omega), if_eq rfl, hy, s_copy, bnd_s, nm_s, y21, e1, nm_s]
    refine ⟨_, fun i => if i = 7 then embL (sCpy y x) else c (8 + i), sCpy y x, rfl, f1, f2, fun i _ hi => if_neg hi, rfl, cpy_agr y x, fun i hi => cpy_6 hi⟩
theorem m_sh {ML : RcL} {N : Nat} : ∀ {d i u : Nat} {M : Rc}, d < u → i + d = 2471 → ∃ S, itn (fX6_snap_11b N) (fun _ _ _ => none) u M ML (nI i) = fX6_snap_50 N (va_up (va_up M 14 S) 15 (fun _ => M 15 0 - nI 1)) ML ∧ (∀ j, j < i → S j = M 14 j) ∧ (∀ j, i ≤ j → j < 2471 → S j = M 14 (j + 353))
  | _, _, 0, _, h, _ => by omega
  | 0, i, u + 1, M, _, e => by
    refine ⟨M 14, ?_, fun _ _ => rfl, fun j h1 h2 => by omega⟩
    rw [itn_s]
    unfold fX6_snap_11b
    rw [if_le (by omega) (by omega), nm_s]
    congr 2
    funext a
    by_cases c : a = 14
    · rw [c, va_up_self]
    · rw [va_up_ne _ _ c]
  | d + 1, i, u + 1, M, hu, e => by
    obtain ⟨S, r1, r2, r3⟩ := m_sh (ML := ML) (N := N) (d := d) (i := i + 1) (u := u) (M := va_up M 14 (upd (M 14) i (M 14 (i + 353)))) (by omega) (by omega)
    refine ⟨S, ?_, fun j hj => ?_, fun j h1 h2 => ?_⟩
    · rw [itn_s]
      generalize itn (fX6_snap_11b N) (fun _ _ _ => none) u = K at r1 ⊢
      unfold fX6_snap_11b
      rw [if_nle (by omega) (by omega), nI_add, gdi_nI (by omega) (by omega), gdi_nI (by omega) (by omega), nI_clamp (by omega), nI_clamp (by omega), nm_s, nI_add, nm_s, r1, va_up_ne _ _ (show (15 : Nat) ≠ 14 from by omega), bx_uu]
    · rw [r2 j (by omega), va_up_self, upd_ne (by omega)]
    · by_cases c : j = i
      · rw [r2 j (by omega), va_up_self, upd_eq c, c]
      · rw [r3 j (by omega) h2, va_up_self, upd_ne (by omega)]
theorem m_s50 {M : Rc} {ML : RcL} {N n : Nat} (hN : 400 < N) (hn : n < 8) (h : M 15 0 = nI n) : ∃ M', fX6_snap_50 N M ML = some M' ∧ M' 15 0 = nI (n + 1) ∧ (∀ j, j < 353 → M' 14 (353 * n + j) = M 11 j) ∧ (∀ j, j < 353 * n → M' 14 j = M 14 j) ∧ ∀ a, a ≠ 14 → a ≠ 15 → M' a = M a := by
  have cp := m_copy (nU := 353) (nV := 2824) (N := N) (a := 0) (b := 353 * n) hN (by omega) (by omega) (by omega) (by omega) (U := M 11) (V := M 14)
  unfold fX6_snap_50
  rw [h, pk_mul, cp, bnd_s, nm_s, va_up_ne _ _ (show (15 : Nat) ≠ 14 from by omega), h, nI_add, nm_s]
  refine ⟨_, rfl, ?_, fun j hj => ?_, fun j hj => ?_, fun a h1 h2 => ?_⟩
  · rw [va_up_self]
  · rw [va_up_ne _ _ (by omega), va_up_self, if_pos (by omega), show 0 + (353 * n + j - 353 * n) = j from by omega]
  · rw [va_up_ne _ _ (by omega), va_up_self, if_neg (by omega)]
  · rw [va_up_ne _ _ h2, va_up_ne _ _ h1]
theorem m_snap {M : Rc} {ML : RcL} {N n : Nat} (hN : 3000 < N) (hn : n ≤ 8) (h : M 15 0 = nI n) : ∃ M', fX6_snap N M ML = some M' ∧ M' 15 0 = nI (min (n + 1) 8) ∧ (∀ j, j < 353 → M' 14 (353 * (min (n + 1) 8 - 1) + j) = M 11 j) ∧ (∀ k j, k + 1 < min (n + 1) 8 → j < 353 → M' 14 (353 * k + j) = M 14 (353 * (k + n + 1 - min (n + 1) 8) + j)) ∧ ∀ a, a ≠ 14 → a ≠ 15 → M' a = M a := by
  unfold fX6_snap
  rw [h]
  by_cases c : n = 8
  · subst c
    obtain ⟨S, r1, r2, r3⟩ := m_sh (ML := ML) (N := N) (d := 2471) (i := 0) (u := N) (M := M) (by omega) (by omega)
    rw [h, nI_sub' (by omega)] at r1
    obtain ⟨M', a1, a2, a3, a4, a5⟩ := m_s50 (M := va_up (va_up M 14 S) 15 (fun _ => nI (8 - 1))) (ML := ML) (N := N) (n := 7) (by omega) (by omega) (by rw [va_up_self])
    rw [if_eq rfl, nm_s]
    unfold fX6_snap_11
    refine ⟨M', by rw [r1, a1], a2, fun j hj => ?_, fun k j hk hj => ?_, fun a h1 h2 => ?_⟩
    · have := a3 j hj
      rw [va_up_ne _ _ (by omega), va_up_ne _ _ (by omega)] at this
      exact this
    · have hk : k + 1 < 8 := hk
      rw [a4 _ (by omega), va_up_ne _ _ (by omega), va_up_self, r3 _ (by omega) (by omega)]
      congr 1
      show _ = 353 * (k + 8 + 1 - 8) + j
      omega
    · rw [a5 a h1 h2, va_up_ne _ _ h2, va_up_ne _ _ h1]
  · obtain ⟨M', a1, a2, a3, a4, a5⟩ := m_s50 (M := M) (ML := ML) (N := N) (n := n) (by omega) (by omega) h
    have e : min (n + 1) 8 = n + 1 := by omega
    rw [if_neq c (by omega) (by omega), e]
    refine ⟨M', a1, a2, fun j hj => ?_, fun k j hk hj => ?_, a5⟩
    · rw [show n + 1 - 1 = n from rfl]; exact a3 j hj
    · rw [a4 _ (by omega), show k + n + 1 - (n + 1) = k from by omega]
theorem keep_snap {p g x : Nx} {c : Nat → Rc} {M : Rc} {ML : RcL} {N : Nat} (hN : 3000 < N) (w : Wk p g x c M) : ∃ (Y' : Rc) (K' : Nat → Rc) (M' : Rc), fX0_keep (embL x) (c 7) (c 8) (c 9) (c 10) (c 11) (c 12) (c 13) (c 14) (c 15) = some (Y', K' 0, K' 1, K' 2, K' 3, K' 4, K' 5, K' 6, K' 7) ∧ fX6_snap N M ML = some M' ∧ HRk p g Y' K' (M' 14) (M' 15 0) ∧ ∀ a, a ≠ 14 → a ≠ 15 → M' a = M a := by
  obtain ⟨w1, w2, w3, w4, ⟨n, d, r1, r2, r3, r4, r5, r6⟩, w6⟩ := w
  obtain ⟨Y', K', y, k1, k2, k3, k4, k5, k6, k7⟩ := c_keep (x := x) (c := c) r1 r2 r3 r4
  obtain ⟨M', m1, m2, m3, m4, m5⟩ := m_snap (ML := ML) hN r1 r5
  refine ⟨Y', K', M', k1, m1, ⟨min (n + 1) 8, (d + 1) % 8, by omega, by omega, k2, k3, m2, fun i hi => ?_⟩, m5⟩
  by_cases c0 : i = 0
  · subst c0
    refine ⟨y, by rw [show ((d + 1) % 8 + 7 - 0) % 8 = d from by omega]; exact k5, ?_⟩
    refine Lst_eq (S := M 11) w1 w2 (fun j hj => ?_) (Lst_agr w1 k6 k7 w4)
    show M' 14 (353 * (min (n + 1) 8 - 1 - 0) + j) = _
    rw [Nat.sub_zero]
    exact m3 j hj
  · obtain ⟨y', y1, y2⟩ := r6 (i - 1) (by omega)
    refine ⟨y', ?_, ?_⟩
    · rw [show ((d + 1) % 8 + 7 - i) % 8 = (d + 7 - (i - 1)) % 8 from by omega, k4 _ (by omega) (by omega)]
      exact y1
    · refine Lst_eq w1 w2 (fun j hj => ?_) y2
      show M' 14 (353 * (min (n + 1) 8 - 1 - i) + j) = M 14 (353 * (n - 1 - (i - 1)) + j)
      rw [m4 _ j (by omega) hj]
      congr 2
      omega
/-- after an act -/
theorem Rel_act {c c' : Nat → Rc} {FL : RcL} {M M' : Rc} {ML : RcL} {p g x' : Nx} (h : Rel c FL M ML) (hp : c 1 = embP p) (w1 : PI p) (w2 : GI p g) (hc : ∀ a, a = 1 ∨ a = 3 ∨ a = 4 ∨ a = 16 → c' a = c a) (h01 : c' 0 1 0 = c 0 1 0) (hL : c' 5 = embL x') (hS : Lst p g x' (M' 11)) (hH : HRk p g (c' 7) (fun i => c' (8 + i)) (M' 14) (M' 15 0)) (hk : KN p (x' 4) (c' 0)) (hM : ∀ a, a = 1 ∨ a = 2 ∨ a = 8 → M' a = M a) : Rel c' FL M' ML := by
  obtain ⟨⟨t, L, t1, t2, t3, t4, t5⟩, h3, ⟨q, q1, q2⟩, _⟩ := h
  refine ⟨⟨t, L, t1, ?_, ?_, ?_, ?_⟩, ?_, ⟨q, ?_, q2⟩, p, ?_, w1.kd, Or.inr ⟨g, x', w1, w2, hL, hS, hH, hk⟩⟩
  · rw [h01]; exact t2
  · rw [hM 2 (by omega)]; exact t3
  · rw [hc 16 (by omega)]; exact t4
  · rw [hM 1 (by omega)]; exact t5
  · rw [hc 3 (by omega), hM 8 (by omega)]; exact h3
  · rw [hc 4 (by omega)]; exact q1
  · rw [hc 1 (by omega)]; exact hp
