/-! feed -/
theorem pb_c {X : Rc} {T : Nat → Int32} {t : Nat → Nat} {N L s : Nat} {w : Int32} {K : Rc → (Nat → Int32) → Int32 → Int32 → Option (Rc × (Nat → Int32))} (hL : L < 440) (hs : s < 2 ^ 31) (h1 : X 1 0 = nI L) : fX5_putBytes_3b N K X T w (nI s) = K (va_up X 1 (fun _ => nI (L + 1))) (upd T L (((w.toUInt32 >>> ((nI s).toUInt32 &&& Int32.toUInt32 31)).toInt32) &&& (nI 255))) w (nI s + (-8 : Int32)) := by
  unfold fX5_putBytes_3b
  rw [if_l0 hs, h1, if_nle (by omega) (by omega), gdi_nI hL (by omega), nI_clamp (by omega), nm_s, nI_add, nm_s, nm_s]
theorem pb_m {M : Rc} {ML : RcL} {N L s : Nat} {w : Int32} {K : Rc → RcL → Int32 → Int32 → Option Rc} (hL : L < 440) (hs : s < 2 ^ 31) (h1 : M 2 0 = nI L) : fX6_lays_3b N K M ML w (nI s) = K (va_up (va_up M 1 (upd (M 1) L (((w.toUInt32 >>> ((nI s).toUInt32 &&& Int32.toUInt32 31)).toInt32) &&& (nI 255)))) 2 (fun _ => nI (L + 1))) ML w (nI s + (-8 : Int32)) := by
  unfold fX6_lays_3b
  rw [if_l0 hs, h1, gdi_nI hL (by omega), nI_clamp (by omega), nm_s, va_up_ne _ _ (show (2 : Nat) ≠ 1 from by omega), h1, nI_add, nm_s, nm_s]
def byt (w : Int32) (s : Nat) : Nat := (((w.toUInt32 >>> ((nI s).toUInt32 &&& Int32.toUInt32 31)).toInt32).toBitVec.toNat) % 256
theorem byt_ok (w : Int32) (s : Nat) : (((w.toUInt32 >>> ((nI s).toUInt32 &&& Int32.toUInt32 31)).toInt32) &&& (nI 255)) = nI (byt w s) := pk_and _ 8 (by decide)
theorem byt_lt (w : Int32) (s : Nat) : byt w s < 256 := Nat.mod_lt _ (by omega)
theorem TP_up {T : Nat → Int32} {t : Nat → Nat} {L v : Nat} (h : TP T t) (hv : v < 256) : TP (upd T L (nI v)) (fun i => if i = L then v else t i) := by
  intro i hi
  show upd T L (nI v) i = nI (if i = L then v else t i) ∧ (if i = L then v else t i) < 256
  by_cases c : i = L
  · rw [upd_eq c, if_pos c]; exact ⟨rfl, hv⟩
  · rw [upd_ne c, if_neg c]; exact h i hi
/-- what stands on both tapes -/
def TT (X : Rc) (T : Nat → Int32) (M : Rc) (t : Nat → Nat) (L : Nat) : Prop := X 1 0 = nI L ∧ M 2 0 = nI L ∧ TP T t ∧ TP (M 1) t
theorem pb_loop {ML : RcL} {N : Nat} {w : Int32} : ∀ {d u v L s : Nat} {X : Rc} {T : Nat → Int32} {M : Rc} {t : Nat → Nat}, d < u → d < v → s + 8 = 8 * (d + 1) → L + d + 1 ≤ 440 → d ≤ 3 → TT X T M t L → ∃ X' T' M' t', itn (fX5_putBytes_3b N) (fun _ _ _ _ => none) (u + 1) X T w (nI s) = some (X', T') ∧ itn (fX6_lays_3b N) (fun _ _ _ _ => none) (v + 1) M ML w (nI s) = some M' ∧ TT X' T' M' t' (L + d + 1) ∧ (∀ a, a ≠ 1 → X' a = X a) ∧ ∀ a, a ≠ 1 → a ≠ 2 → M' a = M a
  | 0, u, v, L, s, X, T, M, t, hu, hv, e, hL, _, h => by
    obtain ⟨u', rfl⟩ : ∃ u', u = u' + 1 := ⟨u - 1, by omega⟩
    obtain ⟨v', rfl⟩ : ∃ v', v = v' + 1 := ⟨v - 1, by omega⟩
    have s0 : s = 0 := by omega
    subst s0
    refine ⟨va_up X 1 (fun _ => nI (L + 1)), upd T L (nI (byt w 0)), va_up (va_up M 1 (upd (M 1) L (nI (byt w 0)))) 2 (fun _ => nI (L + 1)), fun i => if i = L then byt w 0 else t i, ?_, ?_, ⟨?_, ?_, ?_, ?_⟩, fun a ha => by rw [va_up_ne _ _ ha], fun a h1 h2 => by rw [va_up_ne _ _ h2, va_up_ne _ _ h1]⟩
    · rw [itn_s, pb_c (t := t) (by omega) (by omega) h.1, byt_ok, itn_s]
      unfold fX5_putBytes_3b
      rw [if_pos (by decide)]
    · rw [itn_s, pb_m (by omega) (by omega) h.2.1, byt_ok, itn_s]
      unfold fX6_lays_3b
      rw [if_pos (by decide)]
    · rw [va_up_self]
    · rw [va_up_self]
    · exact TP_up h.2.2.1 (byt_lt w 0)
    · rw [va_up_ne _ _ (by omega), va_up_self]; exact TP_up h.2.2.2 (byt_lt w 0)
  | d + 1, u, v, L, s, X, T, M, t, hu, hv, e, hL, h3, h => by
    obtain ⟨u', rfl⟩ : ∃ u', u = u' + 1 := ⟨u - 1, by omega⟩
    obtain ⟨v', rfl⟩ : ∃ v', v = v' + 1 := ⟨v - 1, by omega⟩
    obtain ⟨X', T', M', t', r1, r2, r3, r4, r5⟩ := pb_loop (ML := ML) (N := N) (w := w) (d := d) (u := u') (v := v') (L := L + 1) (s := s - 8) (X := va_up X 1 (fun _ => nI (L + 1))) (T := upd T L (nI (byt w s))) (M := va_up (va_up M 1 (upd (M 1) L (nI (byt w s)))) 2 (fun _ => nI (L + 1))) (t := fun i => if i = L then byt w s else t i) (by omega) (by omega) (by omega) (by omega) (by omega) ⟨by rw [va_up_self], by rw [va_up_self], TP_up h.2.2.1 (byt_lt w s), by rw [va_up_ne _ _ (by omega), va_up_self]; exact TP_up h.2.2.2 (byt_lt w s)⟩
    have m8 : nI s + (-8 : Int32) = nI (s - 8) := by
      rcases (show s = 8 ∨ s = 16 ∨ s = 24 from by omega) with rfl | rfl | rfl <;> decide
    refine ⟨X', T', M', t', ?_, ?_, ?_, fun a ha => by rw [r4 a ha, va_up_ne _ _ ha], fun a h1 h2 => by rw [r5 a h1 h2, va_up_ne _ _ h2, va_up_ne _ _ h1]⟩
    · rw [itn_s, pb_c (t := t) (by omega) (by omega) h.1, byt_ok, m8]
      exact r1
    · rw [itn_s, pb_m (by omega) (by omega) h.2.1, byt_ok, m8]
      exact r2
    · rw [show L + (d + 1) + 1 = L + 1 + d + 1 from by omega]
      exact r3
theorem pb_one {ML : RcL} {N L : Nat} {w : Int32} {X : Rc} {T : Nat → Int32} {M : Rc} {t : Nat → Nat} (hN : 100 < N) (hL : L + 4 ≤ 440) (h : TT X T M t L) : ∃ X' T' M' t', fX5_putBytes N X T w = some (X', T') ∧ fX6_lays N M ML w = some M' ∧ TT X' T' M' t' (L + 4) ∧ (∀ a, a ≠ 1 → X' a = X a) ∧ ∀ a, a ≠ 1 → a ≠ 2 → M' a = M a := by
  obtain ⟨u, rfl⟩ : ∃ u, N = u + 1 := ⟨N - 1, by omega⟩
  obtain ⟨X', T', M', t', r1, r2, r3, r4, r5⟩ := pb_loop (ML := ML) (N := u + 1) (w := w) (d := 3) (u := u) (v := u) (L := L) (s := 24) (by omega) (by omega) (by omega) (by omega) (by omega) h
  refine ⟨X', T', M', t', ?_, ?_, r3, r4, r5⟩
  · unfold fX5_putBytes
    rw [nm_s]
    exact r1
  · unfold fX6_lays
    rw [nm_s]
    exact r2
theorem SP0_ok {N : Nat} (hN : 100 < N) : SP0 N Rel := by
  intro c FL M ML h a1 a2 a3 a4 a5
  have h1 := Rel_0 (v := fun _ => nI 0) h
  unfold fX6_feed
  rw [nm_s]
  generalize va_up M 0 (fun _ => nI 0) = M1 at h1 ⊢
  obtain ⟨t, L, t1, t2, t3, t4, t5⟩ := h1.1
  unfold fX5_feed
  rw [t2, t3, nI_add]
  by_cases d : L ≤ 420
  · obtain ⟨X1, T1, N1, u1, e1, f1, g1, o1, m1⟩ := pb_one (ML := ML) (w := a1) hN (by omega) (show TT (c 0) (c 16 0) M1 t L from ⟨t2, t3, t4, t5⟩)
    obtain ⟨X2, T2, N2, u2, e2, f2, g2, o2, m2⟩ := pb_one (ML := ML) (w := a2) hN (by omega) g1
    obtain ⟨X3, T3, N3, u3, e3, f3, g3, o3, m3⟩ := pb_one (ML := ML) (w := a3) hN (by omega) g2
    obtain ⟨X4, T4, N4, u4, e4, f4, g4, o4, m4⟩ := pb_one (ML := ML) (w := a4) hN (by omega) g3
    obtain ⟨X5, T5, N5, u5, e5, f5, g5, o5, m5⟩ := pb_one (ML := ML) (w := a5) hN (by omega) g4
    rw [if_le d (by omega), if_le (by omega) (by omega), e1, bnd_s]
    dsimp only
    rw [e2, bnd_s]
    dsimp only
    rw [e3, bnd_s]
    dsimp only
    rw [e4, bnd_s]
    dsimp only
    rw [e5, bnd_s, f1, bnd_s, f2, bnd_s, f3, bnd_s, f4, bnd_s, f5, bnd_s]
    dsimp only
    refine ⟨_, _, rfl, rfl, by dsimp only; rw [g5.1, g5.2.1], Rel_tp (fun a q1 _ _ q4 => ?_) ?_ ?_ (fun a ha => ?_) ⟨u5, L + 4 + 4 + 4 + 4 + 4, by omega, ?_, ?_, ?_, ?_⟩ h1⟩
    · rw [va_up_ne _ _ q4, va_up_ne _ _ q1]
    · rw [va_up_ne _ _ (by omega), va_up_self]
      exact (o5 9 (by omega)).trans ((o4 9 (by omega)).trans ((o3 9 (by omega)).trans ((o2 9 (by omega)).trans (o1 9 (by omega)))))
    · rw [va_up_ne _ _ (by omega), va_up_self]
      exact (o5 10 (by omega)).trans ((o4 10 (by omega)).trans ((o3 10 (by omega)).trans ((o2 10 (by omega)).trans (o1 10 (by omega)))))
    · exact (m5 a (by omega) (by omega)).trans ((m4 a (by omega) (by omega)).trans ((m3 a (by omega) (by omega)).trans ((m2 a (by omega) (by omega)).trans (m1 a (by omega) (by omega)))))
    · rw [va_up_ne _ _ (by omega), va_up_self]; exact g5.1
    · exact g5.2.1
    · rw [va_up_self]; exact g5.2.2.1
    · exact g5.2.2.2
  · rw [if_nle (by omega) (by omega), if_nle (by omega) (by omega)]
    refine ⟨_, _, rfl, rfl, rfl, Rel_tp (fun a q1 _ _ q4 => ?_) ?_ ?_ (fun _ _ => rfl) ⟨t, L, t1, ?_, t3, ?_, t5⟩ h1⟩
    · rw [va_up_ne _ _ q4, va_up_ne _ _ q1]
    · rw [va_up_ne _ _ (by omega), va_up_self]
    · rw [va_up_ne _ _ (by omega), va_up_self]
    · rw [va_up_ne _ _ (by omega), va_up_self]; exact t2
    · rw [va_up_self]; exact t4
