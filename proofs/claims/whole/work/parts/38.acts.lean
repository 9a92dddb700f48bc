/-! pass and step -/
theorem va_id {α : Type} (f : Nat → α) (k : Nat) : va_up f k (f k) = f := by
  funext a
  by_cases c : a = k
  · rw [c, va_up_self]
  · rw [va_up_ne _ _ c]
theorem move1_2 {p x : Nx} {u k : Nat} (hk : k < p 6 0) : sMove1 p u x 2 k = x 2 k + (if x 1 k ≠ x 2 k ∧ x 3 k ≤ u then 1 else 0) := by
  unfold sMove1
  rw [round_2 hk, up1_ne (by omega), up1_ne (by omega), up1_ne (by omega), up1_at, sMin_o (by omega), sMin_o (by omega), sMin_o (by omega)]
theorem moveN_2 {p : Nx} {th k : Nat} (hk : k < p 6 0) : ∀ {d : Nat} {x : Nx}, x 2 k ≤ moveN p th d x 2 k
  | 0, _ => Nat.le_refl _
  | d + 1, x => by
    unfold moveN
    by_cases c : th ≤ x 8 0
    · rw [if_pos c]; exact Nat.le_refl _
    · rw [if_neg c]
      refine Nat.le_trans ?_ (moveN_2 hk)
      rw [move1_2 hk]
      omega
theorem addM_0 {p x : Nx} {k s : Nat} : addM p (x 8 0) x k s = 0 := by
  unfold addM
  by_cases c : x 1 k = x 2 k
  · rw [if_pos c]
    generalize (if k = 0 ∨ sWait x k ≠ 0 then 1 else 0) = q
    split <;> omega
  · rw [if_neg c]
    split
    · omega
    · split <;> omega
theorem move1_id {p x : Nx} {u : Nat} (hp : PI p) (hx : LZ p x) (h : u < sNext p x) : sMove1 p u x = up1 (sMin p u x) 8 u := by
  unfold sMove1
  apply round_id
  · intro k h1 h2 h3
    rw [up1_ne (by omega), up1_ne (by omega), sMin_o (by omega), sMin_o (by omega)] at h3
    rw [up1_at, up1_ne (by omega), sMin_o (by omega)]
    have := sNext_le h2 h3
    omega
  · intro k h1 h2 h3
    rw [up1_ne (by omega), up1_ne (by omega), sMin_o (by omega), sMin_o (by omega)] at h3
    rw [canB_congr (y := x) (by rw [up1_ne (by omega), sMin_o (by omega)]) (fun i => by rw [up1_ne (by omega), sMin_o (by omega)]) (fun l _ => by rw [up1_ne (by omega), sMin_o (by omega)])]
    exact hx.2.2 k h1 h2 h3
theorem mp_loop {p g : Nx} {N th : Nat} {ML : RcL} (hp : PI p) (hg : GI p g) (hN : 100 < N) (hth : th < 2 ^ 28) : ∀ {d u o : Nat} {x : Nx} {M : Rc}, d < u → LZ p x → RelS p g x (M 11) → SumS p x (M 11) → x 8 0 ≤ th → th ≤ x 8 0 + d → ∃ M', itn (fX6_pass_55b N) (fun _ _ _ _ => none) u M ML (nI th) (nI o) = some (nI (o + moveN p th d x 2 (p 6 0 - 1) - x 2 (p 6 0 - 1)), M') ∧ RelS p g (moveN p th d x) (M' 11) ∧ SumS p (moveN p th d x) (M' 11) ∧ ∀ a, a ≠ 11 → M' a = M a
  | _, 0, _, _, _, h, _, _, _, _, _ => by omega
  | d, u + 1, o, x, M, hu, hx, S, Q, h1, h2 => by
    have hn := hp.n
    have nb := sNext_b hp hx (by omega)
    have nx := m_next (N := N) hp hN hx (by omega) S
    by_cases c : th ≤ x 8 0
    · have e8 : x 8 0 = th := by omega
      obtain ⟨T, t1, t2, t3⟩ := m_waits (N := N) (u := x 8 0) hp hg hN hx.1 (by omega) (Nat.le_refl _) S
      rw [moveN_stop c]
      refine ⟨va_up M 11 T, ?_, ?_, ?_, fun a ha => by rw [va_up_ne _ _ ha]⟩
      · rw [itn_s]
        unfold fX6_pass_55b
        rw [nx, bnd_s, if_lt (by omega) (by omega), S.2.1.1.1, nI_sub' (by omega), ← e8, t1, bnd_s, nm_s, show o + x 2 (p 6 0 - 1) - x 2 (p 6 0 - 1) = o from by omega]
      · rw [va_up_self]
        refine RelS_agr hp (fun a i ha hi => ?_) t2
        by_cases e : a = 8
        · subst e
          have : i < 1 := hi
          rw [up1_at, show i = 0 from by omega]
        · rw [up1_ne e]
      · rw [va_up_self]
        intro k s k1 k2
        rw [t3 Q k s k1 k2, sMin_6 k1 k2, addM_0, Nat.add_zero]
    · obtain ⟨e, rfl⟩ : ∃ e, d = e + 1 := ⟨d - 1, by omega⟩
      by_cases b : sNext p x ≤ th
      · have eu : (if sNext p x < th then sNext p x else th) = sNext p x := by split <;> omega
        have em : moveN p th (e + 1) x = moveN p th e (sMove1 p (sNext p x) x) := by
          rw [moveN, if_neg c, eu]
        obtain ⟨T, t1, t2, t3⟩ := m_stepM (N := N) hp hg hN hx (by omega) S Q
        have lz := LZ_move1 hp hx (u := sNext p x) (by omega) (Nat.le_refl _)
        obtain ⟨M', r1, r2, r3, r4⟩ := mp_loop (N := N) (ML := ML) hp hg hN hth (d := e) (u := u) (o := o + (sMove1 p (sNext p x) x 2 (p 6 0 - 1) - x 2 (p 6 0 - 1))) (x := sMove1 p (sNext p x) x) (M := va_up M 11 T) (by omega) lz (by rw [va_up_self]; exact t2) (by rw [va_up_self]; exact t3) (by rw [move1_8]; exact b) (by rw [move1_8]; omega)
        have m1 := move1_2 (p := p) (x := x) (u := sNext p x) (k := p 6 0 - 1) (by omega)
        have m2 := moveN_2 (p := p) (th := th) (k := p 6 0 - 1) (by omega) (d := e) (x := sMove1 p (sNext p x) x)
        rw [em]
        refine ⟨M', ?_, r2, r3, fun a ha => by rw [r4 a ha, va_up_ne _ _ ha]⟩
        rw [itn_s]
        generalize itn (fX6_pass_55b N) (fun _ _ _ _ => none) u = K at r1 ⊢
        unfold fX6_pass_55b
        rw [nx, bnd_s, if_nlt b (by omega), t1, bnd_s]
        dsimp only
        rw [nm_s, nI_add, nm_s, r1]
        congr 2
        congr 1
        generalize moveN p th e (sMove1 p (sNext p x) x) 2 (p 6 0 - 1) = A at m2 ⊢
        generalize sMove1 p (sNext p x) x 2 (p 6 0 - 1) = B at m1 m2 ⊢
        omega
      · have eu : (if sNext p x < th then sNext p x else th) = th := by split <;> omega
        have em : moveN p th (e + 1) x = up1 (sMin p th x) 8 th := by
          rw [moveN, if_neg c, eu, moveN_stop (by rw [move1_8]; exact Nat.le_refl _), move1_id hp hx (by omega)]
        obtain ⟨T, t1, t2, t3⟩ := m_waits (N := N) (u := th) hp hg hN hx.1 (by omega) h1 S
        rw [em]
        refine ⟨va_up M 11 T, ?_, ?_, ?_, fun a ha => by rw [va_up_ne _ _ ha]⟩
        · rw [itn_s]
          unfold fX6_pass_55b
          rw [nx, bnd_s, if_lt (by omega) (by omega), S.2.1.1.1, nI_sub' (by omega), t1, bnd_s, nm_s, up1_ne (by omega), sMin_o (by omega), show o + x 2 (p 6 0 - 1) - x 2 (p 6 0 - 1) = o from by omega]
        · rw [va_up_self]
          refine RelS_agr hp (fun a i ha hi => ?_) t2
          by_cases e : a = 8
          · subst e
            rw [up1_at, up1_at]
          · rw [up1_ne e, up1_ne e, sMin_o ha]
        · rw [va_up_self]
          intro k s k1 k2
          rw [up1_ne (by omega)]
          exact t3 Q k s k1 k2
/-- the new state of an act that left the cards alone -/
theorem act10 {c : Nat → Rc} {FL : RcL} {M M' : Rc} {ML : RcL} {p g x x' : Nx} {Y' : Rc} {K' : Nat → Rc} (h : Rel c FL M ML) (hp : c 1 = embP p) (w : Wk p g x c M) (h4 : x' 4 = x 4) (hS : Lst p g x' (M' 11)) (hH : HRk p g Y' K' (M' 14) (M' 15 0)) (hM : ∀ a, a = 1 ∨ a = 2 ∨ a = 8 → M' a = M a) : Rel (va_up (va_up (va_up (va_up (va_up (va_up (va_up (va_up (va_up (va_up c 5 (embL x')) 7 Y') 8 (K' 0)) 9 (K' 1)) 10 (K' 2)) 11 (K' 3)) 12 (K' 4)) 13 (K' 5)) 14 (K' 6)) 15 (K' 7)) FL M' ML := by
  refine Rel_act h hp w.1 w.2.1 (fun a ha => ?_) ?_ ?_ hS ?_ ?_ hM
  · rw [va_up_ne _ _ (by omega), va_up_ne _ _ (by omega), va_up_ne _ _ (by omega), va_up_ne _ _ (by omega), va_up_ne _ _ (by omega), va_up_ne _ _ (by omega), va_up_ne _ _ (by omega), va_up_ne _ _ (by omega), va_up_ne _ _ (by omega), va_up_ne _ _ (by omega)]
  · rw [va_up_ne _ _ (by omega), va_up_ne _ _ (by omega), va_up_ne _ _ (by omega), va_up_ne _ _ (by omega), va_up_ne _ _ (by omega), va_up_ne _ _ (by omega), va_up_ne _ _ (by omega), va_up_ne _ _ (by omega), va_up_ne _ _ (by omega), va_up_ne _ _ (by omega)]
  · rw [va_up_ne _ _ (by omega), va_up_ne _ _ (by omega), va_up_ne _ _ (by omega), va_up_ne _ _ (by omega), va_up_ne _ _ (by omega), va_up_ne _ _ (by omega), va_up_ne _ _ (by omega), va_up_ne _ _ (by omega), va_up_ne _ _ (by omega), va_up_self]
  · rw [va_up_ne _ _ (by omega), va_up_ne _ _ (by omega), va_up_ne _ _ (by omega), va_up_ne _ _ (by omega), va_up_ne _ _ (by omega), va_up_ne _ _ (by omega), va_up_ne _ _ (by omega), va_up_ne _ _ (by omega), va_up_self]
    refine HRk_congr (fun i hi => ?_) hH
    rcases (show i = 0 ∨ i = 1 ∨ i = 2 ∨ i = 3 ∨ i = 4 ∨ i = 5 ∨ i = 6 ∨ i = 7 from by omega) with rfl | rfl | rfl | rfl | rfl | rfl | rfl | rfl <;> simp (disch := omega) only [va_up_ne, va_up_self, Nat.reduceAdd]
  · rw [va_up_ne _ _ (by omega), va_up_ne _ _ (by omega), va_up_ne _ _ (by omega), va_up_ne _ _ (by omega), va_up_ne _ _ (by omega), va_up_ne _ _ (by omega), va_up_ne _ _ (by omega), va_up_ne _ _ (by omega), va_up_ne _ _ (by omega), va_up_ne _ _ (by omega), h4]
    exact w.2.2.2.2.2
theorem same10 {c : Nat → Rc} : va_up (va_up (va_up (va_up (va_up (va_up (va_up (va_up (va_up (va_up c 5 (c 5)) 7 (c 7)) 8 (c 8)) 9 (c 9)) 10 (c 10)) 11 (c 11)) 12 (c 12)) 13 (c 13)) 14 (c 14)) 15 (c 15) = c := by
  rw [va_id, va_id, va_id, va_id, va_id, va_id, va_id, va_id, va_id, va_id]
theorem SP16_ok {N : Nat} (hN : 100000 < N) : SP16 N Rel := by
  intro c FL M ML h a1
  have h1 := Rel_0 (v := fun _ => nI 0) h
  unfold fX6_pass
  rw [nm_s]
  generalize va_up M 0 (fun _ => nI 0) = M1 at h1 ⊢
  obtain ⟨p, p1, b6, b7, s1, s14, hw⟩ := Rel_base h1
  have same := h1
  rw [← same10 (c := c)] at same
  unfold fX5_pass fX5_pass_33 fX6_pass_37
  rw [p1]
  rcases hw with z | ⟨g, x, w⟩
  · rw [empty_T z.1, there_F z.2.2, bnd_s, bnd_s, if_n0 (by omega) (by omega), if_e0 rfl]
    exact ⟨_, _, rfl, rfl, rfl, same⟩
  · obtain ⟨w1, w2, w3, w4, w5, w6⟩ := id w
    have S := w4.2.2.2.1
    have x8 := w4.2.2.1
    have hx := w4.1
    have hn := w1.n
    rw [empty_F w1, there_T S.1.1.1, bnd_s, bnd_s, if_e0 rfl, if_n0 (by omega) (by omega)]
    rcases in_ab a1 (a := 1) (b := 999) (by omega) (by omega) with ⟨n, n1, n2, rfl, q1, q2, q3, ni⟩ | ⟨ni, n0⟩
    · rw [if_neg q1, if_neg q3, ni, bnd_s, if_n0 (by omega) (by omega), S.2.1.1.1, nI_add, nI_sub' (by omega), show c 5 8 0 = nI (x 8 0) from by rw [w3, embL_a (by omega)]]
      by_cases e : x 8 0 + n ≤ 99999
      · obtain ⟨Y', K', M2, k1, k2, k3, k4⟩ := keep_snap (ML := ML) (N := N) (by omega) w
        have S2 : RelS p g x (M2 11) := by rw [k4 11 (by omega) (by omega)]; exact S
        have Q2 : SumS p x (M2 11) := by rw [k4 11 (by omega) (by omega)]; exact w4.2.2.2.2
        obtain ⟨M3, m1, m2, m3, m4⟩ := mp_loop (N := N) (th := x 8 0 + n) (ML := ML) w1 w2 (by omega) (by omega) (d := 1000) (u := N) (o := 0) (x := x) (M := M2) (by omega) hx S2 Q2 (by omega) (by omega)
        have mv := s_move (N := N) w1 (by omega) (th := x 8 0 + n) (by omega) hx (by omega) (by omega)
        have ok := move_ok w1 (th := x 8 0 + n) (by omega) (d := 1000) hx (by omega) (by omega)
        have m2' := moveN_2 (p := p) (th := x 8 0 + n) (k := p 6 0 - 1) (by omega) (d := 1000) (x := x)
        rw [if_le (by omega) (by omega), if_le e (by omega), w3, k1, bnd_s, s_out w1, bnd_s, nm_s, nI_add, mv, bnd_s, s_out w1, bnd_s, nI_sub' m2', k2, bnd_s, S2.2.1.1.1, nI_add, nm_s, nm_s]
        unfold fX6_pass_55
        rw [m1, Nat.zero_add]
        refine ⟨_, _, rfl, rfl, rfl, ?_⟩
        refine act10 h1 p1 w (x' := moveN p (x 8 0 + n) 1000 x) ?_ ⟨ok.1, by rw [moveN_o (by omega)]; exact w4.2.1, by omega, m2, m3⟩ (by dsimp only; rw [m4 14 (by omega), m4 15 (by omega)]; exact k3) (fun a ha => by dsimp only; rw [m4 a (by omega), k4 a (by omega) (by omega)])
        funext i
        exact moveN_o (by omega)
      · rw [if_nle (by omega) (by omega), if_nle (by omega) (by omega)]
        exact ⟨_, _, rfl, rfl, rfl, same⟩
    · rw [ni, bnd_s, if_e0 rfl]
      rcases n0 with n0 | n0
      · rw [if_pos n0]; exact ⟨_, _, rfl, rfl, rfl, same⟩
      · rw [if_neg n0.1, if_pos n0.2.1]; exact ⟨_, _, rfl, rfl, rfl, same⟩
theorem SP17_ok {N : Nat} (hN : 100000 < N) : SP17 N Rel := by
  intro c FL M ML h _
  have h1 := Rel_0 (v := fun _ => nI 0) h
  unfold fX6_step
  rw [nm_s]
  generalize va_up M 0 (fun _ => nI 0) = M1 at h1 ⊢
  obtain ⟨p, p1, b6, b7, s1, s14, hw⟩ := Rel_base h1
  have same := h1
  rw [← same10 (c := c)] at same
  unfold fX5_step fX6_step_24
  rw [p1]
  rcases hw with z | ⟨g, x, w⟩
  · rw [empty_T z.1, there_F z.2.2, bnd_s, bnd_s, if_n0 (by omega) (by omega), if_e0 rfl]
    exact ⟨_, _, rfl, rfl, rfl, same⟩
  · obtain ⟨w1, w2, w3, w4, w5, w6⟩ := id w
    have S := w4.2.2.2.1
    have x8 := w4.2.2.1
    have hx := w4.1
    have nb := sNext_b w1 hx (by omega)
    have cn : fX1_nextThrough N (embP p) (c 5) = some (nI (sNext p x)) := by rw [w3]; exact s_next w1 hx.1 (by omega) (by omega)
    rw [empty_F w1, there_T S.1.1.1, bnd_s, bnd_s, if_e0 rfl, if_n0 (by omega) (by omega), cn, bnd_s, nm_s, m_next w1 (by omega) hx (by omega) S, bnd_s]
    by_cases e : sNext p x ≤ 99999
    · obtain ⟨Y', K', M2, k1, k2, k3, k4⟩ := keep_snap (ML := ML) (N := N) (by omega) w
      have S2 : RelS p g x (M2 11) := by rw [k4 11 (by omega) (by omega)]; exact S
      have Q2 : SumS p x (M2 11) := by rw [k4 11 (by omega) (by omega)]; exact w4.2.2.2.2
      obtain ⟨T, t1, t2, t3⟩ := m_stepM (N := N) w1 w2 (by omega) hx (by omega) S2 Q2
      have mv := s_move (N := N) w1 (by omega) (th := sNext p x) (by omega) hx (by omega) (by omega)
      have em : moveN p (sNext p x) 1000 x = sMove1 p (sNext p x) x := by
        rw [show (1000 : Nat) = 999 + 1 from rfl, moveN, if_neg (by omega), if_neg (by omega), moveN_stop (by rw [move1_8]; exact Nat.le_refl _)]
      rw [em] at mv
      have lz := LZ_move1 w1 hx (u := sNext p x) (by omega) (Nat.le_refl _)
      rw [if_le e (by omega), if_le e (by omega), w3, k1, bnd_s, mv, bnd_s, k2, bnd_s, t1, bnd_s]
      dsimp only
      rw [nm_s, va_up_self, embL_a (by omega), t2.2.1.1.1]
      refine ⟨_, _, rfl, rfl, rfl, ?_⟩
      refine act10 h1 p1 w (x' := sMove1 p (sNext p x) x) ?_ ⟨lz, ?_, by rw [move1_8]; exact e, ?_, ?_⟩ ?_ (fun a ha => ?_)
      · funext i
        unfold sMove1
        rw [round_o (by omega), up1_ne (by omega), sMin_o (by omega)]
      · unfold sMove1
        rw [round_o (by omega), up1_ne (by omega), sMin_o (by omega)]; exact w4.2.1
      · dsimp only; rw [va_up_self]; exact t2
      · dsimp only; rw [va_up_self]; exact t3
      · dsimp only; rw [va_up_ne _ _ (by omega), va_up_ne _ _ (by omega)]; exact k3
      · dsimp only; rw [va_up_ne _ _ (by omega), k4 a (by omega) (by omega)]
    · rw [if_nle (by omega) (by omega), if_nle (by omega) (by omega)]
      exact ⟨_, _, rfl, rfl, rfl, same⟩
