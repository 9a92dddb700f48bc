/-! paces -/
theorem m_laysA {p g : Nx} {C : Nat → Nat} {f N : Nat} {M : Rc} {ML : RcL} (hp : PI p) (hg : GI p g) (hN : 1600 < N) (hf : 1 ≤ f ∧ f ≤ 5) (hC : ∀ l, l < p 7 0 → 1 ≤ C l ∧ C l ≤ 20) (h : Stat p g C f (M 13)) : ∃ b M' ML', fX6_laysPace N M ML = some (bI b, (M', ML')) ∧ (∀ a, a ≠ 13 → a ≠ 16 → a ≠ 17 → a ≠ 19 → a ≠ 20 → a ≠ 21 → M' a = M a) ∧ ∀ z, (kn p C f z = none → b = false) ∧ ∀ o, kn p C f z = some o → b = true ∧ M' 19 0 = pcP p (sRound p (sClr z C f)) (some o) ∧ M' 20 0 = pcM p (sRound p (sClr z C f)) (some o) := by
  obtain ⟨b, M', ML', e1, e2, _, _⟩ := m_lays (x := fun _ _ => 0) (ML := ML) hp hg hN hf hC h
  refine ⟨b, M', ML', e1, e2, fun z => ?_⟩
  obtain ⟨b2, M2, ML2, f1, f2, f3, f4⟩ := m_lays (x := z) (ML := ML) hp hg hN hf hC h
  rw [e1] at f1
  have i1 := Option.some.inj f1
  have i2 : bI b = bI b2 := congrArg (fun q => q.1) i1
  have i3 : M' = M2 := congrArg (fun q => q.2.1) i1
  have i4 := bI_inj.mp i2
  subst i3 i4
  exact ⟨f3, f4⟩
/-- the numbers of a pace -/
theorem pc_b {p z : Nx} {C : Nat → Nat} {f k n : Nat} (hp : PI p) (hf : 1 ≤ f ∧ f ≤ 5) (hC : ∀ l, l < p 7 0 → 1 ≤ C l ∧ C l ≤ 20) (h : kn p C f z = some (k, n)) : ∃ P T, pcP p (sRound p (sClr z C f)) (some (k, n)) = nI P ∧ pcM p (sRound p (sClr z C f)) (some (k, n)) = nI T ∧ 1 ≤ P ∧ P ≤ 1500 ∧ 1 ≤ T ∧ T ≤ 18180000 ∧ ∀ r, r < p 7 0 + p 6 0 → rgM p r * P ≤ rgC p C r * T := by
  have st := Stt_new (x := z) hp hf hC
  unfold kn at h
  generalize sRound p (sClr z C f) = x0 at st h
  have s := paceAt_some h
  have tt := pre_time hp st (d := n - k) (m := k + 1) (by omega)
  rw [show k + 1 + (n - k) = n + 1 from by omega] at tt
  have gp : 0 < pcD p x0 k n := Nat.gcd_pos_of_pos_left _ (by omega)
  have d1 : pcD p x0 k n ∣ (n - k) := Nat.gcd_dvd_left _ _
  have d2 : pcD p x0 k n ∣ (pre p x0 (n + 1) 8 0 - pre p x0 (k + 1) 8 0) := Nat.gcd_dvd_right _ _
  refine ⟨_, _, rfl, rfl, Nat.div_pos (Nat.le_of_dvd (by omega) d1) gp, Nat.le_trans (Nat.div_le_self _ _) (by omega), Nat.div_pos (Nat.le_of_dvd (by omega) d2) gp, Nat.le_trans (Nat.div_le_self _ _) (by omega), fun r hr => ?_⟩
  exact ring_pc hp st (rg_Rng hp hr) h
theorem learn {p x : Nx} {N f : Nat} {X J F : Rc} {FL : RcL} (hp : PI p) (hN : 1600 < N) (hf : 1 ≤ f ∧ f ≤ 5) (hC : ∀ l, l < p 7 0 → 1 ≤ x 4 l ∧ x 4 l ≤ 20) (hk : KN p (x 4) X) : ∃ X' J' F' FL' z, fX5_learnPace N X (embP p) (embL x) J F FL (nI f) = some (X', J', F', FL') ∧ (∀ a, a ≠ 9 → a ≠ 10 → X' a = X a) ∧ KN p (x 4) X' ∧ X' 9 f = pcP p (sRound p (sClr z (x 4) f)) (kn p (x 4) f z) ∧ X' 10 f = pcM p (sRound p (sClr z (x 4) f)) (kn p (x 4) f z) ∧ ∀ e, e ≠ f → X' 9 e = X 9 e ∧ X' 10 e = X 10 e := by
  unfold fX5_learnPace
  rw [gdi_nI (by omega) (by omega), nI_clamp (by omega)]
  by_cases c : X 9 f = 0
  · obtain ⟨j, rfl⟩ := embL_all J
    obtain ⟨y, G, GL, s1, s2, s3⟩ := s_search (x := j) (C := x 4) (D := embL x 4) hp hN hf hC (fun l _ => embL_a (by omega)) F FL
    rw [if_pos c, s1, bnd_s]
    dsimp only
    rw [gdi_nI (by omega) (by omega), nm_s, gdi_nI (by omega) (by omega), nm_s]
    have x9 : ∀ e, va_up (va_up X 9 (upd (X 9) f (G 6 0))) 10 (upd (va_up X 9 (upd (X 9) f (G 6 0)) 10) f (G 7 0)) 9 e = if e = f then G 6 0 else X 9 e := by
      intro e
      rw [va_up_ne _ _ (by omega), va_up_self]
      by_cases q : e = f
      · rw [upd_eq q, if_pos q]
      · rw [upd_ne q, if_neg q]
    have x10 : ∀ e, va_up (va_up X 9 (upd (X 9) f (G 6 0))) 10 (upd (va_up X 9 (upd (X 9) f (G 6 0)) 10) f (G 7 0)) 10 e = if e = f then G 7 0 else X 10 e := by
      intro e
      rw [va_up_self]
      by_cases q : e = f
      · rw [upd_eq q, if_pos q]
      · rw [upd_ne q, if_neg q, va_up_ne _ _ (by omega)]
    refine ⟨_, _, _, _, j, rfl, fun a h1 h2 => by rw [va_up_ne _ _ h2, va_up_ne _ _ h1], fun e e1 e2 => ?_, ?_, ?_, fun e he => ?_⟩
    · rw [x9, x10]
      by_cases q : e = f
      · subst q
        rw [if_pos rfl, if_pos rfl]
        exact Or.inr ⟨j, s2, s3⟩
      · rw [if_neg q, if_neg q]
        exact hk e e1 e2
    · rw [x9, if_pos rfl]; exact s2
    · rw [x10, if_pos rfl]; exact s3
    · rw [x9, x10, if_neg he, if_neg he]; exact ⟨rfl, rfl⟩
  · rw [if_neg c]
    rcases hk f hf.1 hf.2 with z | ⟨z, z1, z2⟩
    · exact absurd z c
    · exact ⟨X, J, F, FL, z, rfl, fun _ _ _ => rfl, hk, z1, z2, fun _ _ => ⟨rfl, rfl⟩⟩
theorem Wk_C {p g x : Nx} {c : Nat → Rc} {M : Rc} (w : Wk p g x c M) : ∀ l, l < p 7 0 → 1 ≤ x 4 l ∧ x 4 l ≤ 20 := fun l hl => by
  have := w.2.2.2.1.1.1.l hl
  omega
/-- after a pace was found -/
theorem Rel_kn {p g x : Nx} {c : Nat → Rc} {FL FL' : RcL} {M M' : Rc} {ML ML' : RcL} {X' J' F' : Rc} (h : Rel c FL M ML) (hp : c 1 = embP p) (w : Wk p g x c M) (hX : ∀ a, a ≠ 6 → a ≠ 9 → a ≠ 10 → X' a = c 0 a) (hk : KN p (x 4) X') (hM : ∀ a, a = 1 ∨ a = 2 ∨ a = 8 ∨ a = 11 ∨ a = 14 ∨ a = 15 → M' a = M a) : Rel (va_up (va_up (va_up c 0 X') 2 J') 6 F') FL' M' ML' := by
  obtain ⟨⟨t, L, t1, t2, t3, t4, t5⟩, h3, ⟨q, q1, q2⟩, p', p1, p2, h4⟩ := h
  have ep : embP p' = embP p := p1.symm.trans hp
  obtain ⟨w1, w2, w3, w4, ⟨n, d, r1, r2, r3, r4, r5, r6⟩, w6⟩ := w
  have co : ∀ a, a ≠ 0 → a ≠ 2 → a ≠ 6 → va_up (va_up (va_up c 0 X') 2 J') 6 F' a = c a := fun a h0 h2 h6 => by rw [va_up_ne _ _ h6, va_up_ne _ _ h2, va_up_ne _ _ h0]
  have c0 : va_up (va_up (va_up c 0 X') 2 J') 6 F' 0 = X' := by rw [va_up_ne _ _ (by omega), va_up_ne _ _ (by omega), va_up_self]
  generalize va_up (va_up (va_up c 0 X') 2 J') 6 F' = c' at co c0 ⊢
  refine ⟨⟨t, L, t1, ?_, ?_, ?_, ?_⟩, ?_, ⟨q, ?_, q2⟩, p, ?_, w1.kd, Or.inr ⟨g, x, w1, w2, ?_, ?_, ⟨n, d, r1, r2, ?_, ?_, ?_, fun i hi => ?_⟩, ?_⟩⟩
  · rw [c0, hX 1 (by omega) (by omega) (by omega)]; exact t2
  · rw [hM 2 (by omega)]; exact t3
  · rw [co 16 (by omega) (by omega) (by omega)]; exact t4
  · rw [hM 1 (by omega)]; exact t5
  · rw [co 3 (by omega) (by omega) (by omega), hM 8 (by omega)]; exact h3
  · rw [co 4 (by omega) (by omega) (by omega)]; exact q1
  · rw [co 1 (by omega) (by omega) (by omega)]; exact hp
  · rw [co 5 (by omega) (by omega) (by omega)]; exact w3
  · rw [hM 11 (by omega)]; exact w4
  · rw [co 7 (by omega) (by omega) (by omega)]; exact r3
  · rw [co 7 (by omega) (by omega) (by omega)]; exact r4
  · rw [hM 15 (by omega)]; exact r5
  · obtain ⟨y, y1, y2⟩ := r6 i hi
    refine ⟨y, ?_, ?_⟩
    · rw [co _ (by omega) (by omega) (by omega)]; exact y1
    · rw [hM 14 (by omega)]; exact y2
  · rw [c0]; exact hk
theorem copy_now {p g x : Nx} {M : Rc} {N : Nat} (hN : 400 < N) (hp : PI p) (hg : GI p g) (hx : LI p x) (S : RelS p g x (M 11)) : ∃ V, fX6_copy 353 353 N (M 11) (M 13) (nI 0) (nI 0) = some V ∧ RelS p g x V := by
  refine ⟨_, m_copy hN (by omega) (by omega) (by omega) (by omega), RelS_eq hp hg hx (fun i hi => ?_) S⟩
  show (if 0 ≤ i ∧ i < 0 + 353 then M 11 (0 + (i - 0)) else M 13 i) = _
  rw [if_pos (by omega)]
  congr 1
  omega
theorem ll_loop {p g : Nx} {C : Nat → Nat} {f N : Nat} {ML : RcL} (hp : PI p) (hg : GI p g) : ∀ {d r u : Nat} {M : Rc}, d < u → r + d = p 8 0 → M 13 35 = nI (p 8 0) → ∃ M', itn (fX6_laysLonger_15b N) (fun _ _ _ _ => none) u M ML (nI f) (nI r) = bnd (fX6_laysPace N M' ML) (fun z1 => gdb z1.1 (some (z1.1, (z1.2.1, z1.2.2)))) ∧ (∀ a, a ≠ 13 → M' a = M a) ∧ (∀ i, r ≤ i → i < p 8 0 → M' 13 (36 + 2 * i + 1) = M 13 (36 + 2 * i + 1) * nI f) ∧ ∀ j, (∀ i, r ≤ i → i < p 8 0 → j ≠ 36 + 2 * i + 1) → M' 13 j = M 13 j
  | _, _, 0, _, h, _, _ => by omega
  | 0, r, u + 1, M, _, e, h35 => by
    have h8 := hg.1
    refine ⟨M, ?_, fun _ _ => rfl, fun i h1 h2 => by omega, fun _ _ => rfl⟩
    rw [itn_s]
    unfold fX6_laysLonger_15b
    rw [h35, if_le (by omega) (by omega)]
  | d + 1, r, u + 1, M, hu, e, h35 => by
    have h8 := hg.1
    obtain ⟨M', r1, r2, r3, r4⟩ := ll_loop (C := C) (f := f) (N := N) (ML := ML) hp hg (d := d) (r := r + 1) (u := u) (M := va_up M 13 (upd (M 13) (36 + 2 * r + 1) (M 13 (36 + 2 * r + 1) * nI f))) (by omega) (by omega) (by rw [va_up_self, upd_ne (by omega)]; exact h35)
    refine ⟨M', ?_, fun a ha => by rw [r2 a ha, va_up_ne _ _ ha], fun i h1 h2 => ?_, fun j hj => ?_⟩
    · rw [itn_s, ← r1]
      unfold fX6_laysLonger_15b
      rw [h35, if_nle (by omega) (by omega), pk_mul, nI_add, nI_add, gdi_nI (by omega) (by omega), gdi_nI (by omega) (by omega), nI_clamp (by omega), nm_s, nI_add, nm_s]
    · by_cases c : i = r
      · subst c
        rw [r4 _ (fun i' q1 q2 => by omega), va_up_self, upd_eq rfl]
      · rw [r3 i (by omega) h2, va_up_self, upd_ne (by omega)]
    · rw [r4 j (fun i q1 q2 => hj i (by omega) q2), va_up_self, upd_ne (hj r (by omega) (by omega))]
theorem m_longer {p g x : Nx} {f N : Nat} {M : Rc} {ML : RcL} (hp : PI p) (hg : GI p g) (hx : LI p x) (hN : 1600 < N) (hf : 1 ≤ f ∧ f ≤ 5) (hC : ∀ l, l < p 7 0 → 1 ≤ x 4 l ∧ x 4 l ≤ 20) (S : RelS p g x (M 11)) (h7 : x 7 0 = 1) : ∃ b M' ML', fX6_laysLonger N M ML (nI f) = some (bI b, (M', ML')) ∧ (∀ a, a ≠ 13 → a ≠ 16 → a ≠ 17 → a ≠ 19 → a ≠ 20 → a ≠ 21 → M' a = M a) ∧ ∀ z, (kn p (x 4) f z = none → b = false) ∧ ∀ o, kn p (x 4) f z = some o → b = true ∧ M' 19 0 = pcP p (sRound p (sClr z (x 4) f)) (some o) ∧ M' 20 0 = pcM p (sRound p (sClr z (x 4) f)) (some o) := by
  obtain ⟨V, v1, v2⟩ := copy_now (M := M) (N := N) (by omega) hp hg hx S
  have h8 := hg.1
  have hq := hp.q
  have st := v2.1
  rw [h7] at st
  obtain ⟨M1, r1, r2, r3, r4⟩ := ll_loop (C := x 4) (f := f) (N := N) (ML := ML) hp hg (d := p 8 0) (r := 0) (u := N) (M := va_up M 13 V) (by omega) (by omega) (by rw [va_up_self]; exact st.1.2.2.2)
  rw [va_up_self] at r3 r4
  have st2 : Stat p g (x 4) f (M1 13) := by
    refine ⟨⟨?_, ?_, ?_, ?_⟩, fun k hk => ?_, fun l hl => ?_, fun r hr => ?_⟩
    · rw [r4 0 (fun i _ _ => by omega)]; exact st.1.1
    · rw [r4 1 (fun i _ _ => by omega)]; exact st.1.2.1
    · rw [r4 14 (fun i _ _ => by omega)]; exact st.1.2.2.1
    · rw [r4 35 (fun i _ _ => by omega)]; exact st.1.2.2.2
    · have := hp.n
      rw [r4 _ (fun i _ _ => by omega), r4 _ (fun i _ _ => by omega)]; exact st.2.1 k hk
    · rw [r4 _ (fun i _ _ => by omega), r4 _ (fun i _ _ => by omega), r4 _ (fun i _ _ => by omega)]; exact st.2.2.1 l hl
    · have q := st.2.2.2 r hr
      rw [r4 _ (fun i _ _ => by omega), r3 r (by omega) hr, q.2, Nat.mul_one, pk_mul]
      exact ⟨q.1, rfl⟩
  obtain ⟨b, M', ML', e1, e2, e3⟩ := m_laysA (ML := ML) hp hg hN hf hC st2
  refine ⟨b, M', ML', ?_, fun a q1 q2 q3 q4 q5 q6 => ?_, e3⟩
  · unfold fX6_laysLonger
    rw [v1, bnd_s, nm_s, nm_s]
    unfold fX6_laysLonger_15
    rw [r1, e1, bnd_s]
    cases b <;> rfl
  · rw [e2 a q1 q2 q3 q4 q5 q6, r2 a q1, va_up_ne _ _ q1]
/-- the class's pace by a factor against the model's answer -/
theorem pc_same {p z : Nx} {C : Nat → Nat} {f : Nat} {b : Bool} {M' : Rc} {w : Prop} [Decidable w] (h : (kn p C f z = none → b = false) ∧ ∀ o, kn p C f z = some o → b = true ∧ M' 19 0 = pcP p (sRound p (sClr z C f)) (some o) ∧ M' 20 0 = pcM p (sRound p (sClr z C f)) (some o)) : (if w then pcP p (sRound p (sClr z C f)) (kn p C f z) else pcM p (sRound p (sClr z C f)) (kn p C f z)) = if bI b = 0 then (-1 : Int32) else if w then M' 19 0 else M' 20 0 := by
  cases e : kn p C f z with
  | none =>
    rw [if_bF (h.1 e)]
    split <;> rfl
  | some o =>
    have q := h.2 o e
    rw [if_bT q.1, q.2.1, q.2.2]
theorem SP14_ok {N : Nat} (hN : 100000 < N) : SP14 N Rel := by
  intro c FL M ML h a1 a2
  have h1 := Rel_0 (v := fun _ => nI 0) h
  unfold fX6_longer
  rw [nm_s]
  generalize va_up M 0 (fun _ => nI 0) = M1 at h1 ⊢
  obtain ⟨p, p1, b6, b7, s1, s14, hw⟩ := Rel_base h1
  have same : Rel (va_up (va_up (va_up c 0 (c 0)) 2 (c 2)) 6 (c 6)) FL M1 ML := Rel_mv (fun a q1 q2 => by
    rw [va_up_ne _ _ q2, va_up_ne _ _ q1]
    by_cases e : a = 0
    · rw [e, va_up_self]
    · rw [va_up_ne _ _ e]) (fun _ _ => rfl) h1
  unfold fX5_longer fX5_paceBy fX5_paceBy_26 fX6_longer_38
  rw [p1]
  rcases hw with z | ⟨g, x, w⟩
  · rw [empty_T z.1, there_F z.2.2, bnd_s, bnd_s, if_n0 (by omega) (by omega), if_e0 rfl, bnd_s]
    exact ⟨_, _, rfl, rfl, rfl, same⟩
  · obtain ⟨w1, w2, w3, w4, w5, w6⟩ := id w
    have S := w4.2.2.2.1
    have hx := w4.1.1
    rw [empty_F w1, there_T S.1.1.1, bnd_s, bnd_s, if_e0 rfl, if_n0 (by omega) (by omega), w3]
    rcases in_ab a1 (a := 1) (b := 5) (by omega) (by omega) with ⟨f, f1, f2, rfl, q1, q2, q3, ni⟩ | ⟨ni, n0⟩
    · rw [if_neg q1, if_neg q3, ni, bnd_s, if_n0 (by omega) (by omega)]
      rcases in_ab a2 (a := 0) (b := 1) (by omega) (by omega) with ⟨v, _, v2, rfl, r1, r2, _, vi⟩ | ⟨vi, v0⟩
      · obtain ⟨X', J', F', FL', z, l1, l2, l3, l4, l5, l6⟩ := learn (N := N) (X := c 0) (J := c 2) (F := c 6) (FL := FL) w1 (by omega) ⟨f1, f2⟩ (Wk_C w) w6
        obtain ⟨b, M', ML', e1, e2, e3⟩ := m_longer (N := N) (M := M1) (ML := ML) w1 w2 hx (by omega) ⟨f1, f2⟩ (Wk_C w) S w4.2.1
        have ps := pc_same (w := v = 0) (e3 z)
        have fin : Rel (va_up (va_up (va_up c 0 X') 2 J') 6 F') FL' M' ML' := Rel_kn h1 p1 w (fun a _ q2 q3 => l2 a q2 q3) l3 (fun a ha => e2 a (by omega) (by omega) (by omega) (by omega) (by omega) (by omega))
        rw [if_neg (show ¬ nI v < 0 from r1), if_pos r2, vi, bnd_s, if_n0 (by omega) (by omega), l1, bnd_s, e1, bnd_s]
        dsimp only
        rw [gdi_nI (by omega) (by omega), gdi_nI (by omega) (by omega), nI_clamp (by omega), l4, l5]
        by_cases e : v = 0
        · rw [if_e0 e, bnd_s, if_e0 e]
          rw [if_pos e, if_pos e] at ps
          dsimp only
          cases b with
          | true => rw [if_bT rfl] at ps ⊢; rw [ps]; exact ⟨_, _, rfl, rfl, rfl, fin⟩
          | false => rw [if_bF rfl] at ps ⊢; rw [ps]; exact ⟨_, _, rfl, rfl, rfl, fin⟩
        · rw [if_n0 e (by omega), bnd_s, if_n0 e (by omega)]
          rw [if_neg e, if_neg e] at ps
          dsimp only
          cases b with
          | true => rw [if_bT rfl] at ps ⊢; rw [ps]; exact ⟨_, _, rfl, rfl, rfl, fin⟩
          | false => rw [if_bF rfl] at ps ⊢; rw [ps]; exact ⟨_, _, rfl, rfl, rfl, fin⟩
      · rw [vi, bnd_s, if_e0 rfl]
        rcases v0 with v0 | v0
        · rw [if_pos (show a2 < 0 from v0), bnd_s]; exact ⟨_, _, rfl, rfl, rfl, same⟩
        · rw [if_neg (show ¬ a2 < 0 from v0.1), if_neg v0.2.2, bnd_s]; exact ⟨_, _, rfl, rfl, rfl, same⟩
    · rw [ni, bnd_s, if_e0 rfl]
      rcases n0 with n0 | n0
      · rw [if_pos n0, bnd_s]; exact ⟨_, _, rfl, rfl, rfl, same⟩
      · rw [if_neg n0.1, if_pos n0.2.1, bnd_s]; exact ⟨_, _, rfl, rfl, rfl, same⟩
theorem SP10_ok {N : Nat} (hN : 100000 < N) : SP10 N Rel := by
  intro c FL M ML h a2
  have h1 := Rel_0 (v := fun _ => nI 0) h
  unfold fX6_pace
  rw [nm_s]
  generalize va_up M 0 (fun _ => nI 0) = M1 at h1 ⊢
  obtain ⟨p, p1, b6, b7, s1, s14, hw⟩ := Rel_base h1
  have same : Rel (va_up (va_up (va_up c 0 (c 0)) 2 (c 2)) 6 (c 6)) FL M1 ML := Rel_mv (fun a q1 q2 => by
    rw [va_up_ne _ _ q2, va_up_ne _ _ q1]
    by_cases e : a = 0
    · rw [e, va_up_self]
    · rw [va_up_ne _ _ e]) (fun _ _ => rfl) h1
  unfold fX5_pace fX5_paceBy fX5_paceBy_26 fX6_pace_21
  rw [p1]
  rcases hw with z | ⟨g, x, w⟩
  · rw [empty_T z.1, there_F z.2.2, bnd_s, bnd_s, if_n0 (by omega) (by omega), if_e0 rfl, bnd_s]
    exact ⟨_, _, rfl, rfl, rfl, same⟩
  · obtain ⟨w1, w2, w3, w4, w5, w6⟩ := id w
    have S := w4.2.2.2.1
    have hx := w4.1.1
    rw [empty_F w1, there_T S.1.1.1, bnd_s, bnd_s, if_e0 rfl, if_n0 (by omega) (by omega), w3, if_nlt (by omega) (by omega), if_nlt (by omega) (by omega)]
    rcases in_ab a2 (a := 0) (b := 1) (by omega) (by omega) with ⟨v, _, v2, rfl, r1, r2, _, vi⟩ | ⟨vi, v0⟩
    · obtain ⟨X', J', F', FL', z, l1, l2, l3, l4, l5, l6⟩ := learn (N := N) (f := 1) (X := c 0) (J := c 2) (F := c 6) (FL := FL) w1 (by omega) (by omega) (Wk_C w) w6
      obtain ⟨V, v1, vr⟩ := copy_now (M := M1) (N := N) (by omega) w1 w2 hx S
      have st := vr.1
      rw [w4.2.1] at st
      obtain ⟨b, M', ML', e1, e2, e3⟩ := m_laysA (f := 1) (N := N) (M := va_up M1 13 V) (ML := ML) w1 w2 (by omega) (by omega) (Wk_C w) (by rw [va_up_self]; exact st)
      have ps := pc_same (w := v = 0) (e3 z)
      have fin : Rel (va_up (va_up (va_up c 0 X') 2 J') 6 F') FL' M' ML' := Rel_kn h1 p1 w (fun a _ q2 q3 => l2 a q2 q3) l3 (fun a ha => by rw [e2 a (by omega) (by omega) (by omega) (by omega) (by omega) (by omega), va_up_ne _ _ (by omega)])
      rw [if_neg (show ¬ nI v < 0 from r1), if_pos r2, vi, bnd_s, if_n0 (by omega) (by omega), l1, bnd_s, v1, bnd_s, nm_s, e1, bnd_s]
      dsimp only
      rw [gdi_nI (by omega) (by omega), gdi_nI (by omega) (by omega), nI_clamp (by omega), l4, l5]
      by_cases e : v = 0
      · rw [if_e0 e, bnd_s, if_e0 e]
        rw [if_pos e, if_pos e] at ps
        dsimp only
        cases b with
        | true => rw [if_bT rfl] at ps ⊢; rw [ps]; exact ⟨_, _, rfl, rfl, rfl, fin⟩
        | false => rw [if_bF rfl] at ps ⊢; rw [ps]; exact ⟨_, _, rfl, rfl, rfl, fin⟩
      · rw [if_n0 e (by omega), bnd_s, if_n0 e (by omega)]
        rw [if_neg e, if_neg e] at ps
        dsimp only
        cases b with
        | true => rw [if_bT rfl] at ps ⊢; rw [ps]; exact ⟨_, _, rfl, rfl, rfl, fin⟩
        | false => rw [if_bF rfl] at ps ⊢; rw [ps]; exact ⟨_, _, rfl, rfl, rfl, fin⟩
    · rw [vi, bnd_s, if_e0 rfl]
      rcases v0 with v0 | v0
      · rw [if_pos (show a2 < 0 from v0), bnd_s]; exact ⟨_, _, rfl, rfl, rfl, same⟩
      · rw [if_neg (show ¬ a2 < 0 from v0.1), if_neg v0.2.2, bnd_s]; exact ⟨_, _, rfl, rfl, rfl, same⟩
