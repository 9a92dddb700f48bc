/-! cards, anew, undo -/
theorem c_forget {X : Rc} {N : Nat} (hN : 10 < N) : ∃ X', fX5_forgetPaces N X = some X' ∧ (∀ a, a ≠ 9 → X' a = X a) ∧ ∀ j, j < 6 → X' 9 j = nI 0 := by
  unfold fX5_forgetPaces
  rw [s_fill (show (6 : Nat) < 2 ^ 31 from by omega) (show 6 < N from by omega), bnd_s, nm_s]
  refine ⟨_, rfl, fun a ha => by rw [va_up_ne _ _ ha], fun j hj => ?_⟩
  rw [va_up_self, if_pos hj]
theorem KN_0 {p : Nx} {C : Nat → Nat} {X : Rc} (h : ∀ j, j < 6 → X 9 j = nI 0) : KN p C X := fun f _ f2 => Or.inl (h f (by omega))
theorem free_mv {p x : Nx} {l k : Nat} (hx : LI p x) (hl : l < p 7 0) (h : x 4 l ≤ sFree p x l + k) (hk : 1 ≤ k ∧ k ≤ 20) : LI p (up2 x 4 l k) := by
  obtain ⟨h1, h2, h3, h4, h5, h6, h7⟩ := hx
  refine ⟨?_, fun j hj => ?_, fun j hj => ?_, fun j hj => ?_, fun j hj => ?_, fun j => ?_, ?_⟩
  · rw [up2_ne (by omega)]; exact h1
  · rw [up2_if, up2_ne (by omega), up2_ne (by omega)]
    have := h2 j hj
    by_cases c : j = l
    · subst c
      unfold sFree at h
      rw [if_pos rfl]
      omega
    · rw [if_neg c]; exact this
  · rw [up2_ne (by omega), up2_ne (by omega), up2_ne (by omega)]; exact h3 j hj
  · rw [up2_ne (by omega), up2_ne (by omega)]; exact h4 j hj
  · rw [up2_ne (by omega), up2_ne (by omega), up2_ne (by omega), up2_ne (by omega)]; exact h5 j hj
  · rw [up2_ne (by omega), up2_ne (by omega), up2_ne (by omega), up2_ne (by omega)]; exact h6 j
  · rw [up2_ne (by omega), up2_ne (by omega), up2_ne (by omega)]; exact h7
theorem rel_card {p g x : Nx} {S : Nat → Int32} {l k : Nat} (hp : PI p) (hg : GI p g) (hx : LI p x) (hl : l < p 7 0) (h : x 4 l ≤ sFree p x l + k) (S0 : RelS p g x S) : RelS p g (up2 x 4 l k) (upd (upd S (15 + 4 * l + 2) (nI k)) (15 + 4 * l + 3) (nI (sFree p x l + k - x 4 l))) := by
  have hq := hp.q
  have hn := hp.n
  have h8 := hg.1
  have e7 : up2 x 4 l k 7 0 = x 7 0 := up2_ne (by omega)
  have xl := (hx.l hl).2.2
  refine ⟨⟨⟨?_, ?_, ?_, ?_⟩, fun j hj => ?_, fun j hj => ?_, fun r hr => ?_⟩, ⟨⟨?_, ?_, ?_, ?_, ?_⟩, fun j hj => ?_⟩, fun j hj => ?_⟩
  · simp (disch := omega) only [upd_ne]; exact S0.1.1.1
  · simp (disch := omega) only [upd_ne]; exact S0.1.1.2.1
  · simp (disch := omega) only [upd_ne]; exact S0.1.1.2.2.1
  · simp (disch := omega) only [upd_ne]; exact S0.1.1.2.2.2
  · simp (disch := omega) only [upd_ne]; exact S0.1.2.1 j hj
  · have q := S0.1.2.2.1 j hj
    rw [up2_if]
    by_cases c : j = l
    · subst c
      rw [if_pos rfl]
      simp (disch := omega) only [upd_ne, upd_eq]
      exact ⟨q.1, q.2.1, trivial⟩
    · rw [if_neg c]
      simp (disch := omega) only [upd_ne]
      exact q
  · rw [e7]; simp (disch := omega) only [upd_ne]; exact S0.1.2.2.2 r hr
  · rw [up2_ne (by omega)]; simp (disch := omega) only [upd_ne]; exact S0.2.1.1.1
  · rw [up2_ne (by omega)]; simp (disch := omega) only [upd_ne]; exact S0.2.1.1.2.1
  · rw [up2_ne (by omega)]; simp (disch := omega) only [upd_ne]; exact S0.2.1.1.2.2.1
  · rw [up2_ne (by omega)]; simp (disch := omega) only [upd_ne]; exact S0.2.1.1.2.2.2.1
  · rw [up2_ne (by omega)]; simp (disch := omega) only [upd_ne]; exact S0.2.1.1.2.2.2.2
  · have q := S0.2.1.2 j hj
    unfold sFree at q h ⊢
    rw [up2_if, up2_ne (by omega), up2_ne (by omega)]
    by_cases c : j = l
    · subst c
      rw [if_pos rfl, upd_eq rfl]
      congr 1
      omega
    · rw [if_neg c]
      simp (disch := omega) only [upd_ne]
      exact q
  · have D := S0.2.2 j hj
    have w20 := sWait_20 hp hx hj
    refine Dst.mv (S := S) w20 D (up2_ne (by omega)) (up2_ne (by omega)) (up2_ne (by omega)) e7 ?_ (fun _ _ _ _ => up2_ne (by omega)) (fun c hc => ?_) (fun c hc => ?_) (hx.k hj).1
    · unfold sWait
      rw [up2_ne (by omega), up2_ne (by omega)]
    · simp (disch := omega) only [upd_ne]
    · simp (disch := omega) only [upd_ne]
theorem card_id {p x : Nx} {l k : Nat} (hx : LZ p x) (hk : k ≤ x 4 l) : sRound p (up2 x 4 l k) = up2 x 4 l k := by
  apply round_id
  · intro j h1 h2 h3
    rw [up2_ne (by omega), up2_ne (by omega)] at h3
    rw [up2_ne (by omega), up2_ne (by omega)]
    exact hx.2.1 j h1 h2 h3
  · intro j h1 h2 h3
    rw [up2_ne (by omega), up2_ne (by omega)] at h3
    have nb := hx.2.2 j h1 h2 h3
    rw [Bool.eq_false_iff] at nb ⊢
    intro z
    apply nb
    rw [canB_iff] at z ⊢
    refine ⟨fun q => ?_, fun i hi q => ?_⟩
    · have := z.1 q
      rwa [up2_ne (by omega), up2_ne (by omega)] at this
    · have := z.2 i hi q
      rw [up2_ne (by omega), up2_if, up2_ne (by omega)] at this
      by_cases c : i = l
      · subst c; rw [if_pos rfl] at this; omega
      · rw [if_neg c] at this; exact this
theorem add_sub' (a b c : Nat) : nI a + (nI b - nI c) = nI (a + b) - nI c := by
  rw [Int32.sub_eq_add_neg, ← Int32.add_assoc, nI_add, ← Int32.sub_eq_add_neg]
theorem sub_0 {a b : Nat} (ha : a < 2 ^ 30) (hb : b < 2 ^ 30) : (nI a - nI b = 0) ↔ a = b := by
  constructor
  · intro h
    have := pk_sub_toInt ha hb
    rw [h] at this
    have z : (0 : Int32).toInt = 0 := by decide
    omega
  · intro h
    rw [h, nI_sub' (Nat.le_refl _), Nat.sub_self]
    rfl
theorem sub_le0 {a b : Nat} (ha : a < 2 ^ 30) (hb : b < 2 ^ 30) : (nI a - nI b ≤ 0) ↔ a ≤ b := by
  rw [Int32.le_iff_toInt_le, pk_sub_toInt ha hb]
  have z : (0 : Int32).toInt = 0 := by decide
  omega
theorem sub_ge0 {a b : Nat} (ha : a < 2 ^ 30) (hb : b < 2 ^ 30) : (0 ≤ nI a - nI b) ↔ b ≤ a := by
  rw [Int32.le_iff_toInt_le, pk_sub_toInt ha hb]
  have z : (0 : Int32).toInt = 0 := by decide
  omega
/-- the new state of an act that forgot the paces -/
theorem act11 {c : Nat → Rc} {FL : RcL} {M M' : Rc} {ML : RcL} {p g x' : Nx} {X' Y' : Rc} {K' : Nat → Rc} (h : Rel c FL M ML) (hp : c 1 = embP p) (w1 : PI p) (w2 : GI p g) (hX : X' 1 = c 0 1) (hk : KN p (x' 4) X') (hS : Lst p g x' (M' 11)) (hH : HRk p g Y' K' (M' 14) (M' 15 0)) (hM : ∀ a, a = 1 ∨ a = 2 ∨ a = 8 → M' a = M a) : Rel (va_up (va_up (va_up (va_up (va_up (va_up (va_up (va_up (va_up (va_up (va_up c 0 X') 5 (embL x')) 7 Y') 8 (K' 0)) 9 (K' 1)) 10 (K' 2)) 11 (K' 3)) 12 (K' 4)) 13 (K' 5)) 14 (K' 6)) 15 (K' 7)) FL M' ML := by
  refine Rel_act h hp w1 w2 (fun a ha => ?_) ?_ ?_ hS ?_ ?_ hM
  · rw [va_up_ne _ _ (by omega), va_up_ne _ _ (by omega), va_up_ne _ _ (by omega), va_up_ne _ _ (by omega), va_up_ne _ _ (by omega), va_up_ne _ _ (by omega), va_up_ne _ _ (by omega), va_up_ne _ _ (by omega), va_up_ne _ _ (by omega), va_up_ne _ _ (by omega), va_up_ne _ _ (by omega)]
  · rw [va_up_ne _ _ (by omega), va_up_ne _ _ (by omega), va_up_ne _ _ (by omega), va_up_ne _ _ (by omega), va_up_ne _ _ (by omega), va_up_ne _ _ (by omega), va_up_ne _ _ (by omega), va_up_ne _ _ (by omega), va_up_ne _ _ (by omega), va_up_ne _ _ (by omega), va_up_self, hX]
  · rw [va_up_ne _ _ (by omega), va_up_ne _ _ (by omega), va_up_ne _ _ (by omega), va_up_ne _ _ (by omega), va_up_ne _ _ (by omega), va_up_ne _ _ (by omega), va_up_ne _ _ (by omega), va_up_ne _ _ (by omega), va_up_ne _ _ (by omega), va_up_self]
  · rw [va_up_ne _ _ (by omega), va_up_ne _ _ (by omega), va_up_ne _ _ (by omega), va_up_ne _ _ (by omega), va_up_ne _ _ (by omega), va_up_ne _ _ (by omega), va_up_ne _ _ (by omega), va_up_ne _ _ (by omega), va_up_self]
    refine HRk_congr (fun i hi => ?_) hH
    rcases (show i = 0 ∨ i = 1 ∨ i = 2 ∨ i = 3 ∨ i = 4 ∨ i = 5 ∨ i = 6 ∨ i = 7 from by omega) with rfl | rfl | rfl | rfl | rfl | rfl | rfl | rfl <;> simp (disch := omega) only [va_up_ne, va_up_self, Nat.reduceAdd]
  · rw [va_up_ne _ _ (by omega), va_up_ne _ _ (by omega), va_up_ne _ _ (by omega), va_up_ne _ _ (by omega), va_up_ne _ _ (by omega), va_up_ne _ _ (by omega), va_up_ne _ _ (by omega), va_up_ne _ _ (by omega), va_up_ne _ _ (by omega), va_up_ne _ _ (by omega), va_up_self]
    exact hk
theorem same11 {c : Nat → Rc} : va_up (va_up (va_up (va_up (va_up (va_up (va_up (va_up (va_up (va_up (va_up c 0 (c 0)) 5 (c 5)) 7 (c 7)) 8 (c 8)) 9 (c 9)) 10 (c 10)) 11 (c 11)) 12 (c 12)) 13 (c 13)) 14 (c 14)) 15 (c 15) = c := by
  rw [va_id, va_id, va_id, va_id, va_id, va_id, va_id, va_id, va_id, va_id, va_id]
theorem SP18_ok {N : Nat} (hN : 100000 < N) : SP18 N Rel := by
  intro c FL M ML h a1 a2
  have h1 := Rel_0 (v := fun _ => nI 0) h
  unfold fX6_cards
  rw [nm_s]
  generalize va_up M 0 (fun _ => nI 0) = M1 at h1 ⊢
  obtain ⟨p, p1, b6, b7, s1, s14, hw⟩ := Rel_base h1
  have same := h1
  rw [← same11 (c := c)] at same
  unfold fX5_cards fX5_cards_19 fX5_cards_50 fX6_cards_23 fX6_cards_63
  rw [p1]
  rcases both_lp (ML := ML) (X := c 0) (x := a1) b7 s14 with ⟨l, hl, rfl, e1, e2⟩ | ⟨e1, e2⟩
  · rcases hw with z | ⟨g, x, w⟩
    · omega
    obtain ⟨w1, w2, w3, w4, w5, w6⟩ := id w
    have S := w4.2.2.2.1
    have x8 := w4.2.2.1
    have hx := w4.1
    have xl := hx.1.l hl
    have Sl := S.1.2.2.1 l hl
    have Dl := S.2.1.2 l hl
    have fb : sFree p x l < 2 ^ 29 := by
      have t := w1.l hl
      have a := hx.1.k (k := p 3 l) (by omega)
      unfold sFree
      omega
    rw [e1, e2, bnd_s, bnd_s, if_n0 (by omega) (by omega), if_n0 (by omega) (by omega)]
    rcases in_ab a2 (a := 1) (b := 20) (by omega) (by omega) with ⟨k, k1, k2, rfl, q1, q2, q3, ki⟩ | ⟨ki, k0⟩
    · rw [if_neg q1, if_pos q2, ki, bnd_s, if_n0 (by omega) (by omega), pk_mul, nI_add, nI_add, nI_add, gdi_nI (show 15 + 4 * l + 2 < 353 from by omega) (by omega), gdi_nI (show l < 5 from by omega) (by omega), nI_clamp (show l < 2 ^ 31 from by omega), nI_clamp (show 15 + 4 * l + 2 < 2 ^ 31 from by omega), nI_clamp (show 15 + 4 * l + 3 < 2 ^ 31 from by omega), show c 5 4 l = nI (x 4 l) from by rw [w3, embL_a (by omega)], Sl.2.2, nm_s, nm_s]
      by_cases c0 : k = x 4 l
      · rw [if_pos ((sub_0 (by omega) (by omega)).mpr c0), if_pos ((sub_0 (by omega) (by omega)).mpr c0)]
        exact ⟨_, _, rfl, rfl, rfl, same⟩
      · have fr : fX1_free (embP p) (c 5) (nI l) = some (nI (sFree p x l)) := by rw [w3]; exact s_free w1 hx.1 (by omega) hl
        rw [if_neg (fun z => c0 ((sub_0 (by omega) (by omega)).mp z)), if_neg (fun z => c0 ((sub_0 (by omega) (by omega)).mp z)), fr, bnd_s, gdi_nI (show 15 + 4 * l + 3 < 353 from by omega) (by omega), Dl, add_sub']
        by_cases cf : x 4 l ≤ sFree p x l + k
        · obtain ⟨Y', K', M2, k1', k2', k3', k4'⟩ := keep_snap (ML := ML) (N := N) (by omega) w
          have S2 : RelS p g x (M2 11) := by rw [k4' 11 (by omega) (by omega)]; exact S
          have Q2 : SumS p x (M2 11) := by rw [k4' 11 (by omega) (by omega)]; exact w4.2.2.2.2
          have lx := free_mv hx.1 hl cf ⟨k1, k2⟩
          have rc := rel_card w1 w2 hx.1 hl cf S2
          have Q3 : SumS p (up2 x 4 l k) (upd (upd (M2 11) (15 + 4 * l + 2) (nI k)) (15 + 4 * l + 3) (nI (sFree p x l + k - x 4 l))) := by
            intro j s j1 j2
            rw [up2_ne (by omega), upd_ne (by omega), upd_ne (by omega)]
            exact Q2 j s j1 j2
          have rd := s_round w1 (N := N) (by omega) lx (by rw [up2_ne (by omega)]; omega)
          have y8 : sRound p (up2 x 4 l k) 8 0 = x 8 0 := by rw [round_o (by omega), up2_ne (by omega)]
          have y7 : sRound p (up2 x 4 l k) 7 0 = x 7 0 := by rw [round_o (by omega), up2_ne (by omega)]
          have lz := LZ_round w1 lx
          have fr2 := s_free w1 lz.1 (by omega) hl
          obtain ⟨X', g1, g2, g3⟩ := c_forget (X := c 0) (N := N) (by omega)
          have m4 : M2 11 (15 + 4 * l + 3) = nI (sFree p x l) := S2.2.1.2 l hl
          rw [if_pos ((sub_ge0 (by omega) (by omega)).mpr cf), if_pos ((sub_ge0 (by omega) (by omega)).mpr cf), w3, k1', bnd_s, embL_up (by omega), gdi_nI (show l < 5 from by omega) (by omega), nm_s, rd, bnd_s, g1, bnd_s, fr2, bnd_s, k2', bnd_s, gdi_nI (show 15 + 4 * l + 2 < 353 from by omega) (by omega), nm_s, gdi_nI (show 15 + 4 * l + 3 < 353 from by omega) (by omega), gdi_nI (show 15 + 4 * l + 3 < 353 from by omega) (by omega), va_up_self, upd_ne (show 15 + 4 * l + 3 ≠ 15 + 4 * l + 2 from by omega), m4, add_sub', nI_sub' cf, bx_uu, nm_s]
          unfold fX6_cards_112
          rw [pk_mul, nI_add, nI_add, gdi_nI (show 15 + 4 * l + 3 < 353 from by omega) (by omega), nI_clamp (show 15 + 4 * l + 3 < 2 ^ 31 from by omega)]
          generalize hV : upd (upd (M2 11) (15 + 4 * l + 2) (nI k)) (15 + 4 * l + 3) (nI (sFree p x l + k - x 4 l)) = V at rc Q3 ⊢
          by_cases cm : k ≤ x 4 l
          · have id := card_id hx cm
            rw [if_pos ((sub_le0 (by omega) (by omega)).mpr cm), id, va_up_self]
            rw [id] at lz y8 y7
            refine ⟨_, _, rfl, rfl, by dsimp only; rw [rc.2.1.2 l hl], ?_⟩
            refine act11 h1 p1 w1 w2 (g2 1 (by omega)) (KN_0 g3) (x' := up2 x 4 l k) ⟨lz, by rw [y7]; exact w4.2.1, by rw [y8]; exact x8, ?_, ?_⟩ ?_ (fun a ha => ?_)
            · dsimp only; rw [va_up_self]; exact rc
            · dsimp only; rw [va_up_self]; exact Q3
            · dsimp only; rw [va_up_ne _ _ (by omega), va_up_ne _ _ (by omega)]; exact k3'
            · dsimp only; rw [va_up_ne _ _ (by omega), k4' a (by omega) (by omega)]
          · obtain ⟨T, t1, t2, t3⟩ := m_rounds (N := N) w1 w2 (by omega) lx (by rw [up2_ne (by omega)]; omega) rc
            rw [if_neg (fun z => cm ((sub_le0 (by omega) (by omega)).mp z)), va_up_self, t1, bnd_s]
            dsimp only
            rw [nm_s, bx_uu, va_up_self, gdi_nI (show 15 + 4 * l + 3 < 353 from by omega) (by omega)]
            refine ⟨_, _, rfl, rfl, by dsimp only; rw [t2.2.1.2 l hl], ?_⟩
            refine act11 h1 p1 w1 w2 (g2 1 (by omega)) (KN_0 g3) (x' := sRound p (up2 x 4 l k)) ⟨lz, by rw [y7]; exact w4.2.1, by rw [y8]; exact x8, ?_, ?_⟩ ?_ (fun a ha => ?_)
            · dsimp only; rw [va_up_self]; exact t2
            · dsimp only; rw [va_up_self]
              exact SumS.o (SumS.mv w1 Q3 t3) (fun i => round_o (by omega))
            · dsimp only; rw [va_up_ne _ _ (by omega), va_up_ne _ _ (by omega)]; exact k3'
            · dsimp only; rw [va_up_ne _ _ (by omega), k4' a (by omega) (by omega)]
        · rw [if_neg (fun z => cf ((sub_ge0 (by omega) (by omega)).mp z)), if_neg (fun z => cf ((sub_ge0 (by omega) (by omega)).mp z))]
          exact ⟨_, _, rfl, rfl, rfl, same⟩
    · rw [ki, bnd_s, if_e0 rfl]
      rcases k0 with k0 | k0
      · rw [if_pos k0]; exact ⟨_, _, rfl, rfl, rfl, same⟩
      · rw [if_neg k0.1, if_neg k0.2.2]; exact ⟨_, _, rfl, rfl, rfl, same⟩
  · rw [e1, e2, bnd_s, bnd_s, if_e0 rfl, if_e0 rfl]
    exact ⟨_, _, rfl, rfl, rfl, same⟩
theorem SP19_ok {N : Nat} (hN : 100000 < N) : SP19 N Rel := by
  intro c FL M ML h _
  have h1 := Rel_0 (v := fun _ => nI 0) h
  unfold fX6_anew
  rw [nm_s]
  generalize va_up M 0 (fun _ => nI 0) = M1 at h1 ⊢
  obtain ⟨p, p1, b6, b7, s1, s14, hw⟩ := Rel_base h1
  have same := h1
  rw [← same10 (c := c)] at same
  unfold fX5_anew
  rw [p1]
  rcases hw with z | ⟨g, x, w⟩
  · rw [empty_T z.1, there_F z.2.2, bnd_s, bnd_s, if_n0 (by omega) (by omega), if_e0 rfl]
    exact ⟨_, _, rfl, rfl, rfl, same⟩
  · obtain ⟨w1, w2, w3, w4, w5, w6⟩ := id w
    have S := w4.2.2.2.1
    obtain ⟨Y', K', M2, k1, k2, k3, k4⟩ := keep_snap (ML := ML) (N := N) (by omega) w
    have S2 : RelS p g x (M2 11) := by rw [k4 11 (by omega) (by omega)]; exact S
    have st := S2.1
    rw [w4.2.1] at st
    obtain ⟨T, t1, t2, t3⟩ := m_begins (x := x) (N := N) w1 w2 (by omega) (by omega) (Wk_C w) st
    have nw : fX1_startAnewl N (embP p) (embL x) (nI 1) = some (embL (sRound p (sClr x (x 4) 1))) := s_new (x := x) (C := x 4) (f := 1) w1 (N := N) (by omega) (by omega) (Wk_C w) (D := embL x 4) (fun l _ => embL_a (by omega))
    have sn := Stt_new (x := x) (C := x 4) (f := 1) w1 (by omega) (Wk_C w)
    have e4 : sRound p (sClr x (x 4) 1) 4 = x 4 := by
      funext i
      rw [round_o (by omega)]
      unfold sClr
      rw [if_pos rfl]
      split <;> rfl
    generalize sRound p (sClr x (x 4) 1) = x' at nw sn t2 t3 e4
    rw [empty_F w1, there_T S.1.1.1, bnd_s, bnd_s, if_e0 rfl, if_n0 (by omega) (by omega), w3, k1, bnd_s, nw, bnd_s, k2, bnd_s, t1, bnd_s, nm_s, va_up_self]
    unfold fX1_onTheirWay
    rw [s_out w1, bnd_s, bnd_s, embL_a (by omega), t2.2.1.1.2.1, t2.2.1.1.2.2.1]
    refine ⟨_, _, rfl, rfl, rfl, ?_⟩
    refine act10 h1 p1 w (x' := x') e4 ⟨sn.1, sn.2.2.2.1, by have := sn.2.1; omega, ?_, ?_⟩ ?_ (fun a ha => ?_)
    · dsimp only; rw [va_up_self]; exact t2
    · dsimp only; rw [va_up_self]; exact t3
    · dsimp only; rw [va_up_ne _ _ (by omega), va_up_ne _ _ (by omega)]; exact k3
    · dsimp only; rw [va_up_ne _ _ (by omega), k4 a (by omega) (by omega)]
theorem c_give {x : Nx} {Y : Rc} {c : Nat → Rc} {n d : Nat} {y : Nx} (hn : 1 ≤ n ∧ n ≤ 8) (hd : d < 8) (h1 : Y 1 0 = nI n) (h2 : Y 2 0 = nI d) (hy : c (8 + (d + 7) % 8) = embL y) : ∃ Y', fX0_giveBack (embL x) Y (c 8) (c 9) (c 10) (c 11) (c 12) (c 13) (c 14) (c 15) = some (embL (sCpy x y), Y') ∧ Y' 1 0 = nI (n - 1) ∧ Y' 2 0 = nI ((d + 7) % 8) := by
  have e2 : (nI d + nI 8 - nI 1) - (nI d + nI 8 - nI 1) / nI 8 * nI 8 = nI ((d + 7) % 8) := by
    rw [nI_add, nI_sub' (by omega), show d + 8 - 1 = d + 7 from by omega, nI_div (by omega) (by omega) (by omega), pk_mul, nI_subdiv]
  have y21 : va_up Y 2 (fun _ => nI ((d + 7) % 8)) 1 0 = nI n := by rw [va_up_ne _ _ (by omega)]; exact h1
  have f1 : va_up (va_up Y 2 (fun _ => nI ((d + 7) % 8))) 1 (fun _ => nI (n - 1)) 1 0 = nI (n - 1) := by rw [va_up_self]
  have f2 : va_up (va_up Y 2 (fun _ => nI ((d + 7) % 8))) 1 (fun _ => nI (n - 1)) 2 0 = nI ((d + 7) % 8) := by rw [va_up_ne _ _ (by omega), va_up_self]
  have eL := s_copy x y
  unfold fX0_giveBack
  rw [h1, if_le (by omega) (by omega), h2, e2, nm_s, y21, nI_sub' (by omega), nm_s]
  refine ⟨va_up (va_up Y 2 (fun _ => nI ((d + 7) % 8))) 1 (fun _ => nI (n - 1)), ?_, f1, f2⟩
  rw [f2]
  generalize hv : (d + 7) % 8 = v at *
  rcases (show v = 0 ∨ v = 1 ∨ v = 2 ∨ v = 3 ∨ v = 4 ∨ v = 5 ∨ v = 6 ∨ v = 7 from by omega) with rfl | rfl | rfl | rfl | rfl | rfl | rfl | rfl
  · rw [if_eq rfl, show c 8 = embL y from hy, eL, bnd_s]
  · rw [if_neq (by omega) (by omega) (by omega), if_eq rfl, show c 9 = embL y from hy, eL, bnd_s]
  · rw [if_neq (by omega) (by omega) (by omega), if_neq (by omega) (by omega) (by omega), if_eq rfl, show c 10 = embL y from hy, eL, bnd_s]
  · rw [if_neq (by omega) (by omega) (by omega), if_neq (by omega) (by omega) (by omega), if_neq (by omega) (by omega) (by omega), if_eq rfl, show c 11 = embL y from hy, eL, bnd_s]
  · rw [if_neq (by omega) (by omega) (by omega), if_neq (by omega) (by omega) (by omega), if_neq (by omega) (by omega) (by omega), if_neq (by omega) (by omega) (by omega), if_eq rfl, show c 12 = embL y from hy, eL, bnd_s]
  · rw [if_neq (by omega) (by omega) (by omega), if_neq (by omega) (by omega) (by omega), if_neq (by omega) (by omega) (by omega), if_neq (by omega) (by omega) (by omega), if_neq (by omega) (by omega) (by omega), if_eq rfl, show c 13 = embL y from hy, eL, bnd_s]
  · rw [if_neq (by omega) (by omega) (by omega), if_neq (by omega) (by omega) (by omega), if_neq (by omega) (by omega) (by omega), if_neq (by omega) (by omega) (by omega), if_neq (by omega) (by omega) (by omega), if_neq (by omega) (by omega) (by omega), if_eq rfl, show c 14 = embL y from hy, eL, bnd_s]
  · rw [if_neq (by omega) (by omega) (by omega), if_neq (by omega) (by omega) (by omega), if_neq (by omega) (by omega) (by omega), if_neq (by omega) (by omega) (by omega), if_neq (by omega) (by omega) (by omega), if_neq (by omega) (by omega) (by omega), if_neq (by omega) (by omega) (by omega), if_eq rfl, show c 15 = embL y from hy, eL, bnd_s]
theorem SP20_ok {N : Nat} (hN : 100000 < N) : SP20 N Rel := by
  intro c FL M ML h _
  have h1 := Rel_0 (v := fun _ => nI 0) h
  unfold fX6_undo
  rw [nm_s]
  generalize va_up M 0 (fun _ => nI 0) = M1 at h1 ⊢
  have same := h1
  rw [show c = va_up (va_up (va_up c 0 (c 0)) 5 (c 5)) 7 (c 7) from by rw [va_id, va_id, va_id]] at same
  unfold fX5_undo
  obtain ⟨_, _, _, p, p1, p2, h4⟩ := id h1
  rcases h4 with ⟨e1, e2, e3, e4⟩ | ⟨g, x, w⟩
  · rw [e3.1, e3.2.2, if_nle (by omega) (by omega), if_e0 rfl]
    exact ⟨_, _, rfl, rfl, rfl, same⟩
  · obtain ⟨w1, w2, w3, w4, ⟨n, d, r1, r2, r3, r4, r5, r6⟩, w6⟩ := id w
    rw [r3, r5]
    by_cases c0 : n = 0
    · rw [if_nle (by omega) (by omega), if_e0 c0]
      exact ⟨_, _, rfl, rfl, rfl, same⟩
    · obtain ⟨y, y1, y2⟩ := r6 0 (by omega)
      rw [Nat.sub_zero] at y1
      obtain ⟨Y', g1, g2, g3⟩ := c_give (x := x) (c := c) (y := y) (n := n) (d := d) (by omega) r2 r3 r4 y1
      obtain ⟨X', f1, f2, f3⟩ := c_forget (X := c 0) (N := N) (by omega)
      have cp := m_copy (nU := 2824) (nV := 353) (N := N) (a := 353 * (n - 1)) (b := 0) (by omega) (by omega) (by omega) (by omega) (by omega) (U := M1 14) (V := M1 11)
      have y2' : Lst p g y (fun j => if 0 ≤ j ∧ j < 0 + 353 then M1 14 (353 * (n - 1) + (j - 0)) else M1 11 j) := by
        refine Lst_eq w1 w2 (fun j hj => ?_) y2
        show (if 0 ≤ j ∧ j < 0 + 353 then M1 14 (353 * (n - 1) + (j - 0)) else M1 11 j) = M1 14 (353 * (n - 1 - 0) + j)
        rw [if_pos (by omega)]
        congr 1
      have fin := Lst_agr w1 (cpy_agr x y) (fun i hi => cpy_6 hi) y2'
      rw [if_le (by omega) (by omega), if_n0 c0 (by omega), w3, g1, bnd_s, f1, bnd_s, nm_s, nI_sub' (by omega), va_up_self, va_up_ne _ _ (show (14 : Nat) ≠ 15 from by omega), va_up_ne _ _ (show (11 : Nat) ≠ 15 from by omega), pk_mul, cp, bnd_s, nm_s]
      dsimp only
      rw [va_up_ne _ _ (show (15 : Nat) ≠ 11 from by omega), va_up_self, g2]
      refine ⟨_, _, rfl, rfl, rfl, ?_⟩
      refine Rel_act h1 p1 w1 w2 (fun a ha => ?_) ?_ (x' := sCpy x y) ?_ ?_ ⟨n - 1, (d + 7) % 8, by omega, by omega, ?_, ?_, ?_, fun i hi => ?_⟩ ?_ (fun a ha => ?_)
      · rw [va_up_ne _ _ (by omega), va_up_ne _ _ (by omega), va_up_ne _ _ (by omega)]
      · rw [va_up_ne _ _ (by omega), va_up_ne _ _ (by omega), va_up_self]; dsimp only; rw [f2 1 (by omega)]
      · rw [va_up_ne _ _ (by omega), va_up_self]
      · dsimp only; rw [va_up_self]; exact fin
      · rw [va_up_self]; exact g2
      · rw [va_up_self]; exact g3
      · dsimp only; rw [va_up_ne _ _ (by omega), va_up_self]
      · obtain ⟨y', q1, q2⟩ := r6 (i + 1) (by omega)
        refine ⟨y', ?_, ?_⟩
        · dsimp only
          rw [va_up_ne _ _ (by omega), va_up_ne _ _ (by omega), va_up_ne _ _ (by omega), show ((d + 7) % 8 + 7 - i) % 8 = (d + 7 - (i + 1)) % 8 from by omega]
          exact q1
        · dsimp only
          rw [va_up_ne _ _ (by omega), va_up_ne _ _ (by omega), show n - 1 - 1 - i = n - 1 - (i + 1) from by omega]
          exact q2
      · rw [va_up_ne _ _ (by omega), va_up_ne _ _ (by omega), va_up_self]; exact KN_0 f3
      · dsimp only; rw [va_up_ne _ _ (by omega), va_up_ne _ _ (by omega)]
