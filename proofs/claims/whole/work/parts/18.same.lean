/-! like looks, like rows -/
theorem kds_shf {p x y : Nx} {D : Nat} (h7 : y 7 0 = x 7 0) (hk : ∀ m, sKind p (x 7 0) (m + D) = sKind p (x 7 0) m) : ∀ {w m : Nat}, kds p y (m + D) w = kds p x m w
  | 0, _ => rfl
  | w + 1, m => by
    have i := kds_shf (w := w) (m := m + 1) h7 hk
    rw [show m + 1 + D = m + D + 1 from by omega] at i
    rw [kds, kds, i, h7, hk]
theorem frs_shf {p x y : Nx} {D : Nat} (hp : PI p) (h : Shf p x y D) (h4 : ∀ l, l < p 7 0 → y 4 l = x 4 l) : ∀ {d l : Nat}, l + d = p 7 0 → frs p y l d = frs p x l d
  | 0, _, _ => rfl
  | d + 1, l, e => by
    have a := hp.l (l := l) (by omega)
    have b := h.1 (p 2 l) (by omega)
    have c := h.1 (p 3 l) (by omega)
    have f := h4 l (by omega)
    rw [frs, frs, frs_shf hp h h4 (d := d) (l := l + 1) (by omega)]
    congr 2
    unfold sFree
    omega
theorem row_shf {p x y : Nx} {D : Nat} (hp : PI p) (hx : LZ p x) (hy : LZ p y) (h : Shf p x y D) (h7 : y 7 0 = x 7 0) (h4 : ∀ l, l < p 7 0 → y 4 l = x 4 l) (ho : 1 ≤ x 2 (p 6 0 - 1)) : ∀ {d l : Nat}, l + d = p 6 0 → rowF p y l d = rowF p x l d
  | 0, _, _ => by rw [rowF, rowF, frs_shf hp h h4 (by omega), h.2]
  | d + 1, l, e => by
    have hn6 := hp.n
    have a := h.1 l (by omega)
    have a0 := h.1 0 (by omega)
    have hk : ∀ m, sKind p (x 7 0) (m + D) = sKind p (x 7 0) m := by
      intro m
      have f1 := hx.1.f
      have pl := h.2
      refine kind_shift (a := x 1 0) f1.1 (fun z => ?_) m
      unfold place at pl
      rw [h7, if_neg z, if_neg z, a0.1] at pl
      exact pl.symm
    have i := row_shf hp hx hy h h7 h4 ho (d := d) (l := l + 1) (by omega)
    have mo := hx.1.mono' (j := p 6 0 - 1) (k := l) (by omega) (by omega)
    rw [rowF, rowF, i]
    congr 1
    unfold stR
    have w := a.2.2.2
    have e1 : eL y l = eL x l := by
      have q := a.2.2.1
      unfold left at q
      unfold eL
      by_cases c : x 1 l = x 2 l
      · rw [if_pos c, if_pos (by omega)]
      · rw [if_neg c, if_neg (by omega)] at q
        rw [if_neg c, if_neg (by omega)]
        exact congrArg nI q
    have e2 : eS p y l = eS p x l := by
      have q := a.2.2.1
      unfold left at q
      unfold eS
      by_cases c : x 1 l = x 2 l
      · rw [if_pos c, if_pos (by omega)]
      · have b1 := hx.1.e (by omega) c
        have b2 := hy.1.e (k := l) (by omega) (by omega)
        rw [if_neg (by omega), if_neg c] at q
        rw [if_neg (by omega), if_neg c]
        exact congrArg nI (by omega)
    have e3 : eK p y l = eK p x l := by
      unfold eK
      by_cases c : x 1 l = x 2 l
      · rw [if_pos c, if_pos (by omega)]
      · have b1 := hx.1.k (k := l) (by omega)
        rw [if_neg c, if_neg (by omega), h7, show y 1 l - 1 = x 1 l - 1 + D from by omega, hk]
    have e4 : eB p y l = eB p x l := by
      unfold eB
      rw [if_neg (by omega), if_neg (by omega), h7, show y 2 l - 1 = x 2 l - 1 + D from by omega, hk]
    rw [e1, e2, e3, e4, w, a.1, kds_shf h7 hk]
theorem kE_row {p x y : Nx} {D : Nat} (hp : PI p) (hx : LZ p x) (hy : LZ p y) (h7 : y 7 0 = x 7 0) (h4 : ∀ l, l < p 7 0 → y 4 l = x 4 l) (ho : 1 ≤ x 2 (p 6 0 - 1)) (hD : y 2 (p 6 0 - 1) = x 2 (p 6 0 - 1) + D) : kE p x y = true ↔ ∀ i, i < 58 → rw0 p x i = rw0 p y i := by
  constructor
  · intro h i _
    unfold rw0
    rw [row_shf hp hx hy (kE_shf hp hx hy hD h) h7 h4 ho (by omega)]
  · intro h
    have l1 := row_len hp hx.1
    have l2 := row_len hp hy.1
    have r := rowF_dec hp hx hy (d := p 6 0) (l := 0) (by omega) (by
      intro i
      by_cases c : i < 58
      · exact h i c
      · rw [getD_over (by omega), getD_over (by omega)])
    apply kE_iff.mpr
    unfold bz qz
    rw [r.2, bzF_congr (y := y) (fun k h1 h2 => (r.1 k h1 (by omega)).1), qzF_congr (y := y) (fun k h1 h2 => (r.1 k h1 (by omega)).2)]
    exact ⟨rfl, rfl⟩
theorem m_isMet {p xa xb : Nx} {M : Rc} {ML : RcL} {N a b : Nat} (hN : 100 < N) (ha : a < 1500) (hb : b < 1500) (hf : ∀ i, i < 58 → M 16 (58 * a + i) = rw0 p xa i) (hg : ∀ i, i < 58 → M 16 (58 * b + i) = rw0 p xb i) (sa : ML 18 a = smF (rw0 p xa) 0 58 7) (sb : ML 18 b = smF (rw0 p xb) 0 58 7) (h : kE p xa xb = true ↔ ∀ i, i < 58 → rw0 p xa i = rw0 p xb i) : fX6_isMet N M ML (nI a) (nI b) = some (bI (kE p xa xb)) := by
  have cm := m_cmp (ML := ML) (N := N) ha hb hf hg (d := 58) (i := 0) (u := N) (by omega) (by omega)
  have ci := cmF_iff (f := rw0 p xa) (g := rw0 p xb) (d := 58) (i := 0)
  have e : cmF (rw0 p xa) (rw0 p xb) 0 58 = kE p xa xb := by
    rw [Bool.eq_iff_iff, ci, h]
    exact ⟨fun q i hi => q i (by omega) (by omega), fun q j _ hj => q j (by omega)⟩
  unfold fX6_isMet
  rw [gdi_nI ha (by omega), gdi_nI hb (by omega), nI_clamp (by omega), nI_clamp (by omega)]
  by_cases c : ML 18 a = ML 18 b
  · rw [if_pos (by rw [lg_cmp_eq]; exact c), nm_s]
    unfold fX6_isMet_20
    rw [cm, e]
  · rw [if_neg (by rw [lg_cmp_eq]; exact c)]
    have : kE p xa xb = false := by
      rw [Bool.eq_false_iff]
      intro z
      apply c
      rw [sa, sb]
      exact smF_congr (fun j _ hj => h.mp z j (by omega))
    rw [this]
    rfl
/-! the model's pace -/
def MI (p x : Nx) (n : Nat) (M : Rc) (ML : RcL) : Prop := ∀ j, j < n → (∀ i, i < 58 → M 16 (58 * j + i) = rw0 p (pre p x (j + 1)) i) ∧ M 17 j = nI (pre p x (j + 1) 8 0) ∧ ML 18 j = smF (rw0 p (pre p x (j + 1))) 0 58 7
theorem m_lp51 {p x : Nx} {C : Nat → Nat} {f : Nat} (hp : PI p) (h : Stt p C f x) {n N : Nat} (hn : n < 1500) (hN : 100 < N) {M : Rc} {ML : RcL} (hM : MI p x (n + 1) M ML) {K : Rc → RcL → Int32 → Option (Int32 × (Rc × RcL))} : ∀ {m u : Nat}, m < u → m ≤ n → itn (fX6_laysPace_51b N K) (fun _ _ _ _ => none) u M ML (nI n) (dI m) = match lastEq p x n m with
    | some k => some (nI 1, (va_up (va_up M 19 (fun _ => nI ((n - k) / pcD p x k n))) 20 (fun _ => nI ((pre p x (n + 1) 8 0 - pre p x (k + 1) 8 0) / pcD p x k n)), ML))
    | none => K M ML (nI (n + 1))
  | _, 0, h, _ => by omega
  | 0, u + 1, _, _ => by
    rw [itn_s]
    unfold fX6_laysPace_51b lastEq
    rw [dI_0, if_pos (by decide), nI_add, nm_s]
  | m + 1, u + 1, hu, hm => by
    have pm := pre_ok hp h (n := m + 1) (by omega)
    have pn := pre_ok hp h (n := n + 1) (by omega)
    have i := m_lp51 hp h hn hN hM (K := K) (m := m) (u := u) (by omega) (by omega)
    have a := hM m (by omega)
    have b := hM n (by omega)
    have mt := m_isMet (p := p) (xa := pre p x (m + 1)) (xb := pre p x (n + 1)) (N := N) hN (by omega) hn a.1 b.1 a.2.2 b.2.2 (kE_row (D := n - m) hp pm.1 pn.1 (by rw [pm.2.2.2.1, pn.2.2.2.1]) (fun l hl => by rw [pm.2.2.2.2 l hl, pn.2.2.2.2 l hl]) (by rw [pm.2.1]; omega) (by rw [pm.2.1, pn.2.1]; omega))
    rw [itn_s, dI_s]
    generalize itn (fX6_laysPace_51b N K) (fun _ _ _ _ => none) u = K2 at i ⊢
    unfold fX6_laysPace_51b
    rw [if_l0 (by omega), mt, bnd_s]
    unfold lastEq
    by_cases c : kE p (pre p x (m + 1)) (pre p x (n + 1)) = true
    · have tt := pre_time hp h (d := n - m) (m := m + 1) (by omega)
      rw [show m + 1 + (n - m) = n + 1 from by omega] at tt
      have gp : 0 < pcD p x m n := Nat.gcd_pos_of_pos_left _ (by omega)
      have gl : pcD p x m n ≤ n - m := Nat.le_of_dvd (by omega) (Nat.gcd_dvd_left _ _)
      have cd := m_gcd (a := n - m) (b := pre p x (n + 1) 8 0 - pre p x (m + 1) 8 0) (by omega) (by omega)
      rw [show Nat.gcd (n - m) (pre p x (n + 1) 8 0 - pre p x (m + 1) 8 0) = pcD p x m n from rfl] at cd
      rw [if_bT c, if_pos c, gdi_nI hn (by omega), gdi_nI (by omega) (by omega), nI_clamp (by omega), nI_clamp (by omega), b.2.1, a.2.1, nI_sub' (by omega), nI_sub' (by omega), cd, bnd_s, nm_s, gdz_nI gp (by omega), nI_div (by omega) gp (by omega), nm_s, gdi_nI hn (by omega), gdi_nI (by omega) (by omega), gdz_nI gp (by omega), va_up_ne _ _ (show (17 : Nat) ≠ 19 from by omega), b.2.1, a.2.1, nI_sub' (by omega), nI_div (by omega) gp (by omega), nm_s]
    · rw [if_bF (Bool.eq_false_iff.mpr c), if_neg c, dI_f, nm_s, i]
theorem m_lp16 {p g : Nx} {n N : Nat} (hp : PI p) (hg : GI p g) (hN : 100 < N) (hn : n < 1500) {ML : RcL} {K : Rc → RcL → Int32 → Option (Int32 × (Rc × RcL))} : ∀ {d u : Nat} {y : Nx} {M : Rc}, LZ p y → RelS p g y (M 13) → (y 2 (p 6 0 - 1) = n → sumD y n (p 6 0 - 1) < d) → (y 2 (p 6 0 - 1) = n ∨ y 2 (p 6 0 - 1) = n + 1) → y 8 0 + 120 * d < 2 ^ 29 → d < u → ∃ M', (∀ a, a ≠ 13 → M' a = M a) ∧ RelS p g (leapN p n d y) (M' 13) ∧ itn (fX6_laysPace_16b N K) (fun _ _ _ => none) u M ML (nI n) = bnd (fX6_meets N M' ML (nI n)) (fun z1 => nm (nI n - nI 1) (fun v2 => fX6_laysPace_51 N K z1.1 z1.2 (nI n) v2))
  | _, 0, _, _, _, _, _, _, _, h => by omega
  | d, u + 1, y, M, hy, hr, h1, h2, h3, hu => by
    have hn6 := hp.n
    have s49 := hr.2.1.1.2.1
    by_cases c : y 2 (p 6 0 - 1) = n
    · obtain ⟨e, rfl⟩ : ∃ e, d = e + 1 := ⟨d - 1, by have := h1 c; omega⟩
      obtain ⟨T, t1, t2⟩ := m_step hp hg hN hy (by omega) hr
      have so := step_out hp c
      have z := LZ_step hp hy (by omega)
      have b := sNext_b hp hy (by omega)
      have r := m_lp16 hp hg hN hn (ML := ML) (K := K) (d := e) (u := u) (y := sStep p y) (M := va_up M 13 T) z (by rw [va_up_self]; exact t2) (fun q => by have := sumD_step hp hy (by omega) c q; have := h1 c; omega) so (by rw [step_8]; omega) (by omega)
      obtain ⟨M', r1, r2, r3⟩ := r
      refine ⟨M', fun a ha => by rw [r1 a ha, va_up_ne _ _ ha], by rw [leapN_go c]; exact r2, ?_⟩
      rw [itn_s]
      generalize itn (fX6_laysPace_16b N K) (fun _ _ _ => none) u = K2 at r3 ⊢
      unfold fX6_laysPace_16b
      rw [s49, if_nlt (by omega) (by omega), t1, bnd_s, nm_s, r3]
    · refine ⟨M, fun _ _ => rfl, by rw [leapN_stop c]; exact hr, ?_⟩
      rw [itn_s]
      unfold fX6_laysPace_16b
      rw [s49, if_lt (by omega) (by omega)]
theorem m_lp9 {p g x : Nx} {C : Nat → Nat} {f : Nat} (hp : PI p) (hg : GI p g) (h : Stt p C f x) {N : Nat} (hN : 1600 < N) : ∀ {d n u : Nat} {M : Rc} {ML : RcL}, d < u → n + d = 1500 → MI p x n M ML → RelS p g (pre p x n) (M 13) → ∃ b M' ML', itn (fX6_laysPace_9b N) (fun _ _ _ => none) u M ML (nI n) = some (bI b, (M', ML')) ∧ (∀ a, a ≠ 13 → a ≠ 16 → a ≠ 17 → a ≠ 19 → a ≠ 20 → a ≠ 21 → M' a = M a) ∧ (paceAt p x d n = none → b = false) ∧ ∀ o, paceAt p x d n = some o → b = true ∧ M' 19 0 = pcP p x (some o) ∧ M' 20 0 = pcM p x (some o)
  | _, _, 0, _, _, h, _, _, _ => by omega
  | 0, n, u + 1, M, ML, _, e, _, _ => by
    refine ⟨false, M, ML, ?_, fun _ _ _ _ _ _ _ => rfl, fun _ => rfl, fun o ho => by cases ho⟩
    rw [itn_s]
    unfold fX6_laysPace_9b
    rw [if_le (by omega) (by omega)]
    rfl
  | d + 1, n, u + 1, M, ML, hu, e, hM, hr => by
    have pn := pre_ok hp h (n := n) (by omega)
    have pn1 := pre_ok hp h (n := n + 1) (by omega)
    obtain ⟨M1, a1, a2, a3⟩ := m_lp16 (N := N) hp hg (by omega) (show n < 1500 from by omega) (ML := ML) (K := itn (fX6_laysPace_9b N) (fun _ _ _ => none) u) (d := 102) (u := N) (y := pre p x n) (M := M) pn.1 hr (fun q => by have := sumD_100 hp pn.1; rw [q] at this; omega) (Or.inl pn.2.1) (by omega) (by omega)
    rw [show leapN p n 102 (pre p x n) = pre p x (n + 1) from by show _ = leapN p (pre p x n 2 (p 6 0 - 1)) 102 (pre p x n); rw [pn.2.1]] at a2
    obtain ⟨M2, b1, b2, b3, b4, b5⟩ := m_meets (ML := ML) (N := N) hp hg pn1.1.1 (by omega) (show n < 1500 from by omega) (by omega) a2
    generalize hL2 : va_up ML 18 (vp_updL (ML 18) n (smF (rw0 p (pre p x (n + 1))) 0 58 7)) = ML2 at b1
    have hM2 : MI p x (n + 1) M2 ML2 := by
      intro j hj
      by_cases c : j = n
      · subst c
        refine ⟨b4, ?_, ?_⟩
        · rw [b3, upd_eq rfl]
        · rw [← hL2, va_up_self, pk_uLs]
      · have q := hM j (by omega)
        refine ⟨fun i hi => ?_, ?_, ?_⟩
        · rw [b5 _ (by omega), a1 16 (by omega)]; exact q.1 i hi
        · rw [b3, upd_ne c, a1 17 (by omega)]; exact q.2.1
        · rw [← hL2, va_up_self, pk_uLn c]; exact q.2.2
    have o2 : ∀ a, a ≠ 13 → a ≠ 16 → a ≠ 17 → a ≠ 21 → M2 a = M a := fun a h1 h2 h3 h4 => (b2 a h2 h3 h4).trans (a1 a h1)
    have lp := m_lp51 hp h (N := N) (show n < 1500 from by omega) (by omega) hM2 (K := itn (fX6_laysPace_9b N) (fun _ _ _ => none) u) (m := n) (u := N) (by omega) (Nat.le_refl _)
    rw [itn_s]
    have st : fX6_laysPace_9b N (itn (fX6_laysPace_9b N) (fun _ _ _ => none) u) M ML (nI n) = itn (fX6_laysPace_51b N (itn (fX6_laysPace_9b N) (fun _ _ _ => none) u)) (fun _ _ _ _ => none) N M2 ML2 (nI n) (dI n) := by
      generalize itn (fX6_laysPace_9b N) (fun _ _ _ => none) u = K at a3 ⊢
      unfold fX6_laysPace_9b
      rw [if_nle (by omega) (by omega)]
      unfold fX6_laysPace_16
      rw [a3, b1, bnd_s, nm_s]
      unfold fX6_laysPace_51
      rw [show nI n - nI 1 = dI n from by unfold dI; rw [Int32.sub_eq_add_neg]; rfl]
    rw [st, lp]
    unfold paceAt
    cases le : lastEq p x n n with
    | none =>
      simp only
      obtain ⟨b, M', ML', c1, c2, c3, c4⟩ := m_lp9 hp hg h hN (d := d) (n := n + 1) (u := u) (M := M2) (ML := ML2) (by omega) (by omega) hM2 (by rw [b2 13 (by omega) (by omega) (by omega)]; exact a2)
      exact ⟨b, M', ML', c1, fun a h1 h2 h3 h4 h5 h6 => (c2 a h1 h2 h3 h4 h5 h6).trans (o2 a h1 h2 h3 h6), c3, c4⟩
    | some k =>
      simp only
      refine ⟨true, _, _, rfl, fun a h1 h2 h3 h4 h5 h6 => ?_, fun z => (by cases z), fun o ho => ?_⟩
      · rw [va_up_ne _ _ h5, va_up_ne _ _ h4]
        exact o2 a h1 h2 h3 h6
      · cases ho
        refine ⟨rfl, ?_, ?_⟩
        · rw [va_up_ne _ _ (by omega), va_up_self]; rfl
        · rw [va_up_self]; rfl
theorem m_lays {p g x : Nx} {C : Nat → Nat} {f N : Nat} {M : Rc} {ML : RcL} (hp : PI p) (hg : GI p g) (hN : 1600 < N) (hf : 1 ≤ f ∧ f ≤ 5) (hC : ∀ l, l < p 7 0 → 1 ≤ C l ∧ C l ≤ 20) (h : Stat p g C f (M 13)) : ∃ b M' ML', fX6_laysPace N M ML = some (bI b, (M', ML')) ∧ (∀ a, a ≠ 13 → a ≠ 16 → a ≠ 17 → a ≠ 19 → a ≠ 20 → a ≠ 21 → M' a = M a) ∧ (paceAt p (sRound p (sClr x C f)) 1500 0 = none → b = false) ∧ ∀ o, paceAt p (sRound p (sClr x C f)) 1500 0 = some o → b = true ∧ M' 19 0 = pcP p (sRound p (sClr x C f)) (some o) ∧ M' 20 0 = pcM p (sRound p (sClr x C f)) (some o) := by
  obtain ⟨T, t1, t2, _⟩ := m_begins (x := x) hp hg (N := N) (by omega) hf hC h
  have st := Stt_new (x := x) hp hf hC
  generalize sRound p (sClr x C f) = x0 at t2 st ⊢
  obtain ⟨b, M', ML', c1, c2, c3, c4⟩ := m_lp9 (ML := ML) hp hg st hN (d := 1500) (n := 0) (u := N) (M := va_up M 13 T) (by omega) (by omega) (fun j hj => by omega) (by rw [va_up_self]; exact t2)
  refine ⟨b, M', ML', ?_, fun a h1 h2 h3 h4 h5 h6 => ?_, c3, c4⟩
  · unfold fX6_laysPace
    rw [t1, bnd_s, nm_s, nm_s]
    unfold fX6_laysPace_9
    exact c1
  · rw [c2 a h1 h2 h3 h4 h5 h6, va_up_ne _ _ h1]
