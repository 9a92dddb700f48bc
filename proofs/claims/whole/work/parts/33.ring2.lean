/-! rings: needs, bound -/
theorem tmS_s {p : Nx} {a d : Nat} : tmS' p a (d + 1) = tmS' p a d + p 0 (a + d) := rfl
theorem tmS_le {p : Nx} (hp : PI p) {a : Nat} : ∀ {d : Nat}, a + d ≤ p 6 0 → tmS' p a d ≤ 60 * d ∧ d ≤ tmS' p a d
  | 0, _ => ⟨Nat.le_refl _, Nat.le_refl _⟩
  | d + 1, h => by
    have i := tmS_le hp (a := a) (d := d) (by omega)
    have k := hp.k (k := a + d) (by omega)
    rw [tmS_s]
    omega
/-- minutes and cards of rings by numbers: LOOPS, behind them STATIONS -/
def rgA (p : Nx) (r : Nat) : Nat := if r < p 7 0 then p 2 r else r - p 7 0
def rgD (p : Nx) (r : Nat) : Nat := if r < p 7 0 then p 3 r - p 2 r else 0
def rgM (p : Nx) (r : Nat) : Nat := tmS' p (rgA p r) (rgD p r + 1)
def rgC (p : Nx) (C : Nat → Nat) (r : Nat) : Nat := if r < p 7 0 then C r else 1
theorem rg_b {p : Nx} (hp : PI p) {r : Nat} (hr : r < p 7 0 + p 6 0) : rgA p r + rgD p r < p 6 0 ∧ 1 ≤ rgM p r ∧ rgM p r ≤ 360 := by
  have hn := hp.n
  have b : rgA p r + rgD p r < p 6 0 := by
    unfold rgA rgD
    by_cases c : r < p 7 0
    · have := hp.l c
      rw [if_pos c, if_pos c]
      omega
    · rw [if_neg c, if_neg c]
      omega
  have t := tmS_le hp (a := rgA p r) (d := rgD p r + 1) (by omega)
  unfold rgM
  omega
theorem rg_Rng {p : Nx} (hp : PI p) {C : Nat → Nat} {r : Nat} (hr : r < p 7 0 + p 6 0) : Rng p C (rgA p r) (rgD p r) (rgC p C r) := by
  refine ⟨(rg_b hp hr).1, ?_⟩
  unfold rgA rgD rgC
  by_cases c : r < p 7 0
  · have := hp.l c
    rw [if_pos c, if_pos c, if_pos c]
    exact Or.inr ⟨r, c, rfl, by omega, rfl⟩
  · rw [if_neg c, if_neg c, if_neg c]
    exact Or.inl ⟨rfl, rfl⟩
theorem c_rm41 {p : Nx} (hp : PI p) {X : Rc} {N l : Nat} (hl : l < p 7 0) : ∀ {d e u : Nat}, d < u → e + d = p 3 l + 1 - p 2 l → itn (fX5_ringMinutes_41b N) (fun _ _ _ _ _ => none) u X (embP p) (nI l) (nI (tmS' p (p 2 l) e)) (nI (p 2 l + e)) = some (nI (tmS' p (p 2 l) (p 3 l + 1 - p 2 l)))
  | _, _, 0, h, _ => by omega
  | 0, e, u + 1, _, h => by
    have hn := hp.n
    have hq := hp.q
    have h3 := hp.l hl
    rw [itn_s]
    unfold fX5_ringMinutes_41b
    rw [gdi_nI (by omega) (by omega), nI_clamp (by omega), embP_a, if_lt (by omega) (by omega), show e = p 3 l + 1 - p 2 l from by omega]
  | d + 1, e, u + 1, hu, h => by
    have hn := hp.n
    have hq := hp.q
    have h3 := hp.l hl
    have i := c_rm41 hp (X := X) (N := N) hl (d := d) (e := e + 1) (u := u) (by omega) (by omega)
    rw [itn_s]
    generalize itn (fX5_ringMinutes_41b N) (fun _ _ _ _ _ => none) u = K at i ⊢
    unfold fX5_ringMinutes_41b
    rw [gdi_nI (by omega) (by omega), nI_clamp (by omega), embP_a, if_nlt (by omega) (by omega), gdi_nI (by omega) (by omega), nI_clamp (by omega), embP_a, nI_add, nm_s, nI_add, nm_s]
    exact i
theorem c_rm {p : Nx} (hp : PI p) {X : Rc} {N r : Nat} (hN : 100 < N) (hr : r < p 7 0 + p 6 0) : fX5_ringMinutes N X (embP p) (nI r) = some (nI (rgM p r)) := by
  have hn := hp.n
  have hq := hp.q
  unfold fX5_ringMinutes rgM rgA rgD
  by_cases c : r < p 7 0
  · have h3 := hp.l c
    have i := c_rm41 hp (X := X) (N := N) c (d := p 3 r + 1 - p 2 r) (e := 0) (u := N) (by omega) (by omega)
    rw [Nat.add_zero] at i
    rw [embP_a, if_lt c (by omega), nm_s, gdi_nI (by omega) (by omega), nI_clamp (by omega), embP_a, nm_s, if_pos c, if_pos c, show p 3 r - p 2 r + 1 = p 3 r + 1 - p 2 r from by omega]
    unfold fX5_ringMinutes_41
    exact i
  · rw [embP_a, if_nlt (by omega) (by omega), nI_sub' (by omega), gdi_nI (by omega) (by omega), nI_clamp (by omega), embP_a, if_neg c, if_neg c]
    show _ = some (nI (0 + p 0 (r - p 7 0 + 0)))
    rw [Nat.zero_add, Nat.add_zero]
theorem m_rg14 {p g : Nx} {C : Nat → Nat} {f : Nat} (hp : PI p) {M : Rc} {ML : RcL} {N l : Nat} (hS : Stat p g C f (M 11)) (hl : l < p 7 0) : ∀ {d e u : Nat}, d < u → e + d = p 3 l + 1 - p 2 l → itn (fX6_ringOf_14b N) (fun _ _ _ _ _ => none) u M ML (nI l) (nI (tmS' p (p 2 l) e)) (nI (p 2 l + e)) = some (nI (tmS' p (p 2 l) (p 3 l + 1 - p 2 l)))
  | _, _, 0, h, _ => by omega
  | 0, e, u + 1, _, h => by
    have hn := hp.n
    have hq := hp.q
    have h3 := hp.l hl
    have s := hS.2.2.1 l hl
    rw [itn_s]
    unfold fX6_ringOf_14b
    rw [pk_mul, nI_add, nI_add, gdi_nI (by omega) (by omega), nI_clamp (by omega), s.2.1, if_lt (by omega) (by omega), show e = p 3 l + 1 - p 2 l from by omega]
  | d + 1, e, u + 1, hu, h => by
    have hn := hp.n
    have hq := hp.q
    have h3 := hp.l hl
    have s := hS.2.2.1 l hl
    have k := hS.2.1 (p 2 l + e) (by omega)
    have i := m_rg14 hp (ML := ML) (N := N) hS hl (d := d) (e := e + 1) (u := u) (by omega) (by omega)
    rw [itn_s]
    generalize itn (fX6_ringOf_14b N) (fun _ _ _ _ _ => none) u = K at i ⊢
    unfold fX6_ringOf_14b
    rw [pk_mul, nI_add, nI_add, gdi_nI (by omega) (by omega), nI_clamp (by omega), s.2.1, if_nlt (by omega) (by omega), nI_add, gdi_nI (by omega) (by omega), nI_clamp (by omega), k.1, nI_add, nm_s, nI_add, nm_s]
    exact i
theorem m_rg {p g : Nx} {C : Nat → Nat} {f : Nat} (hp : PI p) {M : Rc} {ML : RcL} {N l : Nat} (hN : 100 < N) (hS : Stat p g C f (M 11)) (hl : l < p 7 0) : fX6_ringOf N M ML (nI l) = some (nI (rgM p l)) := by
  have hn := hp.n
  have hq := hp.q
  have h3 := hp.l hl
  have s := hS.2.2.1 l hl
  have i := m_rg14 hp (ML := ML) (N := N) hS hl (d := p 3 l + 1 - p 2 l) (e := 0) (u := N) (by omega) (by omega)
  rw [Nat.add_zero] at i
  unfold fX6_ringOf rgM rgA rgD
  rw [nm_s, pk_mul, nI_add, gdi_nI (by omega) (by omega), nI_clamp (by omega), s.1, nm_s, if_pos hl, if_pos hl, show p 3 l - p 2 l + 1 = p 3 l + 1 - p 2 l from by omega]
  unfold fX6_ringOf_14
  exact i
theorem prom {x y : Int32} : (∃ n m, 1 ≤ n ∧ n ≤ 99 ∧ 1 ≤ m ∧ m ≤ 99 ∧ x = nI n ∧ y = nI m ∧ fX5_isPromise x y = some (nI 1) ∧ fX6_isIn x (nI 1) (nI 99) = some (nI 1) ∧ fX6_isIn y (nI 1) (nI 99) = some (nI 1)) ∨ (fX5_isPromise x y = some (nI 0) ∧ (fX6_isIn x (nI 1) (nI 99) = some (nI 0) ∨ (fX6_isIn x (nI 1) (nI 99) = some (nI 1) ∧ fX6_isIn y (nI 1) (nI 99) = some (nI 0)))) := by
  unfold fX5_isPromise fX5_isPromise_26
  rcases in_ab x (a := 1) (b := 99) (by omega) (by omega) with ⟨n, n1, n2, rfl, q1, q2, q3, q4⟩ | ⟨q4, q1⟩
  · rw [if_neg q1, if_neg q3]
    rcases in_ab y (a := 1) (b := 99) (by omega) (by omega) with ⟨m, m1, m2, rfl, r1, r2, r3, r4⟩ | ⟨r4, r1⟩
    · rw [if_neg r1, if_neg r3]
      exact Or.inl ⟨n, m, n1, n2, m1, m2, rfl, rfl, rfl, q4, r4⟩
    · refine Or.inr ⟨?_, Or.inr ⟨q4, r4⟩⟩
      rcases r1 with r1 | r1
      · rw [if_pos r1]
      · rw [if_neg r1.1, if_pos r1.2.1]
  · refine Or.inr ⟨?_, Or.inl q4⟩
    rcases q1 with q1 | q1
    · rw [if_pos q1]
    · rw [if_neg q1.1, if_pos q1.2.1]
theorem m_need {p g : Nx} {C : Nat → Nat} {f : Nat} (hp : PI p) {M : Rc} {ML : RcL} {N l n m : Nat} (hN : 100 < N) (hS : Stat p g C f (M 11)) (hl : l < p 7 0) (hn : n ≤ 99) (hm : 1 ≤ m ∧ m ≤ 99) : ∀ {d k u : Nat}, d < u → 1 ≤ k → k + d = (n * rgM p l + m - 1) / m → itn (fX6_needs_38b N) (fun _ _ _ _ _ _ => none) u M ML (nI l) (nI n) (nI m) (nI k) = some (nI ((n * rgM p l + m - 1) / m), M)
  | _, _, 0, h, _, _ => by omega
  | d, k, u + 1, hu, hk, e => by
    have rb := rg_b hp (r := l) (by have := hp.q; omega)
    have b1 : n * rgM p l ≤ 99 * 360 := Nat.mul_le_mul hn rb.2.2
    have dv := Nat.div_add_mod (n * rgM p l + m - 1) m
    have ml := Nat.mod_lt (n * rgM p l + m - 1) (show m > 0 from by omega)
    have dl : (n * rgM p l + m - 1) / m ≤ n * rgM p l + m - 1 := Nat.div_le_self _ _
    have rg := m_rg hp (ML := ML) (N := N) hN hS hl
    have km : k * m ≤ ((n * rgM p l + m - 1) / m) * m := Nat.mul_le_mul_right _ (by omega)
    rw [Nat.mul_comm m] at dv
    cases d with
    | zero =>
      rw [itn_s]
      unfold fX6_needs_38b
      have ek : k = (n * rgM p l + m - 1) / m := by omega
      rw [rg, bnd_s, pk_mul, pk_mul, if_le (by rw [ek]; omega) (by omega), ek]
    | succ d =>
      have i := m_need hp (ML := ML) (N := N) hN hS hl hn hm (d := d) (k := k + 1) (u := u) (by omega) (by omega) (by omega)
      have km2 : (k + 1) * m ≤ ((n * rgM p l + m - 1) / m) * m := Nat.mul_le_mul_right _ (by omega)
      rw [Nat.add_mul, Nat.one_mul] at km2
      rw [itn_s]
      generalize itn (fX6_needs_38b N) (fun _ _ _ _ _ _ => none) u = K at i ⊢
      unfold fX6_needs_38b
      rw [rg, bnd_s, pk_mul, pk_mul, if_nle (by omega) (by omega), nI_add, nm_s, i]
theorem SP12_ok {N : Nat} (hN : 100000 < N) : SP12 N Rel := by
  intro c FL M ML h a1 a2 a3
  have h1 := Rel_0 (v := fun _ => nI 0) h
  unfold fX6_needs
  rw [nm_s]
  generalize va_up M 0 (fun _ => nI 0) = M1 at h1 ⊢
  obtain ⟨p, p1, b6, b7, s1, s14, hw⟩ := Rel_base h1
  unfold fX5_needs fX5_needs_16 fX6_needs_33
  rw [p1]
  rcases both_lp (ML := ML) (X := c 0) (x := a1) b7 s14 with ⟨l, hl, rfl, e1, e2⟩ | ⟨e1, e2⟩
  · rcases hw with z | ⟨g, x, w1, w2, w3, w4, w5, w6⟩
    · omega
    have S := w4.2.2.2.1
    rw [e1, e2, bnd_s, bnd_s, if_n0 (by omega) (by omega), if_n0 (by omega) (by omega)]
    rcases prom (x := a2) (y := a3) with ⟨n, m, n1, n2, m1, m2, rfl, rfl, q1, q2, q3⟩ | ⟨q1, q2⟩
    · have rb := rg_b w1 (r := l) (by omega)
      have b1 : n * rgM p l ≤ 99 * 360 := Nat.mul_le_mul n2 rb.2.2
      have b0 : 1 ≤ n * rgM p l := Nat.mul_pos n1 rb.2.1
      have dl : (n * rgM p l + m - 1) / m ≤ n * rgM p l + m - 1 := Nat.div_le_self _ _
      have d1 : 1 ≤ (n * rgM p l + m - 1) / m := (Nat.le_div_iff_mul_le (by omega)).mpr (by omega)
      have nd := m_need w1 (ML := ML) (N := N) (by omega) S.1 hl n2 ⟨m1, m2⟩ (d := (n * rgM p l + m - 1) / m - 1) (k := 1) (u := N) (by omega) (by omega) (by omega)
      rw [q1, q2, q3, bnd_s, bnd_s, bnd_s, if_n0 (by omega) (by omega), if_n0 (by omega) (by omega), if_n0 (by omega) (by omega), nm_s, c_rm w1 (by omega) (by omega), bnd_s, gdz_nI (by omega) (by omega), pk_mul, nI_add, nI_sub' (by omega), nI_div (by omega) (by omega) (by omega)]
      unfold fX6_needs_38
      rw [nd]
      exact ⟨_, _, rfl, rfl, rfl, h1⟩
    · rw [q1, bnd_s, if_e0 rfl]
      rcases q2 with q2 | ⟨q2, q3⟩
      · rw [q2, bnd_s, if_e0 rfl]; exact ⟨_, _, rfl, rfl, rfl, h1⟩
      · rw [q2, q3, bnd_s, bnd_s, if_n0 (by omega) (by omega), if_e0 rfl]; exact ⟨_, _, rfl, rfl, rfl, h1⟩
  · rw [e1, e2, bnd_s, bnd_s, if_e0 rfl, if_e0 rfl]
    exact ⟨_, _, rfl, rfl, rfl, h1⟩
/-! bound -/
theorem c_rcA {p x : Nx} (hp : PI p) {X : Rc} {r : Nat} (hr : r < p 7 0 + p 6 0) : fX5_ringCardsa X (embP p) (embL x) (nI r) = some (nI (rgC p (x 4) r)) := by
  have hn := hp.n
  have hq := hp.q
  unfold fX5_ringCardsa rgC
  rw [embP_a]
  by_cases c : r < p 7 0
  · rw [if_nle (by omega) (by omega), gdi_nI (by omega) (by omega), nI_clamp (by omega), embL_a (by omega), if_pos c]
  · rw [if_le (by omega) (by omega), if_neg c]
theorem rgC_b {p x : Nx} (hx : LI p x) {r : Nat} : 1 ≤ rgC p (x 4) r ∧ rgC p (x 4) r ≤ 20 := by
  unfold rgC
  by_cases c : r < p 7 0
  · have := hx.l c
    rw [if_pos c]; omega
  · rw [if_neg c]; omega
/-- the tight ring, as both go through them -/
def tgt (p : Nx) (C : Nat → Nat) : Nat → Nat → Nat → Nat
  | _, 0, b => b
  | r, d + 1, b => tgt p C (r + 1) d (if rgM p r * rgC p C b ≤ rgM p b * rgC p C r then b else r)
theorem tgt_lt {p : Nx} {C : Nat → Nat} {n : Nat} : ∀ {d r b : Nat}, r + d = n → b < n → tgt p C r d b < n
  | 0, r, b, _, h => h
  | d + 1, r, b, e, h => by
    rw [tgt]
    apply tgt_lt (by omega)
    split <;> omega
theorem mul_b {a b : Nat} (h1 : a ≤ 360) (h2 : b ≤ 20) : a * b ≤ 7200 := Nat.mul_le_mul h1 h2
theorem c_tg4 {p x : Nx} (hp : PI p) (hx : LI p x) {X : Rc} {N : Nat} (hN : 100 < N) : ∀ {d r b u : Nat}, d < u → r + d = p 7 0 + p 6 0 → b < p 7 0 + p 6 0 → itn (fX5_tightRing_4b N) (fun _ _ _ _ _ => none) u X (embP p) (embL x) (nI b) (nI r) = some (nI (tgt p (x 4) r d b))
  | _, _, _, 0, h, _, _ => by omega
  | 0, r, b, u + 1, _, e, hb => by
    have hn := hp.n
    have hq := hp.q
    rw [itn_s]
    unfold fX5_tightRing_4b
    rw [embP_a, embP_a, nI_add, if_le (by omega) (by omega)]
    rfl
  | d + 1, r, b, u + 1, hu, e, hb => by
    have hn := hp.n
    have hq := hp.q
    have m1 := rg_b hp (r := r) (by omega)
    have m2 := rg_b hp (r := b) hb
    have c1 := rgC_b (r := r) hx
    have c2 := rgC_b (r := b) hx
    have p1 := mul_b m2.2.2 c1.2
    have p2 := mul_b m1.2.2 c2.2
    rw [itn_s]
    unfold fX5_tightRing_4b
    rw [embP_a, embP_a, nI_add, if_nle (by omega) (by omega), c_rm hp hN hb, bnd_s, c_rcA hp (by omega), bnd_s, pk_mul, nm_s, c_rm hp hN (by omega), bnd_s, c_rcA hp hb, bnd_s, pk_mul, tgt]
    by_cases c : rgM p r * rgC p (x 4) b ≤ rgM p b * rgC p (x 4) r
    · rw [if_le c (by omega), if_pos c]
      unfold fX5_tightRing_66
      rw [nI_add, nm_s]
      exact c_tg4 hp hx hN (by omega) (by omega) hb
    · rw [if_nle (by omega) (by omega), if_neg c, nm_s]
      unfold fX5_tightRing_66
      rw [nI_add, nm_s]
      exact c_tg4 hp hx hN (by omega) (by omega) (by omega)
def cod (p : Nx) (r : Nat) : Nat := if r < p 7 0 then r else 100 + r - p 7 0
theorem m_bd43 {p g x : Nx} (hp : PI p) (hx : LI p x) {M : Rc} {ML : RcL} {N : Nat} {w : Int32} (hN : 100 < N) (S : RelS p g x (M 11)) : ∀ {d r b u : Nat}, d < u → r + d = p 7 0 + p 6 0 → b < p 7 0 + p 6 0 → ∃ K, itn (fX6_bound_43b N) (fun _ _ _ _ _ _ _ => none) u M ML w (nI (cod p b)) (nI (rgM p b)) (nI (rgC p (x 4) b)) (nI r) = fX6_bound_43b N K M ML w (nI (cod p (tgt p (x 4) r d b))) (nI (rgM p (tgt p (x 4) r d b))) (nI (rgC p (x 4) (tgt p (x 4) r d b))) (nI (p 7 0 + p 6 0))
  | _, _, _, 0, h, _, _ => by omega
  | 0, r, b, u + 1, _, e, hb => by
    refine ⟨itn (fX6_bound_43b N) (fun _ _ _ _ _ _ _ => none) u, ?_⟩
    rw [itn_s, show r = p 7 0 + p 6 0 from by omega]
    rfl
  | d + 1, r, b, u + 1, hu, e, hb => by
    have hn := hp.n
    have hq := hp.q
    have m1 := rg_b hp (r := r) (by omega)
    have m2 := rg_b hp (r := b) hb
    have c1 := rgC_b (r := r) hx
    have c2 := rgC_b (r := b) hx
    have p1 := mul_b m2.2.2 c1.2
    have p2 := mul_b m1.2.2 c2.2
    have s1 := S.1.1.2.1
    have s14 := S.1.1.2.2.1
    rw [itn_s, tgt]
    have fin : ∀ z : Int32, (z = if r < p 7 0 then nI 1 else nI 0) → fX6_bound_137 N (itn (fX6_bound_43b N) (fun _ _ _ _ _ _ _ => none) u) M ML w (nI (cod p b)) (nI (rgM p b)) (nI (rgC p (x 4) b)) (nI r) z (nI (rgM p r)) (nI (rgC p (x 4) r)) = itn (fX6_bound_43b N) (fun _ _ _ _ _ _ _ => none) u M ML w (nI (cod p (if rgM p r * rgC p (x 4) b ≤ rgM p b * rgC p (x 4) r then b else r))) (nI (rgM p (if rgM p r * rgC p (x 4) b ≤ rgM p b * rgC p (x 4) r then b else r))) (nI (rgC p (x 4) (if rgM p r * rgC p (x 4) b ≤ rgM p b * rgC p (x 4) r then b else r))) (nI (r + 1)) := by
      intro z hz
      generalize itn (fX6_bound_43b N) (fun _ _ _ _ _ _ _ => none) u = K
      unfold fX6_bound_137
      rw [nm_s, pk_mul, pk_mul]
      by_cases c : rgM p r * rgC p (x 4) b ≤ rgM p b * rgC p (x 4) r
      · rw [if_nlt c (by omega), if_pos c]
        unfold fX6_bound_185
        rw [nI_add, nm_s]
      · rw [if_lt (by omega) (by omega), if_neg c, s14]
        unfold cod
        by_cases q : r < p 7 0
        · rw [hz, if_pos q, if_n0 (by omega) (by omega), if_pos q]
          unfold fX6_bound_177 fX6_bound_185
          rw [nm_s, nm_s, nm_s, nI_add, nm_s]
        · rw [hz, if_neg q, if_e0 rfl, if_neg q, nI_add, nI_sub' (by omega)]
          unfold fX6_bound_177 fX6_bound_185
          rw [nm_s, nm_s, nm_s, nI_add, nm_s]
    have i := m_bd43 hp hx (ML := ML) (N := N) (w := w) hN S (d := d) (r := r + 1) (b := if rgM p r * rgC p (x 4) b ≤ rgM p b * rgC p (x 4) r then b else r) (u := u) (by omega) (by omega) (by split <;> omega)
    obtain ⟨K, i⟩ := i
    refine ⟨K, ?_⟩
    rw [← i]
    have f1 := fin (nI 1)
    have f0 := fin (nI 0)
    generalize itn (fX6_bound_43b N) (fun _ _ _ _ _ _ _ => none) u = K2 at f0 f1 ⊢
    unfold fX6_bound_43b
    rw [s1, s14, nI_add, if_nle (by omega) (by omega)]
    by_cases q : r < p 7 0
    · have sl := S.1.2.2.1 r q
      rw [if_nle (by omega) (by omega)]
      unfold fX6_bound_79
      rw [nm_s, if_n0 (by omega) (by omega), m_rg hp hN S.1 q, bnd_s]
      unfold fX6_bound_112
      rw [nm_s, if_n0 (by omega) (by omega), pk_mul, nI_add, nI_add, gdi_nI (by omega) (by omega), nI_clamp (by omega), sl.2.2, show nI (x 4 r) = nI (rgC p (x 4) r) from by unfold rgC; rw [if_pos q]]
      exact f1 (by rw [if_pos q])
    · have sk := S.1.2.1 (r - p 7 0) (by omega)
      rw [if_le (by omega) (by omega)]
      unfold fX6_bound_79
      rw [nm_s, if_e0 rfl, s14, nI_add, nI_sub' (by omega), gdi_nI (by omega) (by omega), nI_clamp (by omega), show 2 + r - p 7 0 = 2 + (r - p 7 0) from by omega, sk.1]
      unfold fX6_bound_112
      rw [nm_s, if_e0 rfl, show nI (p 0 (r - p 7 0)) = nI (rgM p r) from by unfold rgM rgA rgD; rw [if_neg q, if_neg q]; show _ = nI (0 + p 0 (r - p 7 0 + 0)); rw [Nat.zero_add, Nat.add_zero], show nI 1 = nI (rgC p (x 4) r) from by unfold rgC; rw [if_neg q]]
      have f0' := f0 (by rw [if_neg q])
      rw [show rgC p (x 4) r = 1 from by unfold rgC; rw [if_neg q]] at f0' ⊢
      exact f0'
theorem SP11_ok {N : Nat} (hN : 100000 < N) : SP11 N Rel := by
  intro c FL M ML h a1
  have h1 := Rel_0 (v := fun _ => nI 0) h
  unfold fX6_bound
  rw [nm_s]
  generalize va_up M 0 (fun _ => nI 0) = M1 at h1 ⊢
  obtain ⟨p, p1, b6, b7, s1, s14, hw⟩ := Rel_base h1
  unfold fX5_bound fX5_bound_16 fX6_bound_21
  rw [p1]
  rcases hw with z | ⟨g, x, w1, w2, w3, w4, w5, w6⟩
  · rw [empty_T z.1, there_F z.2.2, bnd_s, bnd_s, if_n0 (by omega) (by omega), if_e0 rfl]
    exact ⟨_, _, rfl, rfl, rfl, h1⟩
  · have S := w4.2.2.2.1
    have hx := w4.1.1
    have hn := w1.n
    have hq := w1.q
    have tl := tgt_lt (p := p) (C := x 4) (n := p 7 0 + p 6 0) (d := p 7 0 + p 6 0 - 1) (r := 1) (b := 0) (by omega) (by omega)
    have tc := c_tg4 w1 hx (X := c 0) (N := N) (by omega) (d := p 7 0 + p 6 0 - 1) (r := 1) (b := 0) (u := N) (by omega) (by omega) (by omega)
    obtain ⟨K, tm⟩ := m_bd43 w1 hx (ML := ML) (N := N) (w := a1) (by omega) S (d := p 7 0 + p 6 0 - 1) (r := 1) (b := 0) (u := N) (by omega) (by omega) (by omega)
    have m2 := rg_b w1 tl
    have c2 := rgC_b (r := tgt p (x 4) 1 (p 7 0 + p 6 0 - 1) 0) hx
    rw [show cod p 0 = 0 from by unfold cod; rw [if_pos (by omega)], show rgC p (x 4) 0 = x 4 0 from by unfold rgC; rw [if_pos (by omega)]] at tm
    have gp : 0 < Nat.gcd (rgC p (x 4) (tgt p (x 4) 1 (p 7 0 + p 6 0 - 1) 0)) (rgM p (tgt p (x 4) 1 (p 7 0 + p 6 0 - 1) 0)) := Nat.gcd_pos_of_pos_left _ (by omega)
    have gl : Nat.gcd (rgC p (x 4) (tgt p (x 4) 1 (p 7 0 + p 6 0 - 1) 0)) (rgM p (tgt p (x 4) 1 (p 7 0 + p 6 0 - 1) 0)) ≤ rgC p (x 4) (tgt p (x 4) 1 (p 7 0 + p 6 0 - 1) 0) := Nat.le_of_dvd (by omega) (Nat.gcd_dvd_left _ _)
    have cd := s_gcd (a := rgC p (x 4) (tgt p (x 4) 1 (p 7 0 + p 6 0 - 1) 0)) (b := rgM p (tgt p (x 4) 1 (p 7 0 + p 6 0 - 1) 0)) (N := N) (by omega) (by omega) (by omega)
    have md := m_gcd (a := rgC p (x 4) (tgt p (x 4) 1 (p 7 0 + p 6 0 - 1) 0)) (b := rgM p (tgt p (x 4) 1 (p 7 0 + p 6 0 - 1) 0)) (by omega) (by omega)
    rw [Nat.max_eq_left (by omega)] at cd
    have ctr := c_rm w1 (X := c 0) (N := N) (by omega) tl
    have cca := c_rcA (x := x) w1 (X := c 0) tl
    have tgc : fX5_tightRing N (c 0) (embP p) (embL x) = some (nI (tgt p (x 4) 1 (p 7 0 + p 6 0 - 1) 0)) := by
      unfold fX5_tightRing
      rw [nm_s, nm_s]
      unfold fX5_tightRing_4
      exact tc
    generalize tgt p (x 4) 1 (p 7 0 + p 6 0 - 1) 0 = b at *
    rw [empty_F w1, there_T S.1.1.1, bnd_s, bnd_s, if_e0 rfl, if_n0 (by omega) (by omega), w3, tgc, bnd_s, nm_s]
    have s17 : M1 11 17 = nI (x 4 0) := (S.1.2.2.1 0 (by omega)).2.2
    rcases in_ab a1 (a := 0) (b := 2) (by omega) (by omega) with ⟨j, _, j9, rfl, q1, q2, _, ji⟩ | ⟨ji, j0⟩
    · have mm : ∀ v : Int32, fX6_bound_43b N K M1 ML (nI j) (nI (cod p b)) (nI (rgM p b)) (nI (rgC p (x 4) b)) (nI (p 7 0 + p 6 0)) = some (if j = 0 then nI (rgC p (x 4) b / Nat.gcd (rgC p (x 4) b) (rgM p b)) else if j = 1 then nI (rgM p b / Nat.gcd (rgC p (x 4) b) (rgM p b)) else nI (cod p b), M1) := by
        intro v
        unfold fX6_bound_43b
        rw [S.1.1.2.1, S.1.1.2.2.1, nI_add, if_le (Nat.le_refl _) (by omega), md, bnd_s, nm_s]
        by_cases e0 : j = 0
        · rw [if_e0 e0, if_pos e0, gdz_nI gp (by omega), nI_div (by omega) gp (by omega)]
        · rw [if_n0 e0 (by omega), if_neg e0]
          by_cases e1 : j = 1
          · rw [if_eq e1, if_pos e1, gdz_nI gp (by omega), nI_div (by omega) gp (by omega)]
          · rw [if_neq e1 (by omega) (by omega), if_neg e1]
      rw [if_neg (show ¬ nI j < 0 from q1), if_pos q2, ji, bnd_s, if_n0 (by omega) (by omega), nm_s, m_rg w1 (by omega) S.1 (by omega), bnd_s, nm_s, nm_s, nm_s, s17]
      unfold fX6_bound_43
      rw [tm, mm 0]
      unfold fX5_bound_94
      rw [embP_a]
      by_cases e2 : j = 2
      · rw [if_eq e2, if_neg (show ¬ j = 0 from by omega), if_neg (show ¬ j = 1 from by omega)]
        unfold cod
        by_cases q : b < p 7 0
        · rw [if_nle (by omega) (by omega), if_pos q]; exact ⟨_, _, rfl, rfl, rfl, h1⟩
        · rw [if_le (by omega) (by omega), if_neg q, nI_add, nI_sub' (by omega)]; exact ⟨_, _, rfl, rfl, rfl, h1⟩
      · rw [if_neq e2 (by omega) (by omega), cca, bnd_s, nm_s, ctr, bnd_s, nm_s, cd, bnd_s, nm_s]
        by_cases e0 : j = 0
        · rw [if_e0 e0, if_pos e0, gdz_nI gp (by omega), nI_div (by omega) gp (by omega)]; exact ⟨_, _, rfl, rfl, rfl, h1⟩
        · rw [if_n0 e0 (by omega), if_neg e0, if_pos (by omega), gdz_nI gp (by omega), nI_div (by omega) gp (by omega)]; exact ⟨_, _, rfl, rfl, rfl, h1⟩
    · rw [ji, bnd_s, if_e0 rfl]
      rcases j0 with j0 | j0
      · rw [if_pos (show a1 < 0 from j0)]; exact ⟨_, _, rfl, rfl, rfl, h1⟩
      · rw [if_neg (show ¬ a1 < 0 from j0.1), if_neg j0.2.2]; exact ⟨_, _, rfl, rfl, rfl, h1⟩
