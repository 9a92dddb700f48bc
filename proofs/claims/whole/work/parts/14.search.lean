/-! the class's search -/
def pre (p x : Nx) : Nat → Nx
  | 0 => x
  | n + 1 => sLeap p (pre p x n)
def Stt (p : Nx) (C : Nat → Nat) (f : Nat) (x : Nx) : Prop := LZ p x ∧ x 8 0 = 0 ∧ x 2 (p 6 0 - 1) = 0 ∧ x 7 0 = f ∧ ∀ l, l < p 7 0 → x 4 l = C l
theorem Stt_new {p x : Nx} (hp : PI p) {C : Nat → Nat} {f : Nat} (hf : 1 ≤ f ∧ f ≤ 5) (hC : ∀ l, l < p 7 0 → 1 ≤ C l ∧ C l ≤ 20) : Stt p C f (sRound p (sClr x C f)) := by
  have hn := hp.n
  have hq := hp.q
  refine ⟨LZ_round hp (LI_clr hp hf hC), ?_, ?_, ?_, ?_⟩
  · rw [round_o (by omega), clr_8 (by omega)]
  · rw [round_2 (by omega), clr_1 (a := 2) (by omega) (by omega), clr_1 (a := 1) (by omega) (by omega), if_neg (fun z => z.1 rfl)]
  · rw [round_o (by omega), clr_7]
  · intro l hl
    rw [round_o (by omega), clr_4 (by omega)]
theorem pre_ok {p x : Nx} {C : Nat → Nat} {f : Nat} (hp : PI p) (h : Stt p C f x) : ∀ {n : Nat}, n ≤ 1501 → LZ p (pre p x n) ∧ pre p x n 2 (p 6 0 - 1) = n ∧ pre p x n 8 0 ≤ 12120 * n ∧ pre p x n 7 0 = f ∧ ∀ l, l < p 7 0 → pre p x n 4 l = C l
  | 0, _ => ⟨h.1, h.2.2.1, by show x 8 0 ≤ _; have := h.2.1; omega, h.2.2.2.1, h.2.2.2.2⟩
  | n + 1, hn => by
    have i := pre_ok hp h (n := n) (by omega)
    have s := sLeap_ok hp i.1 (by omega)
    refine ⟨s.1, ?_, ?_, ?_, fun l hl => ?_⟩
    · show sLeap p (pre p x n) 2 (p 6 0 - 1) = _
      omega
    · show sLeap p (pre p x n) 8 0 ≤ _
      omega
    · show sLeap p (pre p x n) 7 0 = _
      rw [sLeap_o (by omega)]; exact i.2.2.2.1
    · show sLeap p (pre p x n) 4 l = _
      rw [sLeap_o (by omega)]; exact i.2.2.2.2 l hl
theorem pre_time {p x : Nx} {C : Nat → Nat} {f : Nat} (hp : PI p) (h : Stt p C f x) : ∀ {d m : Nat}, m + d ≤ 1501 → pre p x m 8 0 + d ≤ pre p x (m + d) 8 0 ∧ pre p x (m + d) 8 0 ≤ pre p x m 8 0 + 12120 * d
  | 0, m, _ => ⟨Nat.le_refl _, Nat.le_refl _⟩
  | d + 1, m, hm => by
    have i := pre_time hp h (d := d) (m := m) (by omega)
    have j := pre_ok hp h (n := m + d) (by omega)
    have s := sLeap_ok hp j.1 (by omega)
    have e : pre p x (m + (d + 1)) = sLeap p (pre p x (m + d)) := rfl
    rw [e]
    omega
def kE (p a b : Nx) : Bool := decide (bz p a = bz p b) && decide (qz p a = qz p b)
theorem kE_iff {p a b : Nx} : kE p a b = true ↔ bz p a = bz p b ∧ qz p a = qz p b := by
  unfold kE
  rw [Bool.and_eq_true, decide_eq_true_eq, decide_eq_true_eq]
/-- the latest look ahead of m that is like look n -/
def lastEq (p x : Nx) (n : Nat) : Nat → Option Nat
  | 0 => none
  | m + 1 => if kE p (pre p x (m + 1)) (pre p x (n + 1)) = true then some m else lastEq p x n m
def paceAt (p x : Nx) : Nat → Nat → Option (Nat × Nat)
  | 0, _ => none
  | d + 1, n => match lastEq p x n n with
    | some k => some (k, n)
    | none => paceAt p x d (n + 1)
theorem lastEq_lt {p x : Nx} {n k : Nat} : ∀ {m : Nat}, lastEq p x n m = some k → k < m ∧ kE p (pre p x (k + 1)) (pre p x (n + 1)) = true
  | 0, h => by cases h
  | m + 1, h => by
    unfold lastEq at h
    by_cases c : kE p (pre p x (m + 1)) (pre p x (n + 1)) = true
    · rw [if_pos c] at h
      cases h
      exact ⟨by omega, c⟩
    · rw [if_neg c] at h
      have := lastEq_lt h
      exact ⟨by omega, this.2⟩
theorem paceAt_some {p x : Nx} {k m : Nat} : ∀ {d n : Nat}, paceAt p x d n = some (k, m) → k < m ∧ m < n + d ∧ kE p (pre p x (k + 1)) (pre p x (m + 1)) = true
  | 0, n, h => by cases h
  | d + 1, n, h => by
    unfold paceAt at h
    cases e : lastEq p x n n with
    | some j =>
      rw [e] at h
      cases h
      have := lastEq_lt e
      exact ⟨this.1, by omega, this.2⟩
    | none =>
      rw [e] at h
      have := paceAt_some (d := d) (n := n + 1) h
      exact ⟨this.1, by omega, this.2.2⟩
def pcD (p x : Nx) (k n : Nat) : Nat := Nat.gcd (n - k) (pre p x (n + 1) 8 0 - pre p x (k + 1) 8 0)
def pcP (p x : Nx) (o : Option (Nat × Nat)) : Int32 := match o with
  | none => -1
  | some (k, n) => nI ((n - k) / pcD p x k n)
def pcM (p x : Nx) (o : Option (Nat × Nat)) : Int32 := match o with
  | none => -1
  | some (k, n) => nI ((pre p x (n + 1) 8 0 - pre p x (k + 1) 8 0) / pcD p x k n)
/-- chains of looks by their hash -/
def hsh (b : Int64) (q : Int32) : Nat := ((((b * (-7046029254386353131 : Int64) + q.toInt64 * (-4417276706812531889 : Int64)).toUInt64 >>> ((nI 40).toInt64.toUInt64 &&& Int64.toUInt64 63)).toInt64).toInt32).toBitVec.toNat % 1024
def hs (p x : Nx) (j : Nat) : Nat := hsh (lN (bz p (pre p x (j + 1)))) (nI (qz p (pre p x (j + 1))))
def ChOk (p x : Nx) (F : Rc) (h : Nat) : Nat → Int32 → Prop
  | 0, c => c = -1
  | m + 1, c => if hs p x m = h then c = nI m ∧ ChOk p x F h m (F 5 m) else ChOk p x F h m c
theorem ChOk_mv {p x : Nx} {F G : Rc} {h : Nat} : ∀ {m : Nat} {c : Int32}, (∀ j, j < m → G 5 j = F 5 j) → ChOk p x F h m c → ChOk p x G h m c
  | 0, c, _, h1 => h1
  | m + 1, c, hg, h1 => by
    unfold ChOk at h1 ⊢
    by_cases e : hs p x m = h
    · rw [if_pos e] at h1 ⊢
      rw [hg m (by omega)]
      exact ⟨h1.1, ChOk_mv (fun j hj => hg j (by omega)) h1.2⟩
    · rw [if_neg e] at h1 ⊢
      exact ChOk_mv (fun j hj => hg j (by omega)) h1
theorem ChOk_0 {p x : Nx} {F : Rc} {h : Nat} : ChOk p x F h 0 (-1) := rfl
def FI (p x : Nx) (n : Nat) (F : Rc) (FL : RcL) : Prop := (∀ j, j < n → FL 1 j = lN (bz p (pre p x (j + 1))) ∧ F 2 j = nI (qz p (pre p x (j + 1))) ∧ F 3 j = nI (pre p x (j + 1) 8 0)) ∧ ∀ h, h < 1024 → ChOk p x F h n (F 4 h)
theorem bzF_lt {p x : Nx} (hx : LI p x) {M : Nat} : ∀ {d l a : Nat}, l + d = p 6 0 → (a + 1) * 128 ^ d ≤ M → bzF x l d a < M
  | 0, l, a, _, h => by
    simp only [Nat.pow_zero, Nat.mul_one] at h
    exact h
  | d + 1, l, a, e, h => by
    unfold bzF
    exact bzF_lt hx (by omega) (bnd128 h (left_lt hx (by omega))).1
theorem qzF_lt {p x : Nx} (hp : PI p) (hx : LI p x) {M : Nat} : ∀ {d l a : Nat}, l + d = p 6 0 → (a + 1) * 32 ^ d ≤ M → qzF x l d a < M
  | 0, l, a, _, h => by
    simp only [Nat.pow_zero, Nat.mul_one] at h
    exact h
  | d + 1, l, a, e, h => by
    unfold qzF
    exact qzF_lt hp hx (by omega) (bnd32 h (by have := sWait_20 hp hx (k := l) (by omega); omega)).1
theorem bz_lt {p x : Nx} (hp : PI p) (hx : LI p x) : bz p x < 2 ^ 60 := by
  have pl := place_lt hp hx
  have e6 : 128 ^ p 6 0 ≤ 128 ^ 6 := Nat.pow_le_pow_right (by omega) hp.n.2
  exact bzF_lt hx (by omega) (Nat.le_trans (Nat.mul_le_mul (show place p x + 1 ≤ 1024 from pl) e6) (by decide))
theorem qz_lt {p x : Nx} (hp : PI p) (hx : LI p x) : qz p x < 2 ^ 31 := by
  have e7 : 32 ^ p 6 0 ≤ 32 ^ 6 := Nat.pow_le_pow_right (by omega) hp.n.2
  exact qzF_lt hp hx (by omega) (Nat.le_trans (Nat.mul_le_mul (Nat.le_refl _) e7) (by decide))
theorem s_ent46 {p x : Nx} {C : Nat → Nat} {f : Nat} (hp : PI p) (h : Stt p C f x) {n N : Nat} (hn : n < 1500) {F : Rc} {FL : RcL} (hF : ∀ j, j ≤ n → FL 1 j = lN (bz p (pre p x (j + 1))) ∧ F 2 j = nI (qz p (pre p x (j + 1)))) : ∀ {m i u : Nat} {c : Int32}, m < u → m ≤ n → i + m ≤ 1499 → ChOk p x F (hs p x n) m c → itn (fX2_enter_46b N) (fun _ _ _ _ _ _ => none) u F FL (nI n) (nI (hs p x n)) c (nI i) = match lastEq p x n m with
    | some k => some (nI k, F)
    | none => fX2_enter_111 N F FL (nI n) (nI (hs p x n))
  | _, _, 0, _, h, _, _, _ => by omega
  | 0, i, u + 1, c, hu, _, hi, hc => by
    rw [show c = -1 from hc, itn_s]
    unfold fX2_enter_46b lastEq
    simp (disch := omega) only [↓nm_s, ↓bnd_s, ↓reduceIte, nI_add, pk_mul, nI_subdiv, nI_sub', nI_m1, nI_0m1, nI_clamp, gdi_nI, gdz_nI, nI_div, nrem, nI_ltI, nI_leI, nI_eq, leT, leF, ltT, ltF, eqT, eqF, neT, neF, z0, m1lt0, m1lt, m1le, nI_ne_neg, neg_ne_nI, embP_a, embL_a, embL_up, embL_up1, up2_ne, up2_at, up2_o, up1_ne, up1_at, bI_eq0, bI_eq1, or_true, true_or, and_true, true_and, or_false, false_or, and_false, false_and, not_true_eq_false, not_false_eq_true, if_true, if_false,  decide_true, decide_false, bI_t, bI_f, Nat.add_sub_cancel, Nat.zero_add, Nat.add_zero, Nat.mul_zero, upd_eq, upd_ne]
  | m + 1, i, u + 1, c, hu, hm, hi, hc => by
    have a := hF m (by omega)
    have b := hF n (by omega)
    have pm := (pre_ok hp h (n := m + 1) (by omega)).1
    have pn := (pre_ok hp h (n := n + 1) (by omega)).1
    have bm := bz_lt hp pm.1
    have bn := bz_lt hp pn.1
    have qm := qz_lt hp pm.1
    have qn := qz_lt hp pn.1
    unfold ChOk at hc
    unfold lastEq
    by_cases e : hs p x m = hs p x n
    · rw [if_pos e] at hc
      obtain ⟨rfl, hc⟩ := hc
      have i1 := s_ent46 hp h hn hF (N := N) (m := m) (i := i + 1) (u := u) (c := F 5 m) (by omega) (by omega) (by omega) hc
      rw [itn_s]
      generalize itn (fX2_enter_46b N) (fun _ _ _ _ _ _ => none) u = K at i1 ⊢
      unfold fX2_enter_46b
      have cmp : (lg_cmp (FL 1 m) (FL 1 n) = nI 0) = (bz p (pre p x (m + 1)) = bz p (pre p x (n + 1))) := by
        apply propext
        rw [← z0, lg_cmp_eq, a.1, b.1]
        exact pk_lEQ (by omega) (by omega)
      by_cases k1 : bz p (pre p x (m + 1)) = bz p (pre p x (n + 1))
      · by_cases k2 : qz p (pre p x (m + 1)) = qz p (pre p x (n + 1))
        · rw [if_pos (kE_iff.mpr ⟨k1, k2⟩)]
          simp (disch := omega) only [↓nm_s, ↓bnd_s, ↓reduceIte, nI_add, pk_mul, nI_subdiv, nI_sub', nI_m1, nI_0m1, nI_clamp, gdi_nI, gdz_nI, nI_div, nrem, nI_ltI, nI_leI, nI_eq, leT, leF, ltT, ltF, eqT, eqF, neT, neF, z0, m1lt0, m1lt, m1le, nI_ne_neg, neg_ne_nI, embP_a, embL_a, embL_up, embL_up1, up2_ne, up2_at, up2_o, up1_ne, up1_at, bI_eq0, bI_eq1, or_true, true_or, and_true, true_and, or_false, false_or, and_false, false_and, not_true_eq_false, not_false_eq_true, if_true, if_false,  decide_true, decide_false, bI_t, bI_f, Nat.add_sub_cancel, Nat.zero_add, Nat.add_zero, Nat.mul_zero, upd_eq, upd_ne, cmp, a.2, b.2]
        · rw [if_neg (fun z => k2 (kE_iff.mp z).2), ← i1]
          simp (disch := omega) only [↓nm_s, ↓bnd_s, ↓reduceIte, nI_add, pk_mul, nI_subdiv, nI_sub', nI_m1, nI_0m1, nI_clamp, gdi_nI, gdz_nI, nI_div, nrem, nI_ltI, nI_leI, nI_eq, leT, leF, ltT, ltF, eqT, eqF, neT, neF, z0, m1lt0, m1lt, m1le, nI_ne_neg, neg_ne_nI, embP_a, embL_a, embL_up, embL_up1, up2_ne, up2_at, up2_o, up1_ne, up1_at, bI_eq0, bI_eq1, or_true, true_or, and_true, true_and, or_false, false_or, and_false, false_and, not_true_eq_false, not_false_eq_true, if_true, if_false,  decide_true, decide_false, bI_t, bI_f, Nat.add_sub_cancel, Nat.zero_add, Nat.add_zero, Nat.mul_zero, upd_eq, upd_ne, cmp, a.2, b.2, fX2_enter_96]
      · rw [if_neg (fun z => k1 (kE_iff.mp z).1), ← i1]
        simp (disch := omega) only [↓nm_s, ↓bnd_s, ↓reduceIte, nI_add, pk_mul, nI_subdiv, nI_sub', nI_m1, nI_0m1, nI_clamp, gdi_nI, gdz_nI, nI_div, nrem, nI_ltI, nI_leI, nI_eq, leT, leF, ltT, ltF, eqT, eqF, neT, neF, z0, m1lt0, m1lt, m1le, nI_ne_neg, neg_ne_nI, embP_a, embL_a, embL_up, embL_up1, up2_ne, up2_at, up2_o, up1_ne, up1_at, bI_eq0, bI_eq1, or_true, true_or, and_true, true_and, or_false, false_or, and_false, false_and, not_true_eq_false, not_false_eq_true, if_true, if_false,  decide_true, decide_false, bI_t, bI_f, Nat.add_sub_cancel, Nat.zero_add, Nat.add_zero, Nat.mul_zero, upd_eq, upd_ne, cmp, fX2_enter_96]
    · rw [if_neg e] at hc
      rw [if_neg]
      · exact s_ent46 hp h hn hF (N := N) (m := m) (i := i) (u := u + 1) (c := c) (by omega) (by omega) (by omega) hc
      · intro z
        have := kE_iff.mp z
        apply e
        unfold hs
        rw [this.1, this.2]
