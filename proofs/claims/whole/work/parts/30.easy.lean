/-! the calls that only tell -/
theorem Rel_tp {c c' : Nat → Rc} {FL FL' : RcL} {M M' : Rc} {ML ML' : RcL} (hc : ∀ a, a ≠ 0 → a ≠ 2 → a ≠ 6 → a ≠ 16 → c' a = c a) (h9 : c' 0 9 = c 0 9) (h10 : c' 0 10 = c 0 10) (hM : ∀ a, a = 8 ∨ a = 11 ∨ a = 14 ∨ a = 15 → M' a = M a) (ht : Tpe c' M') (h : Rel c FL M ML) : Rel c' FL' M' ML' := by
  obtain ⟨_, h3, ⟨q, q1, q2⟩, p, p1, p2, h4⟩ := h
  refine ⟨ht, ?_, ⟨q, ?_, q2⟩, p, ?_, p2, ?_⟩
  · rw [hc 3 (by omega) (by omega) (by omega) (by omega), hM 8 (by omega)]; exact h3
  · rw [hc 4 (by omega) (by omega) (by omega) (by omega)]; exact q1
  · rw [hc 1 (by omega) (by omega) (by omega) (by omega)]; exact p1
  · rcases h4 with h4 | ⟨g, x, w1, w2, w3, w4, ⟨n, d, r1, r2, r3, r4, r5, r6⟩, w6⟩
    · refine Or.inl ?_
      unfold Em at h4 ⊢
      rw [hc 5 (by omega) (by omega) (by omega) (by omega), hc 7 (by omega) (by omega) (by omega) (by omega), hM 15 (by omega), hM 11 (by omega)]
      exact h4
    · refine Or.inr ⟨g, x, w1, w2, ?_, ?_, ⟨n, d, r1, r2, ?_, ?_, ?_, fun i hi => ?_⟩, ?_⟩
      · rw [hc 5 (by omega) (by omega) (by omega) (by omega)]; exact w3
      · rw [hM 11 (by omega)]; exact w4
      · rw [hc 7 (by omega) (by omega) (by omega) (by omega)]; exact r3
      · rw [hc 7 (by omega) (by omega) (by omega) (by omega)]; exact r4
      · rw [hM 15 (by omega)]; exact r5
      · obtain ⟨y, y1, y2⟩ := r6 i hi
        refine ⟨y, ?_, ?_⟩
        · rw [hc _ (by omega) (by omega) (by omega) (by omega)]; exact y1
        · rw [hM 14 (by omega)]; exact y2
      · intro f q1 q2
        rw [h9, h10]
        exact w6 f q1 q2
theorem Rel_mv {c c' : Nat → Rc} {FL FL' : RcL} {M M' : Rc} {ML ML' : RcL} (hc : ∀ a, a ≠ 2 → a ≠ 6 → c' a = c a) (hM : ∀ a, a = 1 ∨ a = 2 ∨ a = 8 ∨ a = 11 ∨ a = 14 ∨ a = 15 → M' a = M a) (h : Rel c FL M ML) : Rel c' FL' M' ML' := by
  obtain ⟨t, L, t1, t2, t3, t4, t5⟩ := h.1
  refine Rel_tp (fun a _ q1 q2 _ => hc a q1 q2) (by rw [hc 0 (by omega) (by omega)]) (by rw [hc 0 (by omega) (by omega)]) (fun a ha => hM a (by omega)) ⟨t, L, t1, ?_, ?_, ?_, ?_⟩ h
  · rw [hc 0 (by omega) (by omega)]; exact t2
  · rw [hM 2 (by omega)]; exact t3
  · rw [hc 16 (by omega) (by omega)]; exact t4
  · rw [hM 1 (by omega)]; exact t5
theorem Rel_0 {c : Nat → Rc} {FL : RcL} {M : Rc} {ML : RcL} {v : Nat → Int32} (h : Rel c FL M ML) : Rel c FL (va_up M 0 v) ML := Rel_mv (fun _ _ _ => rfl) (fun a ha => by rw [va_up_ne _ _ (by omega)]) h
theorem SP3_ok {N : Nat} : SP3 N Rel := by
  intro c FL M ML h _
  unfold fX5_fault fX6_fault
  rw [nm_s, va_up_ne _ _ (by omega)]
  exact ⟨_, _, rfl, rfl, h.2.1, Rel_0 h⟩
theorem le_m1 {j q : Nat} (hj : j < 2 ^ 31) (hq : q < 2 ^ 30) : nI j ≤ nI q - nI 1 ↔ j < q := by
  rw [Int32.le_iff_toInt_le, nI_toInt hj, pk_sub_toInt hq (by omega)]
  omega
/-- a number against 0 .. q - 1 -/
theorem in_q {x : Int32} {q : Nat} (hq : q < 2 ^ 30) : (∃ j, j < q ∧ x = nI j ∧ ¬ x < 0 ∧ fX6_isIn x (nI 0) (nI q - nI 1) = some (nI 1)) ∨ (fX6_isIn x (nI 0) (nI q - nI 1) = some (nI 0) ∧ (x < 0 ∨ (¬ x < 0 ∧ nI q ≤ x ∧ ¬ x < nI q))) := by
  by_cases c : x < 0
  · exact Or.inr ⟨isIn_F (Or.inl c), Or.inl c⟩
  · obtain ⟨j, hj, rfl⟩ := nI_of c
    by_cases d : j < q
    · exact Or.inl ⟨j, d, rfl, c, isIn_T c ((le_m1 hj hq).mpr d)⟩
    · refine Or.inr ⟨isIn_F (Or.inr (fun z => d ((le_m1 hj hq).mp z))), Or.inr ⟨c, ?_, ?_⟩⟩
      · rw [nI_leI (by omega) hj]; omega
      · rw [nI_ltI hj (by omega)]; omega
/-- a number against a .. b -/
theorem in_ab (x : Int32) {a b : Nat} (hb : b < 2 ^ 31) (ha : a < 2 ^ 31) : (∃ j, a ≤ j ∧ j ≤ b ∧ x = nI j ∧ ¬ x < nI a ∧ x ≤ nI b ∧ ¬ nI b < x ∧ fX6_isIn x (nI a) (nI b) = some (nI 1)) ∨ (fX6_isIn x (nI a) (nI b) = some (nI 0) ∧ (x < nI a ∨ (¬ x < nI a ∧ nI b < x ∧ ¬ x ≤ nI b))) := by
  by_cases c : x < nI a
  · exact Or.inr ⟨isIn_F (Or.inl c), Or.inl c⟩
  · by_cases d : x ≤ nI b
    · refine Or.inl ?_
      have n0 : ¬ x < 0 := by
        intro z
        apply c
        rw [Int32.lt_iff_toInt_lt] at z ⊢
        rw [nI_toInt ha]
        have : (0 : Int32).toInt = 0 := by decide
        omega
      obtain ⟨j, hj, rfl⟩ := nI_of n0
      have d' := d
      rw [nI_leI hj hb] at d'
      have c' := c
      rw [nI_ltI hj (by omega)] at c'
      exact ⟨j, by omega, d', rfl, c, d, fun z => Int32.not_lt.mpr d z, isIn_T c d⟩
    · exact Or.inr ⟨isIn_F (Or.inr d), Or.inr ⟨c, Int32.not_le.mp d, d⟩⟩
theorem z_0 : nI 0 = 0 := rfl
/-- a LOOP's number, by both -/
theorem both_lp {p : Nx} {M : Rc} {ML : RcL} {X : Rc} {x : Int32} (h7 : p 7 0 ≤ 5) (hM : M 11 14 = nI (p 7 0)) : (∃ l, l < p 7 0 ∧ x = nI l ∧ fX5_isLoop X (embP p) x = some (nI 1) ∧ fX6_isLoop M ML x = some (nI 1)) ∨ (fX5_isLoop X (embP p) x = some (nI 0) ∧ fX6_isLoop M ML x = some (nI 0)) := by
  unfold fX5_isLoop fX6_isLoop fX5_isLoop_19
  rw [hM, embP_a]
  rcases in_q (x := x) (q := p 7 0) (by omega) with ⟨j, h1, rfl, h2, h3⟩ | ⟨h3, h2⟩
  · refine Or.inl ⟨j, h1, rfl, ?_, by rw [h3, bnd_s, gdb_1]⟩
    rw [if_neg h2, if_nle (by omega) (by omega)]
  · refine Or.inr ⟨?_, by rw [h3, bnd_s, gdb_0]⟩
    rcases h2 with h2 | h2
    · rw [if_pos h2]
    · rw [if_neg h2.1, if_pos h2.2.1]
theorem empty_T {p : Nx} {X : Rc} (h : p 6 0 = 0) : fX5_isEmpty X (embP p) = some (nI 1) := by
  unfold fX5_isEmpty
  rw [embP_a, if_nle (by omega) (by omega)]
theorem empty_F {p : Nx} {X : Rc} (h : PI p) : fX5_isEmpty X (embP p) = some (nI 0) := by
  have := h.n
  unfold fX5_isEmpty
  rw [embP_a, if_le (by omega) (by omega)]
theorem there_F {M : Rc} {ML : RcL} (h : M 11 0 = nI 0) : fX6_isThere M ML = some (nI 0) := by
  unfold fX6_isThere
  rw [h, if_neq (by omega) (by omega) (by omega)]
theorem there_T {M : Rc} {ML : RcL} (h : M 11 0 = nI 1) : fX6_isThere M ML = some (nI 1) := by
  unfold fX6_isThere
  rw [h, if_eq rfl]
theorem SP4_ok {N : Nat} : SP4 N Rel := by
  intro c FL M ML h a1
  have h1 := Rel_0 (v := fun _ => nI 0) h
  unfold fX6_now
  rw [nm_s]
  generalize va_up M 0 (fun _ => nI 0) = M1 at h1 ⊢
  obtain ⟨⟨t, L, t1, t2, t3, t4, t5⟩, h3, ⟨q, q1, q2⟩, p, p1, p2, h4⟩ := id h1
  have fc : c 1 6 0 = M1 11 1 ∧ c 1 7 0 = M1 11 14 ∧ c 1 8 0 = M1 11 35 ∧ c 5 8 0 = M1 11 48 ∧ fX1_out (c 1) (c 5) = some (M1 11 49) ∧ fX1_onTheirWay (c 1) (c 5) = some (M1 11 50 - M1 11 49) ∧ c 5 9 0 = M1 11 51 ∧ c 5 10 0 = M1 11 52 ∧ c 7 1 0 = M1 15 0 := by
    rw [p1]
    rcases h4 with ⟨e1, e2, e3, e4⟩ | ⟨g, x, w1, w2, w3, w4, ⟨n, d, r1, r2, r3, r4, r5, r6⟩, w6⟩
    · have o : fX1_out (embP p) (c 5) = some (M1 11 49) := by
        unfold fX1_out
        rw [embP_a, e1.1, if_nle (by omega) (by omega), e4.2.2.2.2.2.1]
      refine ⟨by rw [embP_a, e1.1, e4.2.1], by rw [embP_a, e1.2.1, e4.2.2.1], by rw [embP_a, e1.2.2, e4.2.2.2.1], by rw [e2.1, e4.2.2.2.2.1], o, ?_, by rw [e2.2.2.1, e4.2.2.2.2.2.2.2.1], by rw [e2.2.2.2, e4.2.2.2.2.2.2.2.2], by rw [e3.1, e3.2.2]⟩
      unfold fX1_onTheirWay
      rw [o, bnd_s, e2.2.1, e4.2.2.2.2.2.2.1]
    · have S := w4.2.2.2.1
      have o : fX1_out (embP p) (c 5) = some (M1 11 49) := by rw [w3, s_out w1, S.2.1.1.2.1]
      refine ⟨by rw [embP_a, S.1.1.2.1], by rw [embP_a, S.1.1.2.2.1], by rw [embP_a, S.1.1.2.2.2], by rw [w3, embL_a (by omega), S.2.1.1.1], o, ?_, by rw [w3, embL_9, S.2.1.1.2.2.2.1], by rw [w3, embL_10, S.2.1.1.2.2.2.2], by rw [r3, r5]⟩
      unfold fX1_onTheirWay
      rw [o, bnd_s, w3, embL_a (by omega), S.2.1.1.2.2.1]
  obtain ⟨f0, f1, f2, f3, f4, f5, f6, f7, f8⟩ := fc
  unfold fX5_now
  rw [f4, f5, bnd_s, bnd_s, f0, f1, f2, f3, f6, f7, f8, t2, ← t3]
  by_cases c0 : a1 = nI 0
  · rw [if_pos c0, if_pos c0]; exact ⟨_, _, rfl, rfl, rfl, h1⟩
  rw [if_neg c0, if_neg c0]
  by_cases c1 : a1 = nI 1
  · rw [if_pos c1, if_pos c1]; exact ⟨_, _, rfl, rfl, rfl, h1⟩
  rw [if_neg c1, if_neg c1]
  by_cases c2 : a1 = nI 2
  · rw [if_pos c2, if_pos c2]; exact ⟨_, _, rfl, rfl, rfl, h1⟩
  rw [if_neg c2, if_neg c2]
  by_cases c3 : a1 = nI 3
  · rw [if_pos c3, if_pos c3]; exact ⟨_, _, rfl, rfl, rfl, h1⟩
  rw [if_neg c3, if_neg c3]
  by_cases c4 : a1 = nI 4
  · rw [if_pos c4, if_pos c4]; exact ⟨_, _, rfl, rfl, rfl, h1⟩
  rw [if_neg c4, if_neg c4]
  by_cases c5 : a1 = nI 5
  · rw [if_pos c5, if_pos c5]; exact ⟨_, _, rfl, rfl, rfl, h1⟩
  rw [if_neg c5, if_neg c5]
  by_cases c6 : a1 = nI 6
  · rw [if_pos c6, if_pos c6]; exact ⟨_, _, rfl, rfl, rfl, h1⟩
  rw [if_neg c6, if_neg c6]
  by_cases c7 : a1 = nI 7
  · rw [if_pos c7, if_pos c7]; exact ⟨_, _, rfl, rfl, rfl, h1⟩
  rw [if_neg c7, if_neg c7]
  by_cases c8 : a1 = nI 8
  · rw [if_pos c8, if_pos c8]; exact ⟨_, _, rfl, rfl, rfl, h1⟩
  rw [if_neg c8, if_neg c8]
  by_cases c9 : a1 = nI 9
  · rw [if_pos c9, if_pos c9]; exact ⟨_, _, rfl, rfl, rfl, h1⟩
  rw [if_neg c9, if_neg c9]
  exact ⟨_, _, rfl, rfl, rfl, h1⟩
theorem SP1_ok {N : Nat} : SP1 N Rel := by
  intro c FL M ML h a1
  have h1 := Rel_0 (v := fun _ => nI 0) h
  unfold fX6_end
  rw [nm_s]
  generalize va_up M 0 (fun _ => nI 0) = M1 at h1 ⊢
  obtain ⟨⟨t, L, t1, t2, t3, t4, t5⟩, h3, hq, hp⟩ := id h1
  have same : Rel (va_up c 0 (c 0)) FL M1 ML := Rel_mv (fun a _ _ => by
    by_cases e : a = 0
    · rw [e, va_up_self]
    · rw [va_up_ne _ _ e]) (fun _ _ => rfl) h1
  unfold fX5_end fX5_end_12 fX6_end_17
  rw [t2, t3]
  by_cases d : a1 < 0
  · rw [if_pos d, if_pos d]
    exact ⟨_, _, rfl, rfl, rfl, same⟩
  · rw [if_neg d, if_neg d]
    by_cases e : a1 ≤ nI L
    · obtain ⟨j, hj, rfl⟩ := nI_of d
      have e' := e
      rw [nI_leI hj (by omega)] at e'
      rw [if_pos e, if_pos e, nm_s, nm_s]
      refine ⟨_, _, rfl, rfl, rfl, Rel_tp (fun a q1 _ _ _ => by rw [va_up_ne _ _ q1]) ?_ ?_ (fun a ha => ?_) ⟨t, j, by omega, ?_, ?_, ?_, ?_⟩ h1⟩
      · dsimp only; rw [va_up_self, va_up_ne _ _ (by omega)]
      · dsimp only; rw [va_up_self, va_up_ne _ _ (by omega)]
      · dsimp only; rw [va_up_ne _ _ (by omega)]
      · dsimp only; rw [va_up_self, va_up_self]
      · dsimp only; rw [va_up_self]
      · rw [va_up_ne _ _ (by omega)]; exact t4
      · dsimp only; rw [va_up_ne _ _ (by omega)]; exact t5
    · rw [if_neg e, if_neg e]
      exact ⟨_, _, rfl, rfl, rfl, same⟩
