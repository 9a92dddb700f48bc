/-! the model's tokens -/
theorem isL_ok {c : Nat} (h : c < 256) : fX6_isLetter (nI c) = some (bI (iL c)) := by
  unfold fX6_isLetter fX6_isLetter_16
  by_cases a : c < 97
  · rw [if_lt a (by omega), show iL c = false from Bool.eq_false_iff.mpr (fun z => by have := iL_t.mp z; omega)]; rfl
  · rw [if_nlt (by omega) (by omega)]
    by_cases b : 122 < c
    · rw [if_lt b (by omega), show iL c = false from Bool.eq_false_iff.mpr (fun z => by have := iL_t.mp z; omega)]; rfl
    · rw [if_nlt (by omega) (by omega), show iL c = true from iL_t.mpr (by omega)]; rfl
theorem isD_ok {c : Nat} (h : c < 256) : fX6_isDigit (nI c) = some (bI (iD c)) := by
  unfold fX6_isDigit fX6_isDigit_16
  by_cases a : c < 48
  · rw [if_lt a (by omega), show iD c = false from Bool.eq_false_iff.mpr (fun z => by have := iD_t.mp z; omega)]; rfl
  · rw [if_nlt (by omega) (by omega)]
    by_cases b : 57 < c
    · rw [if_lt b (by omega), show iD c = false from Bool.eq_false_iff.mpr (fun z => by have := iD_t.mp z; omega)]; rfl
    · rw [if_nlt (by omega) (by omega), show iD c = true from iD_t.mpr (by omega)]; rfl
theorem m_skip {t : Nat → Nat} {ML : RcL} {N L : Nat} (hL : L ≤ 440) : ∀ {d u a : Nat} {M : Rc}, d < u → a + d = L → TP (M 1) t → M 4 0 = nI a → M 3 0 = nI L → ∃ M' : Rc, itn (fX6_gob N) (fun _ _ => none) u M ML = fX6_go_52 N M' ML ∧ M' 4 0 = nI (skp t d a) ∧ ∀ i, i ≠ 4 → M' i = M i
  | _, 0, _, _, h, _, _, _, _ => by omega
  | 0, u + 1, a, M, _, e, hT, h4, h3 => by
    refine ⟨M, ?_, h4, fun _ _ => rfl⟩
    rw [itn_s]
    unfold fX6_gob
    rw [h4, h3, if_le (by omega) (by omega)]
  | d + 1, u + 1, a, M, hu, e, hT, h4, h3 => by
    have ta := hT a (by omega)
    unfold skp
    by_cases c : bl (t a) = true
    · obtain ⟨M', r1, r2, r3⟩ := m_skip (t := t) (ML := ML) (N := N) hL (d := d) (u := u) (a := a + 1) (M := va_up M 4 (fun _ => nI (a + 1))) (by omega) (by omega) (by rw [va_up_ne _ _ (by omega)]; exact hT) (by rw [va_up_self]) (by rw [va_up_ne _ _ (by omega)]; exact h3)
      refine ⟨M', ?_, by rw [if_pos c]; exact r2, fun i hi => by rw [r3 i hi, va_up_ne _ _ hi]⟩
      have g39 : fX6_go_39 N (itn (fX6_gob N) (fun _ _ => none) u) M ML = itn (fX6_gob N) (fun _ _ => none) u (va_up M 4 (fun _ => nI (a + 1))) ML := by
        unfold fX6_go_39
        rw [h4, nI_add, nm_s]
      rw [itn_s, ← r1]
      generalize itn (fX6_gob N) (fun _ _ => none) u = K at g39 ⊢
      unfold fX6_gob
      rw [h4, h3, if_nle (by omega) (by omega), gdi_nI (by omega) (by omega), nI_clamp (by omega), ta.1]
      by_cases q : t a = 32
      · rw [if_eq q, g39]
      · rw [if_neq q (by omega) (by omega), gdi_nI (by omega) (by omega), if_eq (by have := bl_t.mp c; omega), g39]
    · refine ⟨M, ?_, by rw [if_neg c]; exact h4, fun _ _ => rfl⟩
      have n1 : ¬ (t a = 32 ∨ t a = 10) := fun z => c (bl_t.mpr z)
      rw [itn_s]
      unfold fX6_gob
      rw [h4, h3, if_nle (by omega) (by omega), gdi_nI (by omega) (by omega), nI_clamp (by omega), ta.1, if_neq (by omega) (by omega) (by omega), gdi_nI (by omega) (by omega), if_neq (by omega) (by omega) (by omega)]
def wrd (t : Nat → Nat) (s : Nat) : Nat → Int64
  | 0 => 0
  | i + 1 => if i < 8 then 27 * wrd t s i + (nI (t (s + i))).toInt64 - 96 else wrd t s i
def nmb (t : Nat → Nat) (s : Nat) : Nat → Int32
  | 0 => nI 0
  | i + 1 => if i < 2 then nI 10 * nmb t s i + nI (t (s + i)) - nI 48 else nmb t s i
def gd (t : Nat → Nat) (l : Bool) : Nat → Nat → Bool → Bool
  | 0, _, g => g
  | d + 1, a, g => if iL (t a) = true ∨ iD (t a) = true then gd t l d (a + 1) (g && (iL (t a) == l)) else g
theorem gd_t {t : Nat → Nat} : ∀ {d a : Nat} {g : Bool}, gd t true d a g = (g && decide (nD t d a = 0))
  | 0, a, g => by simp [gd, nD]
  | d + 1, a, g => by
    unfold gd nD
    by_cases c : iL (t a) = true
    · rw [if_pos (Or.inl c), if_pos c, gd_t, c]
      cases g <;> rfl
    · rw [if_neg c]
      by_cases e : iD (t a) = true
      · rw [if_pos (Or.inr e), if_pos e, gd_t, Bool.eq_false_iff.mpr c]
        cases g <;> simp
      · rw [if_neg (by rintro (z | z) <;> contradiction), if_neg e]
        simp
theorem gd_f {t : Nat → Nat} : ∀ {d a : Nat} {g : Bool}, gd t false d a g = (g && decide (nL t d a = 0))
  | 0, a, g => by simp [gd, nL]
  | d + 1, a, g => by
    unfold gd nL
    by_cases c : iL (t a) = true
    · rw [if_pos (Or.inl c), if_pos c, gd_f, c]
      cases g <;> simp
    · rw [if_neg c]
      by_cases e : iD (t a) = true
      · rw [if_pos (Or.inr e), if_pos e, gd_f, Bool.eq_false_iff.mpr c]
        cases g <;> rfl
      · rw [if_neg (by rintro (z | z) <;> contradiction), if_neg e]
        simp
theorem go_step {t : Nat → Nat} {M : Rc} {ML : RcL} {N s i : Nat} {x2 y0 : Int32} {K : Rc → RcL → Int32 → Int32 → Option (Rc × RcL)} (hs : s + i < 440) (h4 : M 4 0 = nI (s + i)) (h5 : M 5 0 = nI s) (h7 : M 7 0 = nmb t s i) (hw : ML 10 0 = wrd t s i) : ∃ M' ML', fX6_go_234 N K M ML x2 (nI (t (s + i))) y0 = K M' ML' x2 y0 ∧ M' 4 0 = nI (s + (i + 1)) ∧ M' 7 0 = nmb t s (i + 1) ∧ ML' 10 0 = wrd t s (i + 1) ∧ ∀ j, j ≠ 4 → j ≠ 7 → M' j = M j := by
  have g269 : ∀ ML', ∃ M', fX6_go_269 N K M ML' x2 y0 (nI (t (s + i))) = K M' ML' x2 y0 ∧ M' 4 0 = nI (s + (i + 1)) ∧ M' 7 0 = nmb t s (i + 1) ∧ ∀ j, j ≠ 4 → j ≠ 7 → M' j = M j := by
    intro ML'
    unfold fX6_go_269 nmb
    rw [h4, h5, nI_sub' (by omega), show s + i - s = i from by omega]
    by_cases c : i < 2
    · rw [if_nle (by omega) (by omega), nm_s, if_pos c]
      unfold fX6_go_299
      rw [nm_s]
      refine ⟨_, rfl, ?_, ?_, fun j q1 q2 => ?_⟩
      · rw [va_up_self, va_up_ne _ _ (by omega), h4, nI_add]; rfl
      · rw [va_up_ne _ _ (by omega), va_up_self, h7]
      · rw [va_up_ne _ _ q1, va_up_ne _ _ q2]
    · rw [if_le (by omega) (by omega), if_neg c]
      unfold fX6_go_299
      rw [nm_s]
      refine ⟨_, rfl, ?_, ?_, fun j q1 q2 => ?_⟩
      · rw [va_up_self, h4, nI_add]; rfl
      · rw [va_up_ne _ _ (by omega), h7]
      · rw [va_up_ne _ _ q1]
  unfold fX6_go_234 wrd
  rw [nm_s, h4, h5, nI_sub' (by omega), show s + i - s = i from by omega]
  by_cases c : i < 8
  · rw [if_nle (by omega) (by omega), nm_s, if_pos c]
    obtain ⟨M', a1, a2, a3, a4⟩ := g269 (va_up ML 10 (fun _ => 27 * ML 10 0 + (nI (t (s + i))).toInt64 - 96))
    refine ⟨M', _, a1, a2, a3, ?_, a4⟩
    rw [va_up_self, hw]
  · rw [if_le (by omega) (by omega), if_neg c]
    obtain ⟨M', a1, a2, a3, a4⟩ := g269 ML
    exact ⟨M', ML, a1, a2, a3, hw, a4⟩
def goX (N : Nat) (M : Rc) (ML : RcL) (l g : Bool) : Option (Rc × RcL) := if bI g = 0 then fX6_go_334 N M ML else if bI l = 0 then if M 4 0 - M 5 0 ≤ nI 2 then fX6_go_338 N M ML (bI l) else fX6_go_334 N M ML else fX6_go_338 N M ML (bI l)
theorem bI_inj {a b : Bool} : (bI a = bI b) ↔ a = b := by cases a <;> cases b <;> decide
theorem m_lump {t : Nat → Nat} {N L s : Nat} {l : Bool} (hL : L ≤ 440) : ∀ {d u i : Nat} {g : Bool} {M : Rc} {ML : RcL}, d < u → s + i + d = L → TP (M 1) t → M 4 0 = nI (s + i) → M 5 0 = nI s → M 3 0 = nI L → M 7 0 = nmb t s i → ML 10 0 = wrd t s i → ∃ M' ML', itn (fX6_go_177b N) (fun _ _ _ _ => none) u M ML (bI l) (bI g) = goX N M' ML' l (gd t l d (s + i) g) ∧ M' 4 0 = nI (s + (i + nL t d (s + i) + nD t d (s + i))) ∧ M' 7 0 = nmb t s (i + nL t d (s + i) + nD t d (s + i)) ∧ ML' 10 0 = wrd t s (i + nL t d (s + i) + nD t d (s + i)) ∧ ∀ j, j ≠ 4 → j ≠ 7 → M' j = M j
  | _, 0, _, _, _, _, h, _, _, _, _, _, _, _ => by omega
  | 0, u + 1, i, g, M, ML, _, e, hT, h4, h5, h3, h7, hw => by
    refine ⟨M, ML, ?_, h4, h7, hw, fun _ _ _ => rfl⟩
    have tp : fX6_tapeAt M ML (M 4 0) = some (nI 0) := by
      unfold fX6_tapeAt
      rw [h4, h3, if_le (by omega) (by omega)]
    rw [itn_s]
    unfold fX6_go_177b
    rw [tp, bnd_s, isL_ok (by omega), bnd_s, if_bF (by decide), bnd_s, isD_ok (by omega), bnd_s, if_bF (by decide)]
    rfl
  | d + 1, u + 1, i, g, M, ML, hu, e, hT, h4, h5, h3, h7, hw => by
    have ta := hT (s + i) (by omega)
    have tp : fX6_tapeAt M ML (M 4 0) = some (nI (t (s + i))) := by
      unfold fX6_tapeAt
      rw [h4, h3, if_nle (by omega) (by omega), gdi_nI (by omega) (by omega), nI_clamp (by omega), ta.1]
    by_cases q : iL (t (s + i)) = true ∨ iD (t (s + i)) = true
    · obtain ⟨M1, ML1, a1, a2, a3, a4, a5⟩ := go_step (t := t) (M := M) (ML := ML) (N := N) (s := s) (i := i) (x2 := bI l) (y0 := bI (g && (iL (t (s + i)) == l))) (K := itn (fX6_go_177b N) (fun _ _ _ _ => none) u) (by omega) h4 h5 h7 hw
      have s205 : fX6_go_205 N (itn (fX6_go_177b N) (fun _ _ _ _ => none) u) M ML (bI l) (bI g) = itn (fX6_go_177b N) (fun _ _ _ _ => none) u M1 ML1 (bI l) (bI (g && (iL (t (s + i)) == l))) := by
        rw [← a1]
        generalize itn (fX6_go_177b N) (fun _ _ _ _ => none) u = K
        unfold fX6_go_205 fX6_go_233
        rw [h4, gdi_nI (by omega) (by omega), nI_clamp (by omega), ta.1, nm_s]
        cases g with
        | false => rw [if_bF rfl]; rfl
        | true =>
          rw [if_bT rfl, isL_ok ta.2, bnd_s]
          by_cases z : iL (t (s + i)) = l
          · rw [if_pos (bI_inj.mpr z), z]
            cases l <;> rfl
          · rw [if_neg (fun y => z (bI_inj.mp y))]
            have : (iL (t (s + i)) == l) = false := by
              cases h1 : iL (t (s + i)) <;> cases l <;> first | rfl | exact absurd h1 z
            rw [this]; rfl
      obtain ⟨M2, ML2, b1, b2, b3, b4, b5⟩ := m_lump (t := t) (N := N) (s := s) (l := l) hL (d := d) (u := u) (i := i + 1) (g := g && (iL (t (s + i)) == l)) (M := M1) (ML := ML1) (by omega) (by omega) (by rw [a5 1 (by omega) (by omega)]; exact hT) a2 (by rw [a5 5 (by omega) (by omega)]; exact h5) (by rw [a5 3 (by omega) (by omega)]; exact h3) a3 a4
      have st : itn (fX6_go_177b N) (fun _ _ _ _ => none) (u + 1) M ML (bI l) (bI g) = itn (fX6_go_177b N) (fun _ _ _ _ => none) u M1 ML1 (bI l) (bI (g && (iL (t (s + i)) == l))) := by
        rw [itn_s]
        generalize itn (fX6_go_177b N) (fun _ _ _ _ => none) u = K at s205 ⊢
        unfold fX6_go_177b
        rw [tp, bnd_s, isL_ok ta.2, bnd_s]
        by_cases z : iL (t (s + i)) = true
        · rw [if_bT z, s205]
        · rw [if_bF (Bool.eq_false_iff.mpr z), bnd_s, isD_ok ta.2, bnd_s, if_bT (q.resolve_left z), s205]
      have ee : s + (i + 1) = s + i + 1 := by omega
      rw [ee] at b1 b2 b3 b4
      have en : i + 1 + nL t d (s + i + 1) + nD t d (s + i + 1) = i + nL t (d + 1) (s + i) + nD t (d + 1) (s + i) := by
        rw [nL, nD]
        by_cases z : iL (t (s + i)) = true
        · rw [if_pos z, if_pos z]; omega
        · rw [if_neg z, if_neg z, if_pos (q.resolve_left z), if_pos (q.resolve_left z)]; omega
      have eg : gd t l (d + 1) (s + i) g = gd t l d (s + i + 1) (g && (iL (t (s + i)) == l)) := by
        rw [gd, if_pos q]
      rw [en] at b2 b3 b4
      refine ⟨M2, ML2, ?_, b2, b3, b4, fun j q1 q2 => by rw [b5 j q1 q2, a5 j q1 q2]⟩
      rw [st, b1, eg]
    · have q1 : ¬ iL (t (s + i)) = true := fun z => q (Or.inl z)
      have q2 : ¬ iD (t (s + i)) = true := fun z => q (Or.inr z)
      have e1 : nL t (d + 1) (s + i) = 0 := by unfold nL; rw [if_neg q1, if_neg q2]
      have e2 : nD t (d + 1) (s + i) = 0 := by unfold nD; rw [if_neg q1, if_neg q2]
      rw [e1, e2]
      refine ⟨M, ML, ?_, h4, h7, hw, fun _ _ _ => rfl⟩
      rw [itn_s, gd, if_neg q]
      unfold fX6_go_177b
      rw [tp, bnd_s, isL_ok ta.2, bnd_s, if_bF (Bool.eq_false_iff.mpr q1), bnd_s, isD_ok ta.2, bnd_s, if_bF (Bool.eq_false_iff.mpr q2)]
      rfl
/-- what the model holds of the token behind a place -/
def MT (t : Nat → Nat) (L a : Nat) (M : Rc) (ML : RcL) : Prop := M 5 0 = nI (tS t L a) ∧ M 6 0 = nI (tK t L a) ∧ (tK t L a ≠ 1 → M 4 0 = nI (tE t L a)) ∧ (tK t L a = 3 → M 7 0 = nmb t (tS t L a) (tE t L a - tS t L a)) ∧ (tK t L a = 2 → ML 10 0 = wrd t (tS t L a) (tE t L a - tS t L a))
theorem goX_ok {N n l d : Nat} {M : Rc} {ML : RcL} {b : Bool} {s : Nat} (hl : l + d ≤ 440) (hs : s ≤ 440) (h4 : M 4 0 = nI (s + (l + d))) (h5 : M 5 0 = nI s) (hb : b = true → l ≠ 0) (hb2 : b = false → d ≠ 0) : goX N M ML b (if b = true then decide (d = 0) else decide (l = 0)) = some (va_up M 6 (fun _ => nI (lK l d)), ML) := by
  unfold goX fX6_go_334 fX6_go_338 fX6_go_347 lK
  rw [h4, h5, nI_sub' (by omega), show s + (l + d) - s = l + d from by omega]
  cases b with
  | true =>
    have a := hb rfl
    rw [if_pos rfl]
    by_cases c : d = 0
    · rw [if_bT (decide_eq_true c), if_bT rfl, if_bT rfl, nm_s, if_pos ⟨c, a⟩]
    · rw [if_bF (decide_eq_false c), nm_s, if_neg (by omega), if_neg (by omega)]
  | false =>
    have a := hb2 rfl
    rw [if_neg (show ¬ (false = true) from by decide)]
    by_cases c : l = 0
    · rw [if_bT (decide_eq_true c), if_bF rfl]
      by_cases e : d ≤ 2
      · rw [if_le (by omega) (by omega), if_bF rfl, nm_s, if_neg (by omega), if_pos ⟨c, a, e⟩]
      · rw [if_nle (by omega) (by omega), nm_s, if_neg (by omega), if_neg (by omega)]
    · rw [if_bF (decide_eq_false c), nm_s, if_neg (by omega), if_neg (by omega)]
theorem tokM {t : Nat → Nat} {N L a : Nat} (hN : 500 < N) (hL : L ≤ 440) (ha : a ≤ L) {M : Rc} {ML : RcL} (hT : TP (M 1) t) (h4 : M 4 0 = nI a) (h3 : M 3 0 = nI L) : ∃ M' ML', fX6_go N M ML = some (M', ML') ∧ MT t L a M' ML' ∧ ∀ i, i ≠ 4 → i ≠ 5 → i ≠ 6 → i ≠ 7 → M' i = M i := by
  obtain ⟨M1, r1, r2, r3⟩ := m_skip (t := t) (ML := ML) (N := N) hL (d := L - a) (u := N) (a := a) (M := M) (by omega) (by omega) hT h4 h3
  have b := tB_b (t := t) ha
  rw [show skp t (L - a) a = tB t L a from rfl] at r2
  unfold fX6_go
  rw [r1]
  unfold fX6_go_52
  generalize hM2 : va_up M1 5 (fun _ => M1 4 0) = M2
  have s4 : M2 4 0 = nI (tB t L a) := by rw [← hM2, va_up_ne _ _ (by omega)]; exact r2
  have s3 : M2 3 0 = nI L := by rw [← hM2, va_up_ne _ _ (by omega), r3 3 (by omega)]; exact h3
  have s5 : M2 5 0 = nI (tB t L a) := by rw [← hM2, va_up_self]; exact r2
  have s1 : TP (M2 1) t := by rw [← hM2, va_up_ne _ _ (by omega), r3 1 (by omega)]; exact hT
  have so : ∀ i, i ≠ 4 → i ≠ 5 → i ≠ 6 → i ≠ 7 → M2 i = M i := fun i q1 q2 q3 q4 => by rw [← hM2, va_up_ne _ _ q2, r3 i q1]
  rw [nm_s, s3, s5]
  have f93 : ¬ (400 ≤ tB t L a ∧ 400 < L) → ∃ M' ML', fX6_go_93 N M2 ML = some (M', ML') ∧ MT t L a M' ML' ∧ ∀ i, i ≠ 4 → i ≠ 5 → i ≠ 6 → i ≠ 7 → M' i = M i := by
    intro hc
    have eS : tS t L a = tB t L a := by unfold tS; rw [if_neg hc]
    unfold fX6_go_93
    rw [s4, s3]
    by_cases c : L ≤ tB t L a
    · have eK : tK t L a = 0 := by unfold tK; rw [if_neg hc, if_pos c]
      have eE : tE t L a = tB t L a := by unfold tE; rw [if_neg hc, if_pos c]
      rw [if_nlt c (by omega), nm_s]
      refine ⟨_, _, rfl, ⟨?_, ?_, ?_, ?_, ?_⟩, fun i q1 q2 q3 q4 => ?_⟩
      · rw [va_up_ne _ _ (by omega), eS]; exact s5
      · rw [va_up_self, eK]
      · intro _; rw [va_up_ne _ _ (by omega), eE]; exact s4
      · rw [eK]; intro z; omega
      · rw [eK]; intro z; omega
      · rw [va_up_ne _ _ q3]; exact so i q1 q2 q3 q4
    · have ta := s1 (tB t L a) (by omega)
      rw [if_lt (by omega) (by omega), gdi_nI (by omega) (by omega), nI_clamp (by omega), ta.1, nm_s, isL_ok ta.2, bnd_s]
      by_cases q : iL (t (tB t L a)) = true ∨ iD (t (tB t L a)) = true
      · have ne : t (tB t L a) ≠ 59 := by
          intro z
          rcases q with q | q
          · have := iL_t.mp q; omega
          · have := iD_t.mp q; omega
        have eK : tK t L a = lK (tl t L a) (td t L a) := by unfold tK; rw [if_neg hc, if_neg c, if_neg ne]
        have eE : tE t L a = tB t L a + tl t L a + td t L a := by unfold tE; rw [if_neg hc, if_neg c, if_neg ne]
        have nb := nLD_b (t := t) (d := L - tB t L a) (a := tB t L a)
        obtain ⟨M4, ML4, u1, u2, u3, u4, u5⟩ := m_lump (t := t) (N := N) (s := tB t L a) (l := iL (t (tB t L a))) hL (d := L - tB t L a) (u := N) (i := 0) (g := true) (M := va_up M2 7 (fun _ => nI 0)) (ML := va_up ML 10 (fun _ => 0)) (by omega) (by omega) (by rw [va_up_ne _ _ (by omega)]; exact s1) (by rw [va_up_ne _ _ (by omega)]; exact s4) (by rw [va_up_ne _ _ (by omega)]; exact s5) (by rw [va_up_ne _ _ (by omega)]; exact s3) (by rw [va_up_self]; rfl) (by rw [va_up_self]; rfl)
        rw [Nat.add_zero] at u1 u2 u3 u4
        rw [Nat.zero_add] at u2 u3 u4
        rw [show nL t (L - tB t L a) (tB t L a) = tl t L a from rfl, show nD t (L - tB t L a) (tB t L a) = td t L a from rfl] at u2 u3 u4 nb
        have gde : gd t (iL (t (tB t L a))) (L - tB t L a) (tB t L a) true = (if iL (t (tB t L a)) = true then decide (td t L a = 0) else decide (tl t L a = 0)) := by
          cases hl : iL (t (tB t L a)) with
          | true => rw [gd_t, if_pos rfl, Bool.true_and]; rfl
          | false => rw [gd_f, if_neg (by decide), Bool.true_and]; rfl
        have hd1 : iL (t (tB t L a)) = true → tl t L a ≠ 0 := by
          intro z
          unfold tl
          rw [show L - tB t L a = (L - tB t L a - 1) + 1 from by omega, nL, if_pos z]
          omega
        have hd2 : iL (t (tB t L a)) = false → td t L a ≠ 0 := by
          intro z
          have z2 : iD (t (tB t L a)) = true := q.resolve_left (by rw [z]; decide)
          unfold td
          rw [show L - tB t L a = (L - tB t L a - 1) + 1 from by omega, nD, if_neg (by rw [z]; decide), if_pos z2]
          omega
        have fin := goX_ok (N := N) (n := 0) (M := M4) (ML := ML4) (s := tB t L a) (l := tl t L a) (d := td t L a) (by omega) (by omega) (by rw [u2]) (by rw [u5 5 (by omega) (by omega), va_up_ne _ _ (by omega)]; exact s5) hd1 hd2
        rw [gde, fin] at u1
        have g160 : fX6_go_160 N M2 ML (nI (t (tB t L a))) = some (va_up M4 6 (fun _ => nI (lK (tl t L a) (td t L a))), ML4) := by
          unfold fX6_go_160
          rw [isL_ok ta.2, bnd_s, nm_s, nm_s, nm_s, nm_s]
          unfold fX6_go_177
          exact u1
        have all : ∃ M' ML', fX6_go_160 N M2 ML (nI (t (tB t L a))) = some (M', ML') ∧ MT t L a M' ML' ∧ ∀ i, i ≠ 4 → i ≠ 5 → i ≠ 6 → i ≠ 7 → M' i = M i := by
          have ed : tE t L a - tS t L a = tl t L a + td t L a := by rw [eS, eE]; omega
          refine ⟨_, _, g160, ⟨?_, ?_, ?_, ?_, ?_⟩, fun i q1 q2 q3 q4 => ?_⟩
          · rw [va_up_ne _ _ (by omega), u5 5 (by omega) (by omega), va_up_ne _ _ (by omega), eS]; exact s5
          · rw [va_up_self, eK]
          · intro _; rw [va_up_ne _ _ (by omega), u2, eE]; congr 1; omega
          · intro _; rw [va_up_ne _ _ (by omega), ed, eS]; exact u3
          · intro _; rw [ed, eS]; exact u4
          · rw [va_up_ne _ _ q3, u5 i q1 q4, va_up_ne _ _ q4]; exact so i q1 q2 q3 q4
        by_cases z : iL (t (tB t L a)) = true
        · rw [if_bT z]; exact all
        · rw [if_bF (Bool.eq_false_iff.mpr z), isD_ok ta.2, bnd_s, if_bT (q.resolve_left z)]; exact all
      · have q1 : ¬ iL (t (tB t L a)) = true := fun z => q (Or.inl z)
        have q2 : ¬ iD (t (tB t L a)) = true := fun z => q (Or.inr z)
        rw [if_bF (Bool.eq_false_iff.mpr q1), isD_ok ta.2, bnd_s, if_bF (Bool.eq_false_iff.mpr q2)]
        unfold fX6_go_146
        by_cases e : t (tB t L a) = 59
        · have eK : tK t L a = 4 := by unfold tK; rw [if_neg hc, if_neg c, if_pos e]
          have eE : tE t L a = tB t L a + 1 := by unfold tE; rw [if_neg hc, if_neg c, if_pos e]
          rw [if_eq e, nm_s, nm_s]
          refine ⟨_, _, rfl, ⟨?_, ?_, ?_, ?_, ?_⟩, fun i q1 q2 q3 q4 => ?_⟩
          · rw [va_up_ne _ _ (by omega), va_up_ne _ _ (by omega), eS]; exact s5
          · rw [va_up_ne _ _ (by omega), va_up_self, eK]
          · intro _; rw [va_up_self, va_up_ne _ _ (by omega), s4, nI_add, eE]
          · rw [eK]; intro z; omega
          · rw [eK]; intro z; omega
          · rw [va_up_ne _ _ q1, va_up_ne _ _ q3]; exact so i q1 q2 q3 q4
        · have e0 : L - tB t L a = (L - tB t L a - 1) + 1 := by omega
          have eK : tK t L a = 1 := by
            unfold tK tl td
            rw [if_neg hc, if_neg c, if_neg e, e0, nL, nD, if_neg q1, if_neg q1, if_neg q2, if_neg q2]
            rfl
          rw [if_neq e (by omega) (by omega), nm_s, nm_s]
          refine ⟨_, _, rfl, ⟨?_, ?_, ?_, ?_, ?_⟩, fun i q1 q2 q3 q4 => ?_⟩
          · rw [va_up_ne _ _ (by omega), va_up_ne _ _ (by omega), eS]; exact s5
          · rw [va_up_ne _ _ (by omega), va_up_self, eK]
          · intro z; exact absurd eK z
          · rw [eK]; intro z; omega
          · rw [eK]; intro z; omega
          · rw [va_up_ne _ _ q1, va_up_ne _ _ q3]; exact so i q1 q2 q3 q4
  by_cases c2 : L ≤ 400
  · rw [if_le c2 (by omega)]; exact f93 (by omega)
  · rw [if_nle (by omega) (by omega)]
    by_cases c1 : tB t L a < 400
    · rw [if_lt c1 (by omega)]; exact f93 (by omega)
    · rw [if_nlt (by omega) (by omega), nm_s, nm_s]
      have hc : 400 ≤ tB t L a ∧ 400 < L := by omega
      have eS : tS t L a = 400 := by unfold tS; rw [if_pos hc]
      have eK : tK t L a = 1 := by unfold tK; rw [if_pos hc]
      refine ⟨_, _, rfl, ⟨?_, ?_, ?_, ?_, ?_⟩, fun i q1 q2 q3 q4 => ?_⟩
      · rw [va_up_ne _ _ (by omega), va_up_self, eS]
      · rw [va_up_self, eK]
      · intro z; exact absurd eK z
      · rw [eK]; intro z; omega
      · rw [eK]; intro z; omega
      · rw [va_up_ne _ _ q3, va_up_ne _ _ q2]; exact so i q1 q2 q3 q4
