/-! tokens -/
def iL (c : Nat) : Bool := decide (97 ≤ c ∧ c ≤ 122)
def iD (c : Nat) : Bool := decide (48 ≤ c ∧ c ≤ 57)
def bl (c : Nat) : Bool := decide (c = 32 ∨ c = 10)
theorem iL_t {c : Nat} : iL c = true ↔ 97 ≤ c ∧ c ≤ 122 := decide_eq_true_iff
theorem iD_t {c : Nat} : iD c = true ↔ 48 ≤ c ∧ c ≤ 57 := decide_eq_true_iff
theorem bl_t {c : Nat} : bl c = true ↔ c = 32 ∨ c = 10 := decide_eq_true_iff
def skp (t : Nat → Nat) : Nat → Nat → Nat
  | 0, a => a
  | d + 1, a => if bl (t a) = true then skp t d (a + 1) else a
def nL (t : Nat → Nat) : Nat → Nat → Nat
  | 0, _ => 0
  | d + 1, a => if iL (t a) = true then nL t d (a + 1) + 1 else if iD (t a) = true then nL t d (a + 1) else 0
def nD (t : Nat → Nat) : Nat → Nat → Nat
  | 0, _ => 0
  | d + 1, a => if iL (t a) = true then nD t d (a + 1) else if iD (t a) = true then nD t d (a + 1) + 1 else 0
theorem skp_b {t : Nat → Nat} : ∀ {d a : Nat}, a ≤ skp t d a ∧ skp t d a ≤ a + d
  | 0, a => ⟨Nat.le_refl _, Nat.le_refl _⟩
  | d + 1, a => by
    have i := skp_b (t := t) (d := d) (a := a + 1)
    unfold skp
    by_cases c : bl (t a) = true
    · rw [if_pos c]; omega
    · rw [if_neg c]; omega
theorem nLD_b {t : Nat → Nat} : ∀ {d a : Nat}, nL t d a + nD t d a ≤ d
  | 0, a => Nat.le_refl _
  | d + 1, a => by
    have i := nLD_b (t := t) (d := d) (a := a + 1)
    unfold nL nD
    by_cases c : iL (t a) = true
    · rw [if_pos c, if_pos c]; omega
    · rw [if_neg c, if_neg c]
      by_cases e : iD (t a) = true
      · rw [if_pos e, if_pos e]; omega
      · rw [if_neg e, if_neg e]; omega
def TP (T : Nat → Int32) (t : Nat → Nat) : Prop := ∀ i, i < 440 → T i = nI (t i) ∧ t i < 256
theorem isBlank_ok {c : Nat} (h : c < 256) : fX4_isBlank (nI c) = some (bI (bl c)) := by
  unfold fX4_isBlank fX4_isBlank_12
  by_cases a : c = 32
  · rw [if_eq a, show bl c = true from bl_t.mpr (Or.inl a)]; rfl
  · rw [if_neq a (by omega) (by omega)]
    by_cases b : c = 10
    · rw [if_eq b, show bl c = true from bl_t.mpr (Or.inr b)]; rfl
    · rw [if_neq b (by omega) (by omega), show bl c = false from Bool.eq_false_iff.mpr (fun z => by have := bl_t.mp z; omega)]; rfl
theorem c_skip {T : Nat → Int32} {t : Nat → Nat} (hT : TP T t) {N L : Nat} (hL : L ≤ 440) : ∀ {d u a : Nat} {R : Rc}, d < u → a + d = L → R 5 0 = nI a → R 2 0 = nI L → ∃ R' : Rc, itn (fX4_readTokenb N) (fun _ _ => none) u T R = fX4_readToken_39 N T R' ∧ R' 5 0 = nI (skp t d a) ∧ ∀ i, i ≠ 5 → R' i = R i
  | _, 0, _, _, h, _, _, _ => by omega
  | 0, u + 1, a, R, _, e, h5, h2 => by
    refine ⟨R, ?_, h5, fun _ _ => rfl⟩
    rw [itn_s]
    unfold fX4_readTokenb
    rw [h5, h2, if_le (by omega) (by omega)]
  | d + 1, u + 1, a, R, hu, e, h5, h2 => by
    have ta := hT a (by omega)
    have b := isBlank_ok ta.2
    unfold skp
    by_cases c : bl (t a) = true
    · obtain ⟨R', r1, r2, r3⟩ := c_skip hT (N := N) hL (d := d) (u := u) (a := a + 1) (R := va_up R 5 (fun _ => nI (a + 1))) (by omega) (by omega) (by rw [va_up_self]) (by rw [va_up_ne _ _ (by omega)]; exact h2)
      refine ⟨R', ?_, by rw [if_pos c]; exact r2, fun i hi => by rw [r3 i hi, va_up_ne _ _ hi]⟩
      rw [itn_s, ← r1]
      unfold fX4_readTokenb
      rw [h5, h2, if_nle (by omega) (by omega), gdi_nI (by omega) (by omega), nI_clamp (by omega), ta.1, b, bnd_s, if_bT c, nI_add, nm_s]
    · refine ⟨R, ?_, by rw [if_neg c]; exact h5, fun _ _ => rfl⟩
      rw [itn_s]
      unfold fX4_readTokenb
      rw [h5, h2, if_nle (by omega) (by omega), gdi_nI (by omega) (by omega), nI_clamp (by omega), ta.1, b, bnd_s, if_bF (Bool.eq_false_iff.mpr c)]
theorem c_lump {T : Nat → Int32} {t : Nat → Nat} (hT : TP T t) {N L : Nat} (hL : L ≤ 440) : ∀ {d u a x y : Nat} {R : Rc}, d < u → a + d = L → R 5 0 = nI a → R 2 0 = nI L → ∃ R' : Rc, itn (fX4_readLump_4b N) (fun _ _ _ _ => none) u T R (nI x) (nI y) = fX4_readLump_71 N T R' (nI (x + nL t d a)) (nI (y + nD t d a)) ∧ R' 5 0 = nI (a + nL t d a + nD t d a) ∧ ∀ i, i ≠ 5 → R' i = R i
  | _, 0, _, _, _, _, h, _, _, _ => by omega
  | 0, u + 1, a, x, y, R, _, e, h5, h2 => by
    refine ⟨R, ?_, h5, fun _ _ => rfl⟩
    rw [itn_s]
    unfold fX4_readLump_4b
    rw [h5, h2, if_le (by omega) (by omega)]
    rfl
  | d + 1, u + 1, a, x, y, R, hu, e, h5, h2 => by
    have ta := hT a (by omega)
    have nx := fun x y => c_lump hT (N := N) hL (d := d) (u := u) (a := a + 1) (x := x) (y := y) (R := va_up R 5 (fun _ => nI (a + 1))) (by omega) (by omega) (by rw [va_up_self]) (by rw [va_up_ne _ _ (by omega)]; exact h2)
    unfold nL nD
    by_cases c : iL (t a) = true
    · have c' := iL_t.mp c
      obtain ⟨R', r1, r2, r3⟩ := nx (x + 1) y
      refine ⟨R', ?_, ?_, fun i hi => by rw [r3 i hi, va_up_ne _ _ hi]⟩
      · rw [itn_s, if_pos c, if_pos c, show x + (nL t d (a + 1) + 1) = x + 1 + nL t d (a + 1) from by omega, ← r1]
        unfold fX4_readLump_4b
        rw [h5, h2, if_nle (by omega) (by omega), gdi_nI (by omega) (by omega), nI_clamp (by omega), ta.1, nm_s, if_nlt (by omega) (by omega), if_nlt (by omega) (by omega), nI_add, nm_s]
        unfold fX4_readLump_58
        rw [h5, nI_add, nm_s]
      · rw [if_pos c, if_pos c, r2]; congr 1; omega
    · by_cases e2 : iD (t a) = true
      · have c' := iD_t.mp e2
        obtain ⟨R', r1, r2, r3⟩ := nx x (y + 1)
        refine ⟨R', ?_, ?_, fun i hi => by rw [r3 i hi, va_up_ne _ _ hi]⟩
        · rw [itn_s, if_neg c, if_neg c, if_pos e2, if_pos e2, show y + (nD t d (a + 1) + 1) = y + 1 + nD t d (a + 1) from by omega, ← r1]
          unfold fX4_readLump_4b
          rw [h5, h2, if_nle (by omega) (by omega), gdi_nI (by omega) (by omega), nI_clamp (by omega), ta.1, nm_s, if_lt (by omega) (by omega)]
          unfold fX4_readLump_43
          rw [if_nlt (by omega) (by omega), if_nlt (by omega) (by omega), nI_add, nm_s]
          unfold fX4_readLump_58
          rw [h5, nI_add, nm_s]
        · rw [if_neg c, if_neg c, if_pos e2, if_pos e2, r2]; congr 1; omega
      · refine ⟨R, ?_, by rw [if_neg c, if_neg c, if_neg e2, if_neg e2]; exact h5, fun _ _ => rfl⟩
        have n1 : ¬ (97 ≤ t a ∧ t a ≤ 122) := fun z => c (iL_t.mpr z)
        have n2 : ¬ (48 ≤ t a ∧ t a ≤ 57) := fun z => e2 (iD_t.mpr z)
        have f43 : fX4_readLump_43 N (itn (fX4_readLump_4b N) (fun _ _ _ _ => none) u) T R (nI x) (nI y) (nI (t a)) = fX4_readLump_71 N T R (nI x) (nI y) := by
          unfold fX4_readLump_43
          by_cases q : t a < 48
          · rw [if_lt q (by omega)]
          · rw [if_nlt (by omega) (by omega), if_lt (by omega) (by omega)]
        rw [itn_s, if_neg c, if_neg c, if_neg e2, if_neg e2]
        generalize itn (fX4_readLump_4b N) (fun _ _ _ _ => none) u = K at f43 ⊢
        unfold fX4_readLump_4b
        rw [h5, h2, if_nle (by omega) (by omega), gdi_nI (by omega) (by omega), nI_clamp (by omega), ta.1, nm_s]
        by_cases q : t a < 97
        · rw [if_lt q (by omega), f43]; rfl
        · rw [if_nlt (by omega) (by omega), if_lt (by omega) (by omega), f43]; rfl
def cs (k : Nat) : Nat := if k = 0 then 1 else if k = 1 then 0 else k
def lK (l d : Nat) : Nat := if d = 0 ∧ l ≠ 0 then 2 else if l = 0 ∧ d ≠ 0 ∧ d ≤ 2 then 3 else 1
theorem c_71 {T : Nat → Int32} {R : Rc} {N l d : Nat} (hl : l ≤ 440) (hd : d ≤ 440) : fX4_readLump_71 N T R (nI l) (nI d) = some (va_up R 6 (fun _ => nI (cs (lK l d)))) := by
  have h87 : lK l d ≠ 2 → fX4_readLump_87 N T R (nI l) (nI d) = some (va_up R 6 (fun _ => nI (cs (lK l d)))) := by
    intro hz
    unfold fX4_readLump_87 fX4_readLump_108
    unfold lK at hz ⊢
    by_cases a : d = 0 ∧ l ≠ 0
    · rw [if_pos a] at hz; exact absurd rfl hz
    · rw [if_neg a]
      by_cases b : l = 0
      · rw [if_e0 b]
        by_cases c : d = 0
        · rw [if_le0 c, if_neg (by omega)]; rfl
        · rw [if_nle0 c (by omega)]
          by_cases e : d ≤ 2
          · rw [if_nlt e (by omega), if_pos ⟨b, c, e⟩]; rfl
          · rw [if_lt (by omega) (by omega), if_neg (by omega)]; rfl
      · rw [if_n0 b (by omega), if_neg (by omega)]; rfl
  unfold fX4_readLump_71
  by_cases a : d = 0
  · rw [if_e0 a]
    by_cases b : l = 0
    · rw [if_le0 b, h87 (by unfold lK; rw [if_neg (by omega), if_neg (by omega)]; omega)]
    · rw [if_nle0 b (by omega), nm_s]
      unfold lK
      rw [if_pos ⟨a, b⟩]; rfl
  · rw [if_n0 a (by omega), h87 (by unfold lK; rw [if_neg (by omega)]; split <;> omega)]
/-- the token behind a place: start, sort (0 end, 1 none, 2 word, 3 number, 4 sign), end -/
def tB (t : Nat → Nat) (L a : Nat) : Nat := skp t (L - a) a
def tl (t : Nat → Nat) (L a : Nat) : Nat := nL t (L - tB t L a) (tB t L a)
def td (t : Nat → Nat) (L a : Nat) : Nat := nD t (L - tB t L a) (tB t L a)
def tS (t : Nat → Nat) (L a : Nat) : Nat := if 400 ≤ tB t L a ∧ 400 < L then 400 else tB t L a
def tK (t : Nat → Nat) (L a : Nat) : Nat := if 400 ≤ tB t L a ∧ 400 < L then 1 else if L ≤ tB t L a then 0 else if t (tB t L a) = 59 then 4 else lK (tl t L a) (td t L a)
def tE (t : Nat → Nat) (L a : Nat) : Nat := if 400 ≤ tB t L a ∧ 400 < L then tB t L a else if L ≤ tB t L a then tB t L a else if t (tB t L a) = 59 then tB t L a + 1 else tB t L a + tl t L a + td t L a
theorem tB_b {t : Nat → Nat} {L a : Nat} (h : a ≤ L) : a ≤ tB t L a ∧ tB t L a ≤ L := by
  have := skp_b (t := t) (d := L - a) (a := a)
  unfold tB
  omega
theorem tE_b {t : Nat → Nat} {L a : Nat} (h : a ≤ L) : a ≤ tE t L a ∧ tE t L a ≤ L ∧ tS t L a ≤ tE t L a := by
  have b := tB_b (t := t) h
  have n := nLD_b (t := t) (d := L - tB t L a) (a := tB t L a)
  unfold tE tS tl td
  by_cases c : 400 ≤ tB t L a ∧ 400 < L
  · rw [if_pos c, if_pos c]; omega
  · rw [if_neg c, if_neg c]
    by_cases d : L ≤ tB t L a
    · rw [if_pos d]; omega
    · rw [if_neg d]
      by_cases e : t (tB t L a) = 59
      · rw [if_pos e]; omega
      · rw [if_neg e]; omega
theorem tokC {T : Nat → Int32} {t : Nat → Nat} (hT : TP T t) {N L a : Nat} (hN : 500 < N) (hL : L ≤ 440) (ha : a ≤ L) {R : Rc} (h5 : R 5 0 = nI a) (h2 : R 2 0 = nI L) : ∃ R' : Rc, fX4_readToken N T R = some R' ∧ R' 5 0 = nI (tE t L a) ∧ R' 6 0 = nI (cs (tK t L a)) ∧ R' 7 0 = nI (tS t L a) ∧ ∀ i, i ≠ 5 → i ≠ 6 → i ≠ 7 → R' i = R i := by
  obtain ⟨R1, r1, r2, r3⟩ := c_skip hT (N := N) hL (d := L - a) (u := N) (a := a) (R := R) (by omega) (by omega) h5 h2
  have b := tB_b (t := t) ha
  rw [show skp t (L - a) a = tB t L a from rfl] at r2
  have h2' : R1 2 0 = nI L := by rw [r3 2 (by omega)]; exact h2
  unfold fX4_readToken
  rw [r1]
  unfold fX4_readToken_39
  generalize hR2 : va_up R1 7 (fun _ => R1 5 0) = R2
  have s5 : R2 5 0 = nI (tB t L a) := by rw [← hR2, va_up_ne _ _ (by omega)]; exact r2
  have s2 : R2 2 0 = nI L := by rw [← hR2, va_up_ne _ _ (by omega)]; exact h2'
  have s7 : R2 7 0 = nI (tB t L a) := by rw [← hR2, va_up_self]; exact r2
  have so : ∀ i, i ≠ 5 → i ≠ 6 → i ≠ 7 → R2 i = R i := fun i q1 q2 q3 => by rw [← hR2, va_up_ne _ _ q3, r3 i q1]
  rw [nm_s, s5, s2]
  have f82 : ¬ (400 ≤ tB t L a ∧ 400 < L) → ∃ R' : Rc, fX4_readToken_82 N T R2 = some R' ∧ R' 5 0 = nI (tE t L a) ∧ R' 6 0 = nI (cs (tK t L a)) ∧ R' 7 0 = nI (tS t L a) ∧ ∀ i, i ≠ 5 → i ≠ 6 → i ≠ 7 → R' i = R i := by
    intro hc
    unfold fX4_readToken_82 tE tK tS
    rw [s5, s2, if_neg hc, if_neg hc, if_neg hc]
    by_cases c : L ≤ tB t L a
    · rw [if_nlt c (by omega), if_pos c, if_pos c, nm_s]
      refine ⟨_, rfl, ?_, ?_, ?_, fun i q1 q2 q3 => ?_⟩
      · rw [va_up_ne _ _ (by omega)]; exact s5
      · rw [va_up_self]; rfl
      · rw [va_up_ne _ _ (by omega)]; exact s7
      · rw [va_up_ne _ _ q2]; exact so i q1 q2 q3
    · have ta := hT (tB t L a) (by omega)
      rw [if_lt (by omega) (by omega), if_neg c, if_neg c, gdi_nI (by omega) (by omega), nI_clamp (by omega), ta.1]
      by_cases e : t (tB t L a) = 59
      · rw [if_eq e, if_pos e, if_pos e, nm_s, nm_s]
        refine ⟨_, rfl, ?_, ?_, ?_, fun i q1 q2 q3 => ?_⟩
        · rw [va_up_ne _ _ (by omega), va_up_self, nI_add]
        · rw [va_up_self]; rfl
        · rw [va_up_ne _ _ (by omega), va_up_ne _ _ (by omega)]; exact s7
        · rw [va_up_ne _ _ q2, va_up_ne _ _ q1]; exact so i q1 q2 q3
      · obtain ⟨R3, u1, u2, u3⟩ := c_lump hT (N := N) hL (d := L - tB t L a) (u := N) (a := tB t L a) (x := 0) (y := 0) (R := R2) (by omega) (by omega) s5 s2
        have nb := nLD_b (t := t) (d := L - tB t L a) (a := tB t L a)
        rw [Nat.zero_add, Nat.zero_add, c_71 (by omega) (by omega)] at u1
        rw [if_neq e (by omega) (by omega), if_neg e, if_neg e]
        unfold fX4_readLump
        rw [nm_s, nm_s]
        unfold fX4_readLump_4
        rw [u1, bnd_s]
        refine ⟨_, rfl, ?_, ?_, ?_, fun i q1 q2 q3 => ?_⟩
        · rw [va_up_ne _ _ (by omega)]; exact u2
        · rw [va_up_self]; rfl
        · rw [va_up_ne _ _ (by omega), u3 7 (by omega)]; exact s7
        · rw [va_up_ne _ _ q2, u3 i q1]; exact so i q1 q2 q3
  by_cases c1 : tB t L a < 400
  · rw [if_lt c1 (by omega)]; exact f82 (by omega)
  · rw [if_nlt (by omega) (by omega)]
    by_cases c2 : L ≤ 400
    · rw [if_le c2 (by omega)]; exact f82 (by omega)
    · rw [if_nle (by omega) (by omega), nm_s, nm_s]
      unfold tE tK tS
      rw [if_pos ⟨by omega, by omega⟩, if_pos ⟨by omega, by omega⟩, if_pos ⟨by omega, by omega⟩]
      refine ⟨_, rfl, ?_, ?_, ?_, fun i q1 q2 q3 => ?_⟩
      · rw [va_up_ne _ _ (by omega), va_up_ne _ _ (by omega)]; exact s5
      · rw [va_up_self]; rfl
      · rw [va_up_ne _ _ (by omega), va_up_self]
      · rw [va_up_ne _ _ q2, va_up_ne _ _ q3]; exact so i q1 q2 q3
