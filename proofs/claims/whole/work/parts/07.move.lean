/-! leaps -/
theorem leapN_stop {p x : Nx} {T : Nat} (h : x 2 (p 6 0 - 1) ≠ T) : ∀ {d : Nat}, leapN p T d x = x
  | 0 => rfl
  | d + 1 => by unfold leapN; rw [if_neg h]
theorem leapN_go {p x : Nx} {T d : Nat} (h : x 2 (p 6 0 - 1) = T) : leapN p T (d + 1) x = leapN p T d (sStep p x) := by
  rw [leapN, if_pos h]
theorem sumD_step {p x : Nx} {T : Nat} (hp : PI p) (hx : LZ p x) (hT : x 8 0 < 2 ^ 30) (h : x 2 (p 6 0 - 1) = T) (h2 : sStep p x 2 (p 6 0 - 1) = T) : sumD (sStep p x) T (p 6 0 - 1) < sumD x T (p 6 0 - 1) := by
  have hn := hp.n
  have hy := LZ_step hp hx hT
  have hw := hy.1.way hp
  obtain ⟨k, hk, e⟩ := step_ex hp hx hT
  refine sumD_lt (fun j hj => (step_mono (by omega)).1) ⟨k, ?_, by omega, ?_⟩
  · by_cases c : k = p 6 0 - 1
    · subst c; omega
    · omega
  · have a := hy.1.mono' (j := k) (k := 0) (by omega) hk
    have b := hy.1.k (k := k) hk
    omega
theorem step_out {p x : Nx} {T : Nat} (hp : PI p) (h : x 2 (p 6 0 - 1) = T) : sStep p x 2 (p 6 0 - 1) = T ∨ sStep p x 2 (p 6 0 - 1) = T + 1 := by
  have hn := hp.n
  have := step_mono (p := p) (x := x) (k := p 6 0 - 1) (by omega)
  omega
theorem leap_ok {p : Nx} (hp : PI p) {T : Nat} : ∀ {d : Nat} {x : Nx}, LZ p x → x 2 (p 6 0 - 1) = T → sumD x T (p 6 0 - 1) < d → x 8 0 + 120 * d < 2 ^ 30 → LZ p (leapN p T d x) ∧ leapN p T d x 2 (p 6 0 - 1) = T + 1 ∧ x 8 0 < leapN p T d x 8 0 ∧ leapN p T d x 8 0 ≤ x 8 0 + 120 * (sumD x T (p 6 0 - 1) + 1)
  | 0, x, hx, h, hd, hT => by omega
  | d + 1, x, hx, h, hd, hT => by
    have hn := hp.n
    have hy := LZ_step hp hx (by omega)
    have hb := sNext_b hp hx (by omega)
    rw [leapN_go h]
    rcases step_out hp h with e | e
    · have hs := sumD_step hp hx (by omega) h e
      have i := leap_ok hp (T := T) (d := d) hy e (by omega) (by rw [step_8]; omega)
      rw [step_8] at i
      exact ⟨i.1, i.2.1, by omega, by omega⟩
    · rw [leapN_stop (by omega)]
      rw [step_8]
      exact ⟨hy, e, by omega, by omega⟩
theorem leap_keep {p : Nx} {T a i : Nat} (h : a = 4 ∨ a = 6 ∨ a = 7) : ∀ {d : Nat} {x : Nx}, leapN p T d x a i = x a i
  | 0, _ => rfl
  | d + 1, x => by
    unfold leapN
    split
    · rw [leap_keep h]
      unfold sStep
      rw [round_o (by omega), up1_ne (by omega)]
    · rfl
theorem s_leap7 {p : Nx} (hp : PI p) {N : Nat} (hN : 6 < N) {T : Nat} (hTT : T < 2 ^ 31) : ∀ {d f c : Nat} {x : Nx}, LZ p x → (x 2 (p 6 0 - 1) = T → sumD x T (p 6 0 - 1) < d) → (x 2 (p 6 0 - 1) = T ∨ x 2 (p 6 0 - 1) = T + 1) → x 8 0 + 120 * d < 2 ^ 30 → d < f → c + d ≤ 1000000 → itn (fX1_leapTillOut_7b N) (fun _ _ _ _ => none) f (embP p) (embL x) (nI T) (nI c) = some (embL (leapN p T d x))
  | _, 0, _, x, _, _, _, _, h, _ => by omega
  | 0, f + 1, c, x, hx, hd, ho, hT, hf, hc => by
    have hn := hp.n
    have o := s_out (x := x) hp
    rw [itn_s]
    have z : ¬ x 2 (p 6 0 - 1) = T := fun e => by have := hd e; omega
    have hk := hx.1.k (k := p 6 0 - 1) (by omega)
    generalize itn (fX1_leapTillOut_7b N) (fun _ _ _ _ => none) f = K
    unfold fX1_leapTillOut_7b leapN
    by_cases w : 1000000 ≤ c
    · simp (disch := omega) only [↓nm_s, ↓bnd_s, ↓reduceIte, nI_add, pk_mul, nI_subdiv, nI_sub', nI_m1, nI_0m1, nI_clamp, gdi_nI, gdz_nI, nI_div, nrem, nI_ltI, nI_leI, nI_eq, leT, leF, ltT, ltF, eqT, eqF, neT, neF, z0, m1lt0, m1lt, m1le, nI_ne_neg, neg_ne_nI, embP_a, embL_a, embL_up, embL_up1, up2_ne, up2_at, up2_o, up1_ne, up1_at, bI_eq0, bI_eq1, or_true, true_or, and_true, true_and, or_false, false_or, and_false, false_and, not_true_eq_false, not_false_eq_true, if_true, if_false,  decide_true, decide_false, bI_t, bI_f, Nat.add_sub_cancel, Nat.zero_add, Nat.add_zero, Nat.mul_zero, upd_eq, upd_ne]
    · simp (disch := omega) only [↓nm_s, ↓bnd_s, ↓reduceIte, nI_add, pk_mul, nI_subdiv, nI_sub', nI_m1, nI_0m1, nI_clamp, gdi_nI, gdz_nI, nI_div, nrem, nI_ltI, nI_leI, nI_eq, leT, leF, ltT, ltF, eqT, eqF, neT, neF, z0, m1lt0, m1lt, m1le, nI_ne_neg, neg_ne_nI, embP_a, embL_a, embL_up, embL_up1, up2_ne, up2_at, up2_o, up1_ne, up1_at, bI_eq0, bI_eq1, or_true, true_or, and_true, true_and, or_false, false_or, and_false, false_and, not_true_eq_false, not_false_eq_true, if_true, if_false,  decide_true, decide_false, bI_t, bI_f, Nat.add_sub_cancel, Nat.zero_add, Nat.add_zero, Nat.mul_zero, upd_eq, upd_ne, o]
  | d + 1, f + 1, c, x, hx, hd, ho, hT, hf, hc => by
    have hn := hp.n
    have o := s_out (x := x) hp
    have hk := hx.1.k (k := p 6 0 - 1) (by omega)
    rw [itn_s]
    by_cases z : x 2 (p 6 0 - 1) = T
    · have hy := LZ_step hp hx (by omega)
      have hb := sNext_b hp hx (by omega)
      have i := s_leap7 hp hN hTT (d := d) (f := f) (c := c + 1) (x := sStep p x) hy (fun e => by have := sumD_step hp hx (by omega) z e; have := hd z; omega) (step_out hp z) (by rw [step_8]; omega) (by omega) (by omega)
      have g := s_next hp hx.1 (by omega) hN
      have r := s_round hp hN (LI_step hp hx (by omega)) (by rw [up1_at]; omega)
      rw [show sRound p (up1 x 8 (sNext p x)) = sStep p x from rfl] at r
      rw [leapN_go z]
      generalize itn (fX1_leapTillOut_7b N) (fun _ _ _ _ => none) f = K at i ⊢
      unfold fX1_leapTillOut_7b
      simp (disch := omega) only [↓nm_s, ↓bnd_s, ↓reduceIte, nI_add, pk_mul, nI_subdiv, nI_sub', nI_m1, nI_0m1, nI_clamp, gdi_nI, gdz_nI, nI_div, nrem, nI_ltI, nI_leI, nI_eq, leT, leF, ltT, ltF, eqT, eqF, neT, neF, z0, m1lt0, m1lt, m1le, nI_ne_neg, neg_ne_nI, embP_a, embL_a, embL_up, embL_up1, up2_ne, up2_at, up2_o, up1_ne, up1_at, bI_eq0, bI_eq1, or_true, true_or, and_true, true_and, or_false, false_or, and_false, false_and, not_true_eq_false, not_false_eq_true, if_true, if_false,  decide_true, decide_false, bI_t, bI_f, Nat.add_sub_cancel, Nat.zero_add, Nat.add_zero, Nat.mul_zero, upd_eq, upd_ne, o, g, r, i]
    · rw [leapN_stop z]
      generalize itn (fX1_leapTillOut_7b N) (fun _ _ _ _ => none) f = K
      unfold fX1_leapTillOut_7b
      by_cases w : 1000000 ≤ c
      · simp (disch := omega) only [↓nm_s, ↓bnd_s, ↓reduceIte, nI_add, pk_mul, nI_subdiv, nI_sub', nI_m1, nI_0m1, nI_clamp, gdi_nI, gdz_nI, nI_div, nrem, nI_ltI, nI_leI, nI_eq, leT, leF, ltT, ltF, eqT, eqF, neT, neF, z0, m1lt0, m1lt, m1le, nI_ne_neg, neg_ne_nI, embP_a, embL_a, embL_up, embL_up1, up2_ne, up2_at, up2_o, up1_ne, up1_at, bI_eq0, bI_eq1, or_true, true_or, and_true, true_and, or_false, false_or, and_false, false_and, not_true_eq_false, not_false_eq_true, if_true, if_false,  decide_true, decide_false, bI_t, bI_f, Nat.add_sub_cancel, Nat.zero_add, Nat.add_zero, Nat.mul_zero, upd_eq, upd_ne]
      · simp (disch := omega) only [↓nm_s, ↓bnd_s, ↓reduceIte, nI_add, pk_mul, nI_subdiv, nI_sub', nI_m1, nI_0m1, nI_clamp, gdi_nI, gdz_nI, nI_div, nrem, nI_ltI, nI_leI, nI_eq, leT, leF, ltT, ltF, eqT, eqF, neT, neF, z0, m1lt0, m1lt, m1le, nI_ne_neg, neg_ne_nI, embP_a, embL_a, embL_up, embL_up1, up2_ne, up2_at, up2_o, up1_ne, up1_at, bI_eq0, bI_eq1, or_true, true_or, and_true, true_and, or_false, false_or, and_false, false_and, not_true_eq_false, not_false_eq_true, if_true, if_false,  decide_true, decide_false, bI_t, bI_f, Nat.add_sub_cancel, Nat.zero_add, Nat.add_zero, Nat.mul_zero, upd_eq, upd_ne, o]
theorem sumD_100 {p x : Nx} (hp : PI p) (hx : LZ p x) : sumD x (x 2 (p 6 0 - 1)) (p 6 0 - 1) ≤ 100 := by
  have hn := hp.n
  have := sumD_le (x := x) (T := x 2 (p 6 0 - 1)) (n := p 6 0 - 1) (fun k hk => (hx.1.mono' (j := p 6 0 - 1) (k := k) (by omega) (by omega)).1)
  omega
theorem s_leap {p x : Nx} (hp : PI p) {N : Nat} (hN : 200 < N) (hx : LZ p x) (hT : x 8 0 < 2 ^ 29) : fX1_leapTillOut N (embP p) (embL x) = some (embL (sLeap p x)) := by
  have hn := hp.n
  have o := s_out (x := x) hp
  have hk := hx.1.k (k := p 6 0 - 1) (by omega)
  have h1 := sumD_100 hp hx
  have g := s_leap7 hp (N := N) (by omega) (T := x 2 (p 6 0 - 1)) (by omega) (d := 102) (f := N) (c := 0) (x := x) hx (fun _ => by omega) (Or.inl rfl) (by omega) (by omega) (by omega)
  unfold fX1_leapTillOut sLeap
  simp (disch := omega) only [↓nm_s, ↓bnd_s, ↓reduceIte, nI_add, pk_mul, nI_subdiv, nI_sub', nI_m1, nI_0m1, nI_clamp, gdi_nI, gdz_nI, nI_div, nrem, nI_ltI, nI_leI, nI_eq, leT, leF, ltT, ltF, eqT, eqF, neT, neF, z0, m1lt0, m1lt, m1le, nI_ne_neg, neg_ne_nI, embP_a, embL_a, embL_up, embL_up1, up2_ne, up2_at, up2_o, up1_ne, up1_at, bI_eq0, bI_eq1, or_true, true_or, and_true, true_and, or_false, false_or, and_false, false_and, not_true_eq_false, not_false_eq_true, if_true, if_false,  decide_true, decide_false, bI_t, bI_f, Nat.add_sub_cancel, Nat.zero_add, Nat.add_zero, Nat.mul_zero, upd_eq, upd_ne, o, fX1_leapTillOut_7, g]
theorem sLeap_ok {p x : Nx} (hp : PI p) (hx : LZ p x) (hT : x 8 0 < 2 ^ 29) : LZ p (sLeap p x) ∧ sLeap p x 2 (p 6 0 - 1) = x 2 (p 6 0 - 1) + 1 ∧ x 8 0 < sLeap p x 8 0 ∧ sLeap p x 8 0 ≤ x 8 0 + 12120 := by
  have h1 := sumD_100 hp hx
  have := leap_ok hp (T := x 2 (p 6 0 - 1)) (d := 102) hx rfl (by omega) (by omega)
  unfold sLeap
  exact ⟨this.1, this.2.1, this.2.2.1, by omega⟩
theorem sLeap_o {p x : Nx} {a i : Nat} (h : a = 4 ∨ a = 6 ∨ a = 7) : sLeap p x a i = x a i := leap_keep h
/-! minutes -/
def mIf (p : Nx) (u : Nat) (x : Nx) (s : Nat) : Nx := if x 1 s = x 2 s then up2 x 6 (s * 4 + (if s = 0 ∨ sWait x s ≠ 0 then 1 else 0)) (x 6 (s * 4 + (if s = 0 ∨ sWait x s ≠ 0 then 1 else 0)) + (u - x 8 0)) else up2 (up2 x 6 (s * 4 + 2) (x 6 (s * 4 + 2) + (min u (x 3 s - p 0 s) - x 8 0))) 6 (s * 4 + 3) (x 6 (s * 4 + 3) + (u - x 8 0 - (min u (x 3 s - p 0 s) - x 8 0)))
def upw (f : Nx → Nat → Nx) : Nat → Nat → Nx → Nx
  | _, 0, x => x
  | l, n + 1, x => upw f (l + 1) n (f x l)
def sMin (p : Nx) (u : Nat) (x : Nx) : Nx := upw (mIf p u) 0 (p 6 0) x
theorem mIf_o {p x : Nx} {u s a i : Nat} (h : a ≠ 6) : mIf p u x s a i = x a i := by
  unfold mIf
  split
  · rw [up2_ne h]
  · rw [up2_ne h, up2_ne h]
theorem upw_o {f : Nx → Nat → Nx} {a i : Nat} (hf : ∀ x k, f x k a i = x a i) : ∀ {n l : Nat} {x : Nx}, upw f l n x a i = x a i
  | 0, _, _ => rfl
  | n + 1, l, x => (upw_o hf (n := n) (l := l + 1) (x := f x l)).trans (hf x l)
theorem sMin_o {p x : Nx} {u a i : Nat} (h : a ≠ 6) : sMin p u x a i = x a i := upw_o (fun _ _ => mIf_o h)
/-- rows that are alike where they are read -/
def ln (a : Nat) : Nat := if a = 4 then 5 else if a = 5 then 20 else if a = 7 ∨ a = 8 ∨ a = 9 ∨ a = 10 then 1 else if a = 1 ∨ a = 2 ∨ a = 3 then 6 else 0
def Agr (x y : Nx) : Prop := ∀ a i, a ≠ 6 → i < ln a → y a i = x a i
theorem Agr.of6 {x y : Nx} (h : ∀ a i, a ≠ 6 → y a i = x a i) : Agr x y := fun a i ha _ => h a i ha
theorem Agr.symm {x y : Nx} (h : Agr x y) : Agr y x := fun a i h1 h2 => (h a i h1 h2).symm
theorem Agr.g6 {x y : Nx} (h : Agr x y) {a i : Nat} (ha : a = 1 ∨ a = 2 ∨ a = 3) (hi : i < 6) : y a i = x a i := h a i (by omega) (by rcases ha with rfl | rfl | rfl <;> exact hi)
theorem Agr.g4 {x y : Nx} (h : Agr x y) {i : Nat} (hi : i < 5) : y 4 i = x 4 i := h 4 i (by omega) hi
theorem Agr.g5 {x y : Nx} (h : Agr x y) {i : Nat} (hi : i < 20) : y 5 i = x 5 i := h 5 i (by omega) hi
theorem Agr.g1 {x y : Nx} (h : Agr x y) {a : Nat} (ha : a = 7 ∨ a = 8 ∨ a = 9 ∨ a = 10) : y a 0 = x a 0 := h a 0 (by omega) (by rcases ha with rfl | rfl | rfl | rfl <;> decide)
theorem LI_agr {p x y : Nx} (hp : PI p) (h : Agr x y) (hx : LI p x) : LI p y := by
  have hn := hp.n
  have hq := hp.q
  refine ⟨?_, ?_, ?_, ?_, ?_, ?_, ?_⟩
  · rw [h.g1 (by omega)]; exact hx.f
  · intro l hl
    have := hp.l hl
    rw [h.g4 (by omega), h.g6 (a := 1) (by omega) (by omega), h.g6 (a := 2) (by omega) (by omega)]
    exact hx.l hl
  · intro k hk
    rw [h.g6 (a := 1) (by omega) (by omega), h.g6 (a := 2) (by omega) (by omega), h.g1 (by omega)]
    exact hx.k hk
  · intro k hk
    rw [h.g6 (a := 1) (by omega) (by omega), h.g6 (a := 2) (by omega) (by omega)]
    exact hx.s hk
  · intro k hk
    rw [h.g6 (a := 1) (by omega) (by omega), h.g6 (a := 2) (by omega) (by omega), h.g6 (a := 3) (by omega) (by omega), h.g1 (by omega)]
    exact hx.e hk
  · intro j
    rw [h.g6 (a := 1) (by omega) (by omega), h.g6 (a := 2) (by omega) (by omega), h.g1 (by omega), h.g5 (Nat.mod_lt _ (by omega))]
    exact hx.b
  · rw [h.g1 (a := 9) (by omega), h.g1 (a := 8) (by omega), h.g1 (a := 10) (by omega)]
    exact hx.d
theorem canB_agr {p x y : Nx} (hp : PI p) (h : Agr x y) {k : Nat} (hk : k < p 6 0) : canB p y k = canB p x k := by
  have hn := hp.n
  have hq := hp.q
  rw [Bool.eq_iff_iff, canB_iff, canB_iff]
  constructor
  · rintro ⟨a, b⟩
    refine ⟨fun h0 => ?_, fun l hl e => ?_⟩
    · have := a h0
      rwa [h.g6 (a := 1) (by omega) (by omega), h.g6 (a := 2) (by omega) (by omega)] at this
    · have := b l hl e
      have := hp.l hl
      rwa [h.g6 (a := 1) (by omega) (by omega), h.g6 (a := 2) (by omega) (by omega), h.g4 (by omega)] at *
  · rintro ⟨a, b⟩
    refine ⟨fun h0 => ?_, fun l hl e => ?_⟩
    · have := a h0
      rwa [h.g6 (a := 1) (by omega) (by omega), h.g6 (a := 2) (by omega) (by omega)]
    · have := b l hl e
      have := hp.l hl
      rwa [h.g6 (a := 1) (by omega) (by omega), h.g6 (a := 2) (by omega) (by omega), h.g4 (by omega)]
theorem LZ_agr {p x y : Nx} (hp : PI p) (h : Agr x y) (hx : LZ p x) : LZ p y := by
  have hn := hp.n
  refine ⟨LI_agr hp h hx.1, ?_, ?_⟩
  · intro k h1 h2
    rw [h.g6 (a := 1) (by omega) (by omega), h.g6 (a := 2) (by omega) (by omega), h.g6 (a := 3) (by omega) (by omega), h.g1 (by omega)]
    exact hx.2.1 k h1 h2
  · intro k h1 h2
    rw [h.g6 (a := 1) (by omega) (by omega), h.g6 (a := 2) (by omega) (by omega), canB_agr hp h h2]
    exact hx.2.2 k h1 h2
theorem LZ_min {p x : Nx} (hp : PI p) {u : Nat} (hx : LZ p x) : LZ p (sMin p u x) := LZ_agr hp (Agr.of6 (fun _ _ h => sMin_o h)) hx
theorem nextF_congr {x y : Nx} : ∀ {n l a : Nat}, (∀ k, l ≤ k → k < l + n → y 1 k = x 1 k ∧ y 2 k = x 2 k ∧ y 3 k = x 3 k) → nextF y l n a = nextF x l n a
  | 0, _, _, _ => rfl
  | n + 1, l, a, h => by
    unfold nextF
    have e := h l (by omega) (by omega)
    rw [e.1, e.2.1, e.2.2]
    exact nextF_congr (fun k h1 h2 => h k (by omega) (by omega))
theorem sNext_agr {p x y : Nx} (hp : PI p) (h : Agr x y) : sNext p y = sNext p x := by
  have hn := hp.n
  exact nextF_congr (fun k _ h2 => ⟨h.g6 (by omega) (by omega), h.g6 (by omega) (by omega), h.g6 (by omega) (by omega)⟩)
theorem s_setUp {p x : Nx} (hp : PI p) (hx : LI p x) {k : Nat} (hk : k < p 6 0) (hb : x 1 k ≠ x 2 k) : fX1_setUpAt (embP p) (embL x) (nI k) = some (nI (x 3 k - p 0 k)) := by
  have hn := hp.n
  have he := hx.e hk hb
  unfold fX1_setUpAt
  simp (disch := omega) only [↓nm_s, ↓bnd_s, ↓reduceIte, nI_add, pk_mul, nI_subdiv, nI_sub', nI_m1, nI_0m1, nI_clamp, gdi_nI, gdz_nI, nI_div, nrem, nI_ltI, nI_leI, nI_eq, leT, leF, ltT, ltF, eqT, eqF, neT, neF, z0, m1lt0, m1lt, m1le, nI_ne_neg, neg_ne_nI, embP_a, embL_a, embL_up, embL_up1, up2_ne, up2_at, up2_o, up1_ne, up1_at, bI_eq0, bI_eq1, or_true, true_or, and_true, true_and, or_false, false_or, and_false, false_and, not_true_eq_false, not_false_eq_true, if_true, if_false,  decide_true, decide_false, bI_t, bI_f, Nat.add_sub_cancel, Nat.zero_add, Nat.add_zero, Nat.mul_zero, upd_eq, upd_ne]
theorem sWait_le {p x : Nx} (hx : LI p x) {k : Nat} (hk : k < p 6 0) : sWait x k ≤ x 8 0 := by
  unfold sWait
  by_cases c : k = 0
  · rw [if_pos c]; omega
  · rw [if_neg c]
    have := hx.k (k := k - 1) (by omega)
    omega
theorem s_wait {p x : Nx} (hp : PI p) (hx : LI p x) (hT : x 8 0 < 2 ^ 30) {k : Nat} (hk : k < p 6 0) : fX1_waiting (embL x) (nI k) = some (nI (sWait x k)) := by
  have hn := hp.n
  refine s_waiting (by omega) (fun h0 => ?_) ?_
  · have := hx.s (k := k - 1) (by omega)
    rwa [show k - 1 + 1 = k from by omega] at this
  · have := hx.k (k := k - 1) (by omega)
    omega
def sState (p x : Nx) (k : Nat) : Nat := if x 1 k = x 2 k then (if k = 0 ∨ sWait x k ≠ 0 then 1 else 0) else (if x 3 k - p 0 k ≤ x 8 0 then 3 else 2)
theorem s_state {p x : Nx} (hp : PI p) (hx : LI p x) (hT : x 8 0 < 2 ^ 30) {k : Nat} (hk : k < p 6 0) : fX1_stateOf (embP p) (embL x) (nI k) = some (nI (sState p x k)) := by
  have hn := hp.n
  have h3 := hx.k hk
  have a := s_isIdle (x := x) (k := k) (by omega) (by omega) (by omega)
  have w := s_wait hp hx hT hk
  have wl := sWait_le hx hk
  unfold fX1_stateOf sState
  by_cases c : x 1 k = x 2 k
  · by_cases d : k = 0
    · simp (disch := omega) only [↓nm_s, ↓bnd_s, ↓reduceIte, nI_add, pk_mul, nI_subdiv, nI_sub', nI_m1, nI_0m1, nI_clamp, gdi_nI, gdz_nI, nI_div, nrem, nI_ltI, nI_leI, nI_eq, leT, leF, ltT, ltF, eqT, eqF, neT, neF, z0, m1lt0, m1lt, m1le, nI_ne_neg, neg_ne_nI, embP_a, embL_a, embL_up, embL_up1, up2_ne, up2_at, up2_o, up1_ne, up1_at, bI_eq0, bI_eq1, or_true, true_or, and_true, true_and, or_false, false_or, and_false, false_and, not_true_eq_false, not_false_eq_true, if_true, if_false,  decide_true, decide_false, bI_t, bI_f, Nat.add_sub_cancel, Nat.zero_add, Nat.add_zero, Nat.mul_zero, upd_eq, upd_ne, a, fX1_stateOf_38]
    · by_cases e : sWait x k = 0
      · simp (disch := omega) only [↓nm_s, ↓bnd_s, ↓reduceIte, nI_add, pk_mul, nI_subdiv, nI_sub', nI_m1, nI_0m1, nI_clamp, gdi_nI, gdz_nI, nI_div, nrem, nI_ltI, nI_leI, nI_eq, leT, leF, ltT, ltF, eqT, eqF, neT, neF, z0, m1lt0, m1lt, m1le, nI_ne_neg, neg_ne_nI, embP_a, embL_a, embL_up, embL_up1, up2_ne, up2_at, up2_o, up1_ne, up1_at, bI_eq0, bI_eq1, or_true, true_or, and_true, true_and, or_false, false_or, and_false, false_and, not_true_eq_false, not_false_eq_true, if_true, if_false,  decide_true, decide_false, bI_t, bI_f, Nat.add_sub_cancel, Nat.zero_add, Nat.add_zero, Nat.mul_zero, upd_eq, upd_ne, a, w, fX1_stateOf_38]
      · simp (disch := omega) only [↓nm_s, ↓bnd_s, ↓reduceIte, nI_add, pk_mul, nI_subdiv, nI_sub', nI_m1, nI_0m1, nI_clamp, gdi_nI, gdz_nI, nI_div, nrem, nI_ltI, nI_leI, nI_eq, leT, leF, ltT, ltF, eqT, eqF, neT, neF, z0, m1lt0, m1lt, m1le, nI_ne_neg, neg_ne_nI, embP_a, embL_a, embL_up, embL_up1, up2_ne, up2_at, up2_o, up1_ne, up1_at, bI_eq0, bI_eq1, or_true, true_or, and_true, true_and, or_false, false_or, and_false, false_and, not_true_eq_false, not_false_eq_true, if_true, if_false,  decide_true, decide_false, bI_t, bI_f, Nat.add_sub_cancel, Nat.zero_add, Nat.add_zero, Nat.mul_zero, upd_eq, upd_ne, a, w, fX1_stateOf_38]
  · have g := s_setUp hp hx hk c
    have he := hx.e hk c
    by_cases d : x 3 k - p 0 k ≤ x 8 0
    · simp (disch := omega) only [↓nm_s, ↓bnd_s, ↓reduceIte, nI_add, pk_mul, nI_subdiv, nI_sub', nI_m1, nI_0m1, nI_clamp, gdi_nI, gdz_nI, nI_div, nrem, nI_ltI, nI_leI, nI_eq, leT, leF, ltT, ltF, eqT, eqF, neT, neF, z0, m1lt0, m1lt, m1le, nI_ne_neg, neg_ne_nI, embP_a, embL_a, embL_up, embL_up1, up2_ne, up2_at, up2_o, up1_ne, up1_at, bI_eq0, bI_eq1, or_true, true_or, and_true, true_and, or_false, false_or, and_false, false_and, not_true_eq_false, not_false_eq_true, if_true, if_false,  decide_true, decide_false, bI_t, bI_f, Nat.add_sub_cancel, Nat.zero_add, Nat.add_zero, Nat.mul_zero, upd_eq, upd_ne, a, g]
    · simp (disch := omega) only [↓nm_s, ↓bnd_s, ↓reduceIte, nI_add, pk_mul, nI_subdiv, nI_sub', nI_m1, nI_0m1, nI_clamp, gdi_nI, gdz_nI, nI_div, nrem, nI_ltI, nI_leI, nI_eq, leT, leF, ltT, ltF, eqT, eqF, neT, neF, z0, m1lt0, m1lt, m1le, nI_ne_neg, neg_ne_nI, embP_a, embL_a, embL_up, embL_up1, up2_ne, up2_at, up2_o, up1_ne, up1_at, bI_eq0, bI_eq1, or_true, true_or, and_true, true_and, or_false, false_or, and_false, false_and, not_true_eq_false, not_false_eq_true, if_true, if_false,  decide_true, decide_false, bI_t, bI_f, Nat.add_sub_cancel, Nat.zero_add, Nat.add_zero, Nat.mul_zero, upd_eq, upd_ne, a, g]
theorem s_min2 {p : Nx} (hp : PI p) {u : Nat} (hu : u < 2 ^ 30) (N : Nat) : ∀ {d l f : Nat} {x : Nx}, LI p x → x 8 0 ≤ u → d < f → l + d = p 6 0 → itn (fX1_countMinutes_2b N) (fun _ _ _ _ => none) f (embP p) (embL x) (nI u) (nI l) = some (embL (upw (mIf p u) l d x))
  | _, _, 0, x, _, _, h, _ => by omega
  | 0, l, f + 1, x, hx, hT, h, e => by
    have hn := hp.n
    rw [itn_s]
    unfold fX1_countMinutes_2b upw
    simp (disch := omega) only [↓nm_s, ↓bnd_s, ↓reduceIte, nI_add, pk_mul, nI_subdiv, nI_sub', nI_m1, nI_0m1, nI_clamp, gdi_nI, gdz_nI, nI_div, nrem, nI_ltI, nI_leI, nI_eq, leT, leF, ltT, ltF, eqT, eqF, neT, neF, z0, m1lt0, m1lt, m1le, nI_ne_neg, neg_ne_nI, embP_a, embL_a, embL_up, embL_up1, up2_ne, up2_at, up2_o, up1_ne, up1_at, bI_eq0, bI_eq1, or_true, true_or, and_true, true_and, or_false, false_or, and_false, false_and, not_true_eq_false, not_false_eq_true, if_true, if_false,  decide_true, decide_false, bI_t, bI_f, Nat.add_sub_cancel, Nat.zero_add, Nat.add_zero, Nat.mul_zero, upd_eq, upd_ne]
  | d + 1, l, f + 1, x, hx, hT, h, e => by
    have hn := hp.n
    have h3 := hx.k (k := l) (by omega)
    have a := s_isIdle (x := x) (k := l) (by omega) (by omega) (by omega)
    have hy : LI p (mIf p u x l) := LI_agr hp (Agr.of6 (fun _ _ h => mIf_o h)) hx
    have i := s_min2 hp hu N (d := d) (l := l + 1) (f := f) (x := mIf p u x l) hy (by rw [mIf_o (by omega)]; exact hT) (by omega) (by omega)
    rw [itn_s]
    generalize itn (fX1_countMinutes_2b N) (fun _ _ _ _ => none) f = K at i ⊢
    rw [show upw (mIf p u) l (d + 1) x = upw (mIf p u) (l + 1) d (mIf p u x l) from rfl]
    unfold fX1_countMinutes_2b
    by_cases c : x 1 l = x 2 l
    · have w := s_state hp hx (by omega) (k := l) (by omega)
      unfold sState at w
      rw [if_pos c] at w
      by_cases z : l = 0 ∨ sWait x l ≠ 0
      · rw [if_pos z] at w
        have em : mIf p u x l = up2 x 6 (l * 4 + 1) (x 6 (l * 4 + 1) + (u - x 8 0)) := by
          unfold mIf
          rw [if_pos c, if_pos z]
        rw [em] at i ⊢
        simp (disch := omega) only [↓nm_s, ↓bnd_s, ↓reduceIte, nI_add, pk_mul, nI_subdiv, nI_sub', nI_m1, nI_0m1, nI_clamp, gdi_nI, gdz_nI, nI_div, nrem, nI_ltI, nI_leI, nI_eq, leT, leF, ltT, ltF, eqT, eqF, neT, neF, z0, m1lt0, m1lt, m1le, nI_ne_neg, neg_ne_nI, embP_a, embL_a, embL_up, embL_up1, up2_ne, up2_at, up2_o, up1_ne, up1_at, bI_eq0, bI_eq1, or_true, true_or, and_true, true_and, or_false, false_or, and_false, false_and, not_true_eq_false, not_false_eq_true, if_true, if_false,  decide_true, decide_false, bI_t, bI_f, Nat.add_sub_cancel, Nat.zero_add, Nat.add_zero, Nat.mul_zero, upd_eq, upd_ne, a, w, fX1_countMinutes_103, i]
      · rw [if_neg z] at w
        have em : mIf p u x l = up2 x 6 (l * 4) (x 6 (l * 4) + (u - x 8 0)) := by
          unfold mIf
          rw [if_pos c, if_neg z]
          rfl
        rw [em] at i ⊢
        simp (disch := omega) only [↓nm_s, ↓bnd_s, ↓reduceIte, nI_add, pk_mul, nI_subdiv, nI_sub', nI_m1, nI_0m1, nI_clamp, gdi_nI, gdz_nI, nI_div, nrem, nI_ltI, nI_leI, nI_eq, leT, leF, ltT, ltF, eqT, eqF, neT, neF, z0, m1lt0, m1lt, m1le, nI_ne_neg, neg_ne_nI, embP_a, embL_a, embL_up, embL_up1, up2_ne, up2_at, up2_o, up1_ne, up1_at, bI_eq0, bI_eq1, or_true, true_or, and_true, true_and, or_false, false_or, and_false, false_and, not_true_eq_false, not_false_eq_true, if_true, if_false,  decide_true, decide_false, bI_t, bI_f, Nat.add_sub_cancel, Nat.zero_add, Nat.add_zero, Nat.mul_zero, upd_eq, upd_ne, a, w, fX1_countMinutes_103, i]
    · have he := hx.e (k := l) (by omega) c
      have g := s_setUp hp hx (k := l) (by omega) c
      by_cases y : x 8 0 < min u (x 3 l - p 0 l)
      · by_cases z : x 3 l - p 0 l < u
        · rw [Nat.min_eq_right (by omega)] at y
          have em : mIf p u x l = up2 (up2 x 6 (l * 4 + 2) (x 6 (l * 4 + 2) + (x 3 l - p 0 l - x 8 0))) 6 (l * 4 + 3) (x 6 (l * 4 + 3) + (u - x 8 0 - (x 3 l - p 0 l - x 8 0))) := by
            unfold mIf
            rw [if_neg c, Nat.min_eq_right (by omega)]
          rw [em] at i ⊢
          simp (disch := omega) only [↓nm_s, ↓bnd_s, ↓reduceIte, nI_add, pk_mul, nI_subdiv, nI_sub', nI_m1, nI_0m1, nI_clamp, gdi_nI, gdz_nI, nI_div, nrem, nI_ltI, nI_leI, nI_eq, leT, leF, ltT, ltF, eqT, eqF, neT, neF, z0, m1lt0, m1lt, m1le, nI_ne_neg, neg_ne_nI, embP_a, embL_a, embL_up, embL_up1, up2_ne, up2_at, up2_o, up1_ne, up1_at, bI_eq0, bI_eq1, or_true, true_or, and_true, true_and, or_false, false_or, and_false, false_and, not_true_eq_false, not_false_eq_true, if_true, if_false,  decide_true, decide_false, bI_t, bI_f, Nat.add_sub_cancel, Nat.zero_add, Nat.add_zero, Nat.mul_zero, upd_eq, upd_ne, a, g, fX1_countMinutes_103, i]
        · rw [Nat.min_eq_left (by omega)] at y
          have em : mIf p u x l = up2 (up2 x 6 (l * 4 + 2) (x 6 (l * 4 + 2) + (u - x 8 0))) 6 (l * 4 + 3) (x 6 (l * 4 + 3) + (u - x 8 0 - (u - x 8 0))) := by
            unfold mIf
            rw [if_neg c, Nat.min_eq_left (by omega)]
          rw [em] at i ⊢
          simp (disch := omega) only [↓nm_s, ↓bnd_s, ↓reduceIte, nI_add, pk_mul, nI_subdiv, nI_sub', nI_m1, nI_0m1, nI_clamp, gdi_nI, gdz_nI, nI_div, nrem, nI_ltI, nI_leI, nI_eq, leT, leF, ltT, ltF, eqT, eqF, neT, neF, z0, m1lt0, m1lt, m1le, nI_ne_neg, neg_ne_nI, embP_a, embL_a, embL_up, embL_up1, up2_ne, up2_at, up2_o, up1_ne, up1_at, bI_eq0, bI_eq1, or_true, true_or, and_true, true_and, or_false, false_or, and_false, false_and, not_true_eq_false, not_false_eq_true, if_true, if_false,  decide_true, decide_false, bI_t, bI_f, Nat.add_sub_cancel, Nat.zero_add, Nat.add_zero, Nat.mul_zero, upd_eq, upd_ne, a, g, fX1_countMinutes_103, i]
      · have em : mIf p u x l = up2 (up2 x 6 (l * 4 + 2) (x 6 (l * 4 + 2))) 6 (l * 4 + 3) (x 6 (l * 4 + 3) + (u - x 8 0 - 0)) := by
          unfold mIf
          rw [if_neg c, show min u (x 3 l - p 0 l) - x 8 0 = 0 from by omega]
          rfl
        rw [em] at i ⊢
        by_cases z : x 3 l - p 0 l < u
        · by_cases y2 : x 8 0 = x 3 l - p 0 l
          · simp (disch := omega) only [↓nm_s, ↓bnd_s, ↓reduceIte, nI_add, pk_mul, nI_subdiv, nI_sub', nI_m1, nI_0m1, nI_clamp, gdi_nI, gdz_nI, nI_div, nrem, nI_ltI, nI_leI, nI_eq, leT, leF, ltT, ltF, eqT, eqF, neT, neF, z0, m1lt0, m1lt, m1le, nI_ne_neg, neg_ne_nI, embP_a, embL_a, embL_up, embL_up1, up2_ne, up2_at, up2_o, up1_ne, up1_at, bI_eq0, bI_eq1, or_true, true_or, and_true, true_and, or_false, false_or, and_false, false_and, not_true_eq_false, not_false_eq_true, if_true, if_false,  decide_true, decide_false, bI_t, bI_f, Nat.add_sub_cancel, Nat.zero_add, Nat.add_zero, Nat.mul_zero, upd_eq, upd_ne, a, g, fX1_countMinutes_103, i]
          · have neg := pk_sneg (a := x 3 l - p 0 l) (b := x 8 0) (by omega) (by omega)
            have neg2 : (nI 0 < nI (x 3 l - p 0 l) - nI (x 8 0)) = False := by
              rw [z0] at neg
              apply eq_false
              intro q
              exact absurd (Int32.lt_trans neg q) (Int32.lt_irrefl)
            simp (disch := omega) only [↓nm_s, ↓bnd_s, ↓reduceIte, nI_add, pk_mul, nI_subdiv, nI_sub', nI_m1, nI_0m1, nI_clamp, gdi_nI, gdz_nI, nI_div, nrem, nI_ltI, nI_leI, nI_eq, leT, leF, ltT, ltF, eqT, eqF, neT, neF, z0, m1lt0, m1lt, m1le, nI_ne_neg, neg_ne_nI, embP_a, embL_a, embL_up, embL_up1, up2_ne, up2_at, up2_o, up1_ne, up1_at, bI_eq0, bI_eq1, or_true, true_or, and_true, true_and, or_false, false_or, and_false, false_and, not_true_eq_false, not_false_eq_true, if_true, if_false,  decide_true, decide_false, bI_t, bI_f, Nat.add_sub_cancel, Nat.zero_add, Nat.add_zero, Nat.mul_zero, upd_eq, upd_ne, a, g, fX1_countMinutes_103, neg2, i]
        · simp (disch := omega) only [↓nm_s, ↓bnd_s, ↓reduceIte, nI_add, pk_mul, nI_subdiv, nI_sub', nI_m1, nI_0m1, nI_clamp, gdi_nI, gdz_nI, nI_div, nrem, nI_ltI, nI_leI, nI_eq, leT, leF, ltT, ltF, eqT, eqF, neT, neF, z0, m1lt0, m1lt, m1le, nI_ne_neg, neg_ne_nI, embP_a, embL_a, embL_up, embL_up1, up2_ne, up2_at, up2_o, up1_ne, up1_at, bI_eq0, bI_eq1, or_true, true_or, and_true, true_and, or_false, false_or, and_false, false_and, not_true_eq_false, not_false_eq_true, if_true, if_false,  decide_true, decide_false, bI_t, bI_f, Nat.add_sub_cancel, Nat.zero_add, Nat.add_zero, Nat.mul_zero, upd_eq, upd_ne, a, g, fX1_countMinutes_103, i]
theorem s_min {p x : Nx} (hp : PI p) {u N : Nat} (hN : 6 < N) (hu : u < 2 ^ 30) (hx : LI p x) (hT : x 8 0 ≤ u) : fX1_countMinutes N (embP p) (embL x) (nI u) = some (embL (sMin p u x)) := by
  have hn := hp.n
  have g := s_min2 hp hu N (d := p 6 0) (l := 0) (f := N) (x := x) hx hT (by omega) (by omega)
  unfold fX1_countMinutes sMin
  simp (disch := omega) only [↓nm_s, ↓bnd_s, ↓reduceIte, nI_add, pk_mul, nI_subdiv, nI_sub', nI_m1, nI_0m1, nI_clamp, gdi_nI, gdz_nI, nI_div, nrem, nI_ltI, nI_leI, nI_eq, leT, leF, ltT, ltF, eqT, eqF, neT, neF, z0, m1lt0, m1lt, m1le, nI_ne_neg, neg_ne_nI, embP_a, embL_a, embL_up, embL_up1, up2_ne, up2_at, up2_o, up1_ne, up1_at, bI_eq0, bI_eq1, or_true, true_or, and_true, true_and, or_false, false_or, and_false, false_and, not_true_eq_false, not_false_eq_true, if_true, if_false,  decide_true, decide_false, bI_t, bI_f, Nat.add_sub_cancel, Nat.zero_add, Nat.add_zero, Nat.mul_zero, upd_eq, upd_ne, fX1_countMinutes_2, g]
/-! to a time -/
def sMove1 (p : Nx) (u : Nat) (x : Nx) : Nx := sRound p (up1 (sMin p u x) 8 u)
def moveN (p : Nx) (th : Nat) : Nat → Nx → Nx
  | 0, x => x
  | d + 1, x => if th ≤ x 8 0 then x else moveN p th d (sMove1 p (if sNext p x < th then sNext p x else th) x)
theorem LI_move1 {p x : Nx} (hp : PI p) (hx : LZ p x) {u : Nat} (h1 : x 8 0 ≤ u) (h2 : u ≤ sNext p x) : LI p (up1 (sMin p u x) 8 u) := by
  refine LI_time (LZ_min hp hx).1 (by rw [sMin_o (by omega)]; exact h1) (fun k hk hb => ?_)
  rw [sMin_o (by omega), sMin_o (by omega)] at hb
  rw [sMin_o (by omega)]
  exact Nat.le_trans h2 (sNext_le hk hb)
theorem LZ_move1 {p x : Nx} (hp : PI p) (hx : LZ p x) {u : Nat} (h1 : x 8 0 ≤ u) (h2 : u ≤ sNext p x) : LZ p (sMove1 p u x) := LZ_round hp (LI_move1 hp hx h1 h2)
theorem move1_8 {p x : Nx} {u : Nat} : sMove1 p u x 8 0 = u := by
  unfold sMove1
  rw [round_o (by omega), up1_at]
theorem moveN_stop {p x : Nx} {th : Nat} (h : th ≤ x 8 0) : ∀ {d : Nat}, moveN p th d x = x
  | 0 => rfl
  | d + 1 => by unfold moveN; rw [if_pos h]
theorem move_ok {p : Nx} (hp : PI p) {th : Nat} (hth : th < 2 ^ 30) : ∀ {d : Nat} {x : Nx}, LZ p x → x 8 0 ≤ th → th ≤ x 8 0 + d → LZ p (moveN p th d x) ∧ moveN p th d x 8 0 = th
  | 0, x, hx, h1, h2 => ⟨hx, by show x 8 0 = th; omega⟩
  | d + 1, x, hx, h1, h2 => by
    have hb := sNext_b hp hx (by omega)
    unfold moveN
    by_cases c : th ≤ x 8 0
    · rw [if_pos c]; exact ⟨hx, by omega⟩
    · rw [if_neg c]
      by_cases e : sNext p x < th
      · rw [if_pos e]
        exact move_ok hp hth (LZ_move1 hp hx (by omega) (by omega)) (by rw [move1_8]; omega) (by rw [move1_8]; omega)
      · rw [if_neg e]
        exact move_ok hp hth (LZ_move1 hp hx (by omega) (by omega)) (by rw [move1_8]; omega) (by rw [move1_8]; omega)
theorem s_move2 {p : Nx} (hp : PI p) {N : Nat} (hN : 6 < N) {th : Nat} (hth : th < 2 ^ 30) : ∀ {d f c : Nat} {x : Nx}, LZ p x → x 8 0 ≤ th → th ≤ x 8 0 + d → d < f → c + d ≤ 1000000 → itn (fX1_moveTo_2b N) (fun _ _ _ _ => none) f (embP p) (embL x) (nI th) (nI c) = some (embL (moveN p th d x))
  | _, 0, _, x, _, _, _, h, _ => by omega
  | 0, f + 1, c, x, hx, h1, h2, hf, hc => by
    rw [itn_s]
    generalize itn (fX1_moveTo_2b N) (fun _ _ _ _ => none) f = K
    unfold fX1_moveTo_2b moveN
    by_cases w : 1000000 ≤ c
    · simp (disch := omega) only [↓nm_s, ↓bnd_s, ↓reduceIte, nI_add, pk_mul, nI_subdiv, nI_sub', nI_m1, nI_0m1, nI_clamp, gdi_nI, gdz_nI, nI_div, nrem, nI_ltI, nI_leI, nI_eq, leT, leF, ltT, ltF, eqT, eqF, neT, neF, z0, m1lt0, m1lt, m1le, nI_ne_neg, neg_ne_nI, embP_a, embL_a, embL_up, embL_up1, up2_ne, up2_at, up2_o, up1_ne, up1_at, bI_eq0, bI_eq1, or_true, true_or, and_true, true_and, or_false, false_or, and_false, false_and, not_true_eq_false, not_false_eq_true, if_true, if_false,  decide_true, decide_false, bI_t, bI_f, Nat.add_sub_cancel, Nat.zero_add, Nat.add_zero, Nat.mul_zero, upd_eq, upd_ne]
    · simp (disch := omega) only [↓nm_s, ↓bnd_s, ↓reduceIte, nI_add, pk_mul, nI_subdiv, nI_sub', nI_m1, nI_0m1, nI_clamp, gdi_nI, gdz_nI, nI_div, nrem, nI_ltI, nI_leI, nI_eq, leT, leF, ltT, ltF, eqT, eqF, neT, neF, z0, m1lt0, m1lt, m1le, nI_ne_neg, neg_ne_nI, embP_a, embL_a, embL_up, embL_up1, up2_ne, up2_at, up2_o, up1_ne, up1_at, bI_eq0, bI_eq1, or_true, true_or, and_true, true_and, or_false, false_or, and_false, false_and, not_true_eq_false, not_false_eq_true, if_true, if_false,  decide_true, decide_false, bI_t, bI_f, Nat.add_sub_cancel, Nat.zero_add, Nat.add_zero, Nat.mul_zero, upd_eq, upd_ne]
  | d + 1, f + 1, c, x, hx, h1, h2, hf, hc => by
    rw [itn_s]
    unfold moveN
    by_cases z : th ≤ x 8 0
    · rw [if_pos z]
      generalize itn (fX1_moveTo_2b N) (fun _ _ _ _ => none) f = K
      unfold fX1_moveTo_2b
      by_cases w : 1000000 ≤ c
      · simp (disch := omega) only [↓nm_s, ↓bnd_s, ↓reduceIte, nI_add, pk_mul, nI_subdiv, nI_sub', nI_m1, nI_0m1, nI_clamp, gdi_nI, gdz_nI, nI_div, nrem, nI_ltI, nI_leI, nI_eq, leT, leF, ltT, ltF, eqT, eqF, neT, neF, z0, m1lt0, m1lt, m1le, nI_ne_neg, neg_ne_nI, embP_a, embL_a, embL_up, embL_up1, up2_ne, up2_at, up2_o, up1_ne, up1_at, bI_eq0, bI_eq1, or_true, true_or, and_true, true_and, or_false, false_or, and_false, false_and, not_true_eq_false, not_false_eq_true, if_true, if_false,  decide_true, decide_false, bI_t, bI_f, Nat.add_sub_cancel, Nat.zero_add, Nat.add_zero, Nat.mul_zero, upd_eq, upd_ne]
      · simp (disch := omega) only [↓nm_s, ↓bnd_s, ↓reduceIte, nI_add, pk_mul, nI_subdiv, nI_sub', nI_m1, nI_0m1, nI_clamp, gdi_nI, gdz_nI, nI_div, nrem, nI_ltI, nI_leI, nI_eq, leT, leF, ltT, ltF, eqT, eqF, neT, neF, z0, m1lt0, m1lt, m1le, nI_ne_neg, neg_ne_nI, embP_a, embL_a, embL_up, embL_up1, up2_ne, up2_at, up2_o, up1_ne, up1_at, bI_eq0, bI_eq1, or_true, true_or, and_true, true_and, or_false, false_or, and_false, false_and, not_true_eq_false, not_false_eq_true, if_true, if_false,  decide_true, decide_false, bI_t, bI_f, Nat.add_sub_cancel, Nat.zero_add, Nat.add_zero, Nat.mul_zero, upd_eq, upd_ne]
    · rw [if_neg z]
      have hb := sNext_b hp hx (by omega)
      have g := s_next hp hx.1 (by omega) hN
      by_cases e : sNext p x < th
      · rw [if_pos e]
        have i := s_move2 hp hN hth (d := d) (f := f) (c := c + 1) (x := sMove1 p (sNext p x) x) (LZ_move1 hp hx (by omega) (by omega)) (by rw [move1_8]; omega) (by rw [move1_8]; omega) (by omega) (by omega)
        have m := s_min hp hN (u := sNext p x) (by omega) hx.1 (by omega)
        have r := s_round hp hN (LI_move1 hp hx (u := sNext p x) (by omega) (by omega)) (by rw [up1_at]; omega)
        rw [show sRound p (up1 (sMin p (sNext p x) x) 8 (sNext p x)) = sMove1 p (sNext p x) x from rfl] at r
        generalize itn (fX1_moveTo_2b N) (fun _ _ _ _ => none) f = K at i ⊢
        unfold fX1_moveTo_2b
        simp (disch := omega) only [↓nm_s, ↓bnd_s, ↓reduceIte, nI_add, pk_mul, nI_subdiv, nI_sub', nI_m1, nI_0m1, nI_clamp, gdi_nI, gdz_nI, nI_div, nrem, nI_ltI, nI_leI, nI_eq, leT, leF, ltT, ltF, eqT, eqF, neT, neF, z0, m1lt0, m1lt, m1le, nI_ne_neg, neg_ne_nI, embP_a, embL_a, embL_up, embL_up1, up2_ne, up2_at, up2_o, up1_ne, up1_at, bI_eq0, bI_eq1, or_true, true_or, and_true, true_and, or_false, false_or, and_false, false_and, not_true_eq_false, not_false_eq_true, if_true, if_false,  decide_true, decide_false, bI_t, bI_f, Nat.add_sub_cancel, Nat.zero_add, Nat.add_zero, Nat.mul_zero, upd_eq, upd_ne, g, m, r, i]
      · rw [if_neg e]
        have i := s_move2 hp hN hth (d := d) (f := f) (c := c + 1) (x := sMove1 p th x) (LZ_move1 hp hx (by omega) (by omega)) (by rw [move1_8]; omega) (by rw [move1_8]; omega) (by omega) (by omega)
        have m := s_min hp hN (u := th) (by omega) hx.1 (by omega)
        have r := s_round hp hN (LI_move1 hp hx (u := th) (by omega) (by omega)) (by rw [up1_at]; omega)
        rw [show sRound p (up1 (sMin p th x) 8 th) = sMove1 p th x from rfl] at r
        generalize itn (fX1_moveTo_2b N) (fun _ _ _ _ => none) f = K at i ⊢
        unfold fX1_moveTo_2b
        simp (disch := omega) only [↓nm_s, ↓bnd_s, ↓reduceIte, nI_add, pk_mul, nI_subdiv, nI_sub', nI_m1, nI_0m1, nI_clamp, gdi_nI, gdz_nI, nI_div, nrem, nI_ltI, nI_leI, nI_eq, leT, leF, ltT, ltF, eqT, eqF, neT, neF, z0, m1lt0, m1lt, m1le, nI_ne_neg, neg_ne_nI, embP_a, embL_a, embL_up, embL_up1, up2_ne, up2_at, up2_o, up1_ne, up1_at, bI_eq0, bI_eq1, or_true, true_or, and_true, true_and, or_false, false_or, and_false, false_and, not_true_eq_false, not_false_eq_true, if_true, if_false,  decide_true, decide_false, bI_t, bI_f, Nat.add_sub_cancel, Nat.zero_add, Nat.add_zero, Nat.mul_zero, upd_eq, upd_ne, g, m, r, i]
theorem s_move {p x : Nx} (hp : PI p) {N : Nat} (hN : 2000 < N) {th : Nat} (hth : th < 2 ^ 30) (hx : LZ p x) (h1 : x 8 0 ≤ th) (h2 : th ≤ x 8 0 + 1000) : fX1_moveTo N (embP p) (embL x) (nI th) = some (embL (moveN p th 1000 x)) := by
  have g := s_move2 hp (N := N) (by omega) hth (d := 1000) (f := N) (c := 0) (x := x) hx h1 h2 (by omega) (by omega)
  unfold fX1_moveTo
  simp (disch := omega) only [↓nm_s, ↓bnd_s, ↓reduceIte, nI_add, pk_mul, nI_subdiv, nI_sub', nI_m1, nI_0m1, nI_clamp, gdi_nI, gdz_nI, nI_div, nrem, nI_ltI, nI_leI, nI_eq, leT, leF, ltT, ltF, eqT, eqF, neT, neF, z0, m1lt0, m1lt, m1le, nI_ne_neg, neg_ne_nI, embP_a, embL_a, embL_up, embL_up1, up2_ne, up2_at, up2_o, up1_ne, up1_at, bI_eq0, bI_eq1, or_true, true_or, and_true, true_and, or_false, false_or, and_false, false_and, not_true_eq_false, not_false_eq_true, if_true, if_false,  decide_true, decide_false, bI_t, bI_f, Nat.add_sub_cancel, Nat.zero_add, Nat.add_zero, Nat.mul_zero, upd_eq, upd_ne, fX1_moveTo_2, g]
theorem moveN_o {p : Nx} {th a i : Nat} (h : a = 4 ∨ a = 7) : ∀ {d : Nat} {x : Nx}, moveN p th d x a i = x a i
  | 0, _ => rfl
  | d + 1, x => by
    unfold moveN
    by_cases c : th ≤ x 8 0
    · rw [if_pos c]
    · rw [if_neg c, moveN_o h]
      unfold sMove1
      rw [round_o (by omega), up1_ne (by omega), sMin_o (by omega)]
/-! from the start -/
theorem s_fill5 {nU N : Nat} (hU : nU < 2 ^ 31) (v : Int32) : ∀ {d i f : Nat} {U : Nat → Int32}, d < f → i + d = nU → itn (fJ7_fill_53178_5b nU N) (fun _ _ _ _ => none) f U v (nI i) (nI nU) = some (fun j => if i ≤ j ∧ j < nU then v else U j)
  | _, _, 0, _, h, _ => by omega
  | 0, i, f + 1, U, h, e => by
    rw [itn_s]
    unfold fJ7_fill_53178_5b
    simp (disch := omega) only [↓nm_s, ↓bnd_s, ↓reduceIte, nI_add, pk_mul, nI_subdiv, nI_sub', nI_m1, nI_0m1, nI_clamp, gdi_nI, gdz_nI, nI_div, nrem, nI_ltI, nI_leI, nI_eq, leT, leF, ltT, ltF, eqT, eqF, neT, neF, z0, m1lt0, m1lt, m1le, nI_ne_neg, neg_ne_nI, embP_a, embL_a, embL_up, embL_up1, up2_ne, up2_at, up2_o, up1_ne, up1_at, bI_eq0, bI_eq1, or_true, true_or, and_true, true_and, or_false, false_or, and_false, false_and, not_true_eq_false, not_false_eq_true, if_true, if_false,  decide_true, decide_false, bI_t, bI_f, Nat.add_sub_cancel, Nat.zero_add, Nat.add_zero, Nat.mul_zero, upd_eq, upd_ne]
    congr 1
    funext j
    rw [if_neg (by omega)]
  | d + 1, i, f + 1, U, h, e => by
    have q := s_fill5 hU v (N := N) (d := d) (i := i + 1) (f := f) (U := upd U i v) (by omega) (by omega)
    rw [itn_s]
    generalize itn (fJ7_fill_53178_5b nU N) (fun _ _ _ _ => none) f = K at q ⊢
    unfold fJ7_fill_53178_5b
    simp (disch := omega) only [↓nm_s, ↓bnd_s, ↓reduceIte, nI_add, pk_mul, nI_subdiv, nI_sub', nI_m1, nI_0m1, nI_clamp, gdi_nI, gdz_nI, nI_div, nrem, nI_ltI, nI_leI, nI_eq, leT, leF, ltT, ltF, eqT, eqF, neT, neF, z0, m1lt0, m1lt, m1le, nI_ne_neg, neg_ne_nI, embP_a, embL_a, embL_up, embL_up1, up2_ne, up2_at, up2_o, up1_ne, up1_at, bI_eq0, bI_eq1, or_true, true_or, and_true, true_and, or_false, false_or, and_false, false_and, not_true_eq_false, not_false_eq_true, if_true, if_false,  decide_true, decide_false, bI_t, bI_f, Nat.add_sub_cancel, Nat.zero_add, Nat.add_zero, Nat.mul_zero, upd_eq, upd_ne, q]
    congr 1
    funext j
    by_cases c : j = i
    · subst c
      rw [if_neg (by omega), if_pos (by omega), pk_us]
    · rw [pk_un c]
      by_cases g : i ≤ j ∧ j < nU
      · rw [if_pos g, if_pos (by omega)]
      · rw [if_neg g, if_neg (by omega)]
theorem s_fill {nU N : Nat} (hU : nU < 2 ^ 31) (hN : nU < N) (v : Int32) (U : Nat → Int32) : fJ7_fill_53178 nU N U v = some (fun j => if j < nU then v else U j) := by
  have q := s_fill5 hU v (N := N) (d := nU) (i := 0) (f := N) (U := U) (by omega) (by omega)
  unfold fJ7_fill_53178
  simp only [↓nm_s, fJ7_fill_53178_5, q]
  congr 1
  funext j
  by_cases g : j < nU
  · rw [if_pos g, if_pos (by omega)]
  · rw [if_neg g, if_neg (by omega)]
def sClr (x : Nx) (C : Nat → Nat) (f : Nat) : Nx := fun a i => if a = 4 then (if i < 5 then C i else x 4 i) else if a = 1 ∨ a = 2 then (if i < 6 then 0 else x a i) else if a = 6 then (if i < 24 then 0 else x a i) else if a = 7 then f else if a = 8 ∨ a = 9 ∨ a = 10 then 0 else x a i
theorem LI_clr {p x : Nx} (hp : PI p) {C : Nat → Nat} {f : Nat} (hf : 1 ≤ f ∧ f ≤ 5) (hC : ∀ l, l < p 7 0 → 1 ≤ C l ∧ C l ≤ 20) : LI p (sClr x C f) := by
  have hn := hp.n
  have hq := hp.q
  have e1 : ∀ i, i < 6 → sClr x C f 1 i = 0 := fun i hi => by simp [sClr, hi]
  have e2 : ∀ i, i < 6 → sClr x C f 2 i = 0 := fun i hi => by simp [sClr, hi]
  have e4 : ∀ i, i < 5 → sClr x C f 4 i = C i := fun i hi => by simp [sClr, hi]
  have e7 : sClr x C f 7 0 = f := by simp [sClr]
  have e8 : sClr x C f 8 0 = 0 := by simp [sClr]
  have e9 : sClr x C f 9 0 = 0 := by simp [sClr]
  have e10 : sClr x C f 10 0 = 0 := by simp [sClr]
  refine ⟨?_, ?_, ?_, ?_, ?_, ?_, ?_⟩
  · rw [e7]; exact hf
  · intro l hl
    have := hC l hl
    have := hp.l hl
    rw [e4 l (by omega), e1 _ (by omega)]
    omega
  · intro k hk
    rw [e1 k (by omega), e2 k (by omega)]
    omega
  · intro k hk
    rw [e1 (k + 1) (by omega)]
    omega
  · intro k hk
    rw [e1 k (by omega), e2 k (by omega)]
    omega
  · intro j h1 h2
    rw [e1 0 (by omega)] at h2
    omega
  · omega
theorem s_new {p x : Nx} (hp : PI p) {C : Nat → Nat} {f N : Nat} (hN : 200 < N) (hf : 1 ≤ f ∧ f ≤ 5) (hC : ∀ l, l < p 7 0 → 1 ≤ C l ∧ C l ≤ 20) {D : Nat → Int32} (hD : ∀ l, l < 5 → D l = nI (C l)) : fX1_startAnew N (embP p) (embL x) D (nI f) = some (embL (sRound p (sClr x C f))) := by
  have r := s_round hp (N := N) (by omega) (LI_clr (x := x) hp hf hC) (by simp [sClr])
  unfold fX1_startAnew
  simp only [↓nm_s, ↓bnd_s, s_fill (show (6 : Nat) < 2 ^ 31 from by omega) (show 6 < N from by omega), s_fill (show (24 : Nat) < 2 ^ 31 from by omega) (show 24 < N from by omega)]
  rw [show (va_up (va_up (va_up (va_up (va_up (va_up (va_up (va_up (embL x) 4 (va_cpy D (embL x 4) 0 0 5)) 1 _) 2 _) 6 _) 7 (fun _ => nI f)) 8 (fun _ => nI 0)) 9 (fun _ => -1)) 10 (fun _ => -1)) = embL (sClr x C f) from ?_, r]
  · rfl
  funext a i
  by_cases h10 : a = 10
  · subst h10
    rw [va_up_self]
    simp [embL, sClr]
    decide
  rw [va_up_ne _ _ h10]
  by_cases h9 : a = 9
  · subst h9
    rw [va_up_self]
    simp [embL, sClr]
    decide
  rw [va_up_ne _ _ h9]
  by_cases h8 : a = 8
  · subst h8
    rw [va_up_self]
    simp [embL, sClr]
  rw [va_up_ne _ _ h8]
  by_cases h7 : a = 7
  · subst h7
    rw [va_up_self]
    simp [embL, sClr]
  rw [va_up_ne _ _ h7]
  by_cases h6 : a = 6
  · subst h6
    rw [va_up_self, va_up_ne _ _ (by omega), va_up_ne _ _ (by omega), va_up_ne _ _ (by omega)]
    by_cases c : i < 24
    · simp [embL, sClr, c]
    · simp [embL, sClr, c]
  rw [va_up_ne _ _ h6]
  by_cases h2 : a = 2
  · subst h2
    rw [va_up_self, va_up_ne _ _ (by omega), va_up_ne _ _ (by omega)]
    by_cases c : i < 6
    · simp [embL, sClr, c]
    · simp [embL, sClr, c]
  rw [va_up_ne _ _ h2]
  by_cases h1 : a = 1
  · subst h1
    rw [va_up_self, va_up_ne _ _ (by omega)]
    by_cases c : i < 6
    · simp [embL, sClr, c]
    · simp [embL, sClr, c]
  rw [va_up_ne _ _ h1]
  by_cases h4 : a = 4
  · subst h4
    rw [va_up_self]
    by_cases c : i < 5
    · rw [pk_cpy_in (by omega) (by omega), show 0 + (i - 0) = i from by omega, hD i c]
      simp [embL, sClr, c]
    · rw [pk_cpy_out (by omega)]
      simp [embL, sClr, c]
  rw [va_up_ne _ _ h4]
  simp [embL, sClr, h10, h9, h8, h7, h6, h2, h1, h4]
/-! copies -/
def sCpy (x y : Nx) : Nx := fun a i => if a = 1 ∨ a = 2 ∨ a = 3 then (if i < 6 then y a i else x a i) else if a = 4 then (if i < 5 then y a i else x a i) else if a = 5 then (if i < 20 then y a i else x a i) else if a = 6 then (if i < 24 then y a i else x a i) else if a = 7 ∨ a = 8 ∨ a = 9 ∨ a = 10 then y a 0 else x a i
theorem s_copy (x y : Nx) : fX1_copyFrom (embL x) (embL y) = some (embL (sCpy x y)) := by
  unfold fX1_copyFrom
  simp only [↓nm_s]
  congr 1
  funext a i
  by_cases h10 : a = 10
  · subst h10
    rw [va_up_self]
    simp [embL, sCpy]
  rw [va_up_ne _ _ h10]
  by_cases h9 : a = 9
  · subst h9
    rw [va_up_self]
    simp [embL, sCpy]
  rw [va_up_ne _ _ h9]
  by_cases h8 : a = 8
  · subst h8
    rw [va_up_self]
    simp [embL, sCpy]
  rw [va_up_ne _ _ h8]
  by_cases h7 : a = 7
  · subst h7
    rw [va_up_self]
    simp [embL, sCpy]
  rw [va_up_ne _ _ h7]
  by_cases h6 : a = 6
  · subst h6
    rw [va_up_self, va_up_ne _ _ (by omega), va_up_ne _ _ (by omega), va_up_ne _ _ (by omega), va_up_ne _ _ (by omega), va_up_ne _ _ (by omega)]
    by_cases c : i < 24
    · rw [pk_cpy_in (by omega) (by omega), show 0 + (i - 0) = i from by omega]; simp [embL, sCpy, c]
    · rw [pk_cpy_out (by omega)]; simp [embL, sCpy, c]
  rw [va_up_ne _ _ h6]
  by_cases h5 : a = 5
  · subst h5
    rw [va_up_self, va_up_ne _ _ (by omega), va_up_ne _ _ (by omega), va_up_ne _ _ (by omega), va_up_ne _ _ (by omega)]
    by_cases c : i < 20
    · rw [pk_cpy_in (by omega) (by omega), show 0 + (i - 0) = i from by omega]; simp [embL, sCpy, c]
    · rw [pk_cpy_out (by omega)]; simp [embL, sCpy, c]
  rw [va_up_ne _ _ h5]
  by_cases h4 : a = 4
  · subst h4
    rw [va_up_self, va_up_ne _ _ (by omega), va_up_ne _ _ (by omega), va_up_ne _ _ (by omega)]
    by_cases c : i < 5
    · rw [pk_cpy_in (by omega) (by omega), show 0 + (i - 0) = i from by omega]; simp [embL, sCpy, c]
    · rw [pk_cpy_out (by omega)]; simp [embL, sCpy, c]
  rw [va_up_ne _ _ h4]
  by_cases h3 : a = 3
  · subst h3
    rw [va_up_self, va_up_ne _ _ (by omega), va_up_ne _ _ (by omega)]
    by_cases c : i < 6
    · rw [pk_cpy_in (by omega) (by omega), show 0 + (i - 0) = i from by omega]; simp [embL, sCpy, c]
    · rw [pk_cpy_out (by omega)]; simp [embL, sCpy, c]
  rw [va_up_ne _ _ h3]
  by_cases h2 : a = 2
  · subst h2
    rw [va_up_self, va_up_ne _ _ (by omega)]
    by_cases c : i < 6
    · rw [pk_cpy_in (by omega) (by omega), show 0 + (i - 0) = i from by omega]; simp [embL, sCpy, c]
    · rw [pk_cpy_out (by omega)]; simp [embL, sCpy, c]
  rw [va_up_ne _ _ h2]
  by_cases h1 : a = 1
  · subst h1
    rw [va_up_self]
    by_cases c : i < 6
    · rw [pk_cpy_in (by omega) (by omega), show 0 + (i - 0) = i from by omega]; simp [embL, sCpy, c]
    · rw [pk_cpy_out (by omega)]; simp [embL, sCpy, c]
  rw [va_up_ne _ _ h1]
  simp [embL, sCpy, h10, h9, h8, h7, h6, h5, h4, h3, h2, h1]
theorem cpy_agr (x y : Nx) : Agr y (sCpy x y) := by
  intro a i h6 hi
  unfold ln at hi
  unfold sCpy
  by_cases h1 : a = 1 ∨ a = 2 ∨ a = 3
  · rw [if_pos h1, if_pos]
    rcases h1 with rfl | rfl | rfl <;> exact hi
  rw [if_neg h1]
  by_cases h4 : a = 4
  · subst h4
    rw [if_pos rfl, if_pos (show i < 5 from hi)]
  rw [if_neg h4]
  by_cases h5 : a = 5
  · subst h5
    rw [if_pos rfl, if_pos (show i < 20 from hi)]
  rw [if_neg h5, if_neg h6]
  by_cases h7 : a = 7 ∨ a = 8 ∨ a = 9 ∨ a = 10
  · rw [if_pos h7]
    have : i = 0 := by rcases h7 with rfl | rfl | rfl | rfl <;> (have : i < 1 := hi; omega)
    rw [this]
  rw [if_neg h4, if_neg h5, if_neg h7, if_neg h1] at hi
  omega
theorem cpy_6 {x y : Nx} {i : Nat} (h : i < 24) : sCpy x y 6 i = y 6 i := by
  unfold sCpy
  rw [if_neg (by omega), if_neg (by omega), if_neg (by omega), if_pos rfl, if_pos h]
