/-! choices over naturals -/
theorem if_le {α : Type} {a b : Nat} {x y : α} (h : a ≤ b) (hb : b < 2 ^ 31) : (if nI a ≤ nI b then x else y) = x := if_pos (by rw [nI_leI (by omega) hb]; exact h)
theorem if_nle {α : Type} {a b : Nat} {x y : α} (h : b < a) (ha : a < 2 ^ 31) : (if nI a ≤ nI b then x else y) = y := if_neg (by rw [nI_leI ha (by omega)]; omega)
theorem if_lt {α : Type} {a b : Nat} {x y : α} (h : a < b) (hb : b < 2 ^ 31) : (if nI a < nI b then x else y) = x := if_pos (by rw [nI_ltI (by omega) hb]; exact h)
theorem if_nlt {α : Type} {a b : Nat} {x y : α} (h : b ≤ a) (ha : a < 2 ^ 31) : (if nI a < nI b then x else y) = y := if_neg (by rw [nI_ltI ha (by omega)]; omega)
theorem if_eq {α : Type} {a b : Nat} {x y : α} (h : a = b) : (if nI a = nI b then x else y) = x := if_pos (by rw [h])
theorem if_neq {α : Type} {a b : Nat} {x y : α} (h : a ≠ b) (ha : a < 2 ^ 31) (hb : b < 2 ^ 31) : (if nI a = nI b then x else y) = y := if_neg (by rw [nI_eq ha hb]; exact h)
theorem if_e0 {α : Type} {a : Nat} {x y : α} (h : a = 0) : (if nI a = 0 then x else y) = x := if_pos (by rw [h]; rfl)
theorem if_n0 {α : Type} {a : Nat} {x y : α} (h : a ≠ 0) (ha : a < 2 ^ 31) : (if nI a = 0 then x else y) = y := if_neg (by rw [z0, nI_eq ha (by omega)]; exact h)
theorem if_l0 {α : Type} {a : Nat} {x y : α} (h : a < 2 ^ 31) : (if nI a < 0 then x else y) = y := if_neg (by rw [z0, nI_ltI h (by omega)]; omega)
theorem if_le0 {α : Type} {a : Nat} {x y : α} (h : a = 0) : (if nI a ≤ 0 then x else y) = x := if_pos (by rw [h]; decide)
theorem if_nle0 {α : Type} {a : Nat} {x y : α} (h : a ≠ 0) (ha : a < 2 ^ 31) : (if nI a ≤ 0 then x else y) = y := if_neg (by rw [z0, nI_leI ha (by omega)]; omega)
theorem if_bT {α : Type} {b : Bool} {x y : α} (h : b = true) : (if bI b = 0 then x else y) = y := by subst h; exact if_neg (by decide)
theorem if_bF {α : Type} {b : Bool} {x y : α} (h : b = false) : (if bI b = 0 then x else y) = x := by subst h; exact if_pos (by decide)
/-! what the model lays down of a look -/
def lay1 (n : Nat) (v : Int32) (M : Rc) : Rc := va_up (va_up M 16 (upd (M 16) (58 * n + (M 21 0).toNatClampNeg) v)) 21 (fun _ => M 21 0 + nI 1)
def lay (n : Nat) : List Int32 → Rc → Rc
  | [], M => M
  | v :: R, M => lay n R (lay1 n v M)
theorem lay_app {n : Nat} : ∀ {A B : List Int32} {M : Rc}, lay n (A ++ B) M = lay n B (lay n A M)
  | [], _, _ => rfl
  | v :: A, B, M => lay_app (A := A) (B := B) (M := lay1 n v M)
theorem lay1_o {n : Nat} {v : Int32} {M : Rc} {a : Nat} (h : a ≠ 16 ∧ a ≠ 21) : lay1 n v M a = M a := by
  unfold lay1
  rw [va_up_ne _ _ h.2, va_up_ne _ _ h.1]
theorem lay1_21 {n j : Nat} {v : Int32} {M : Rc} (h : M 21 0 = nI j) : lay1 n v M 21 0 = nI (j + 1) := by
  unfold lay1
  rw [va_up_self, h, nI_add]
theorem lay1_16 {n j i : Nat} {v : Int32} {M : Rc} (hj : j < 2 ^ 31) (h : M 21 0 = nI j) : lay1 n v M 16 i = if i = 58 * n + j then v else M 16 i := by
  unfold lay1
  rw [va_up_ne _ _ (show (16 : Nat) ≠ 21 from by omega), va_up_self, h, nI_clamp hj]
  by_cases c : i = 58 * n + j
  · rw [if_pos c, upd_eq c]
  · rw [if_neg c, upd_ne c]
theorem lay_o {n a : Nat} (h : a ≠ 16 ∧ a ≠ 21) : ∀ {R : List Int32} {M : Rc}, lay n R M a = M a
  | [], _ => rfl
  | v :: R, M => (lay_o h (R := R) (M := lay1 n v M)).trans (lay1_o h)
theorem lay_21 {n : Nat} : ∀ {R : List Int32} {M : Rc} {j : Nat}, M 21 0 = nI j → lay n R M 21 0 = nI (j + R.length)
  | [], _, _, h => h
  | v :: R, M, j, h => by
    have := lay_21 (n := n) (R := R) (M := lay1 n v M) (j := j + 1) (lay1_21 h)
    rw [show lay n (v :: R) M = lay n R (lay1 n v M) from rfl, this, List.length_cons]
    congr 1
    omega
theorem lay_16 {n : Nat} : ∀ {R : List Int32} {M : Rc} {j i : Nat}, j + R.length < 2 ^ 31 → M 21 0 = nI j → lay n R M 16 i = if 58 * n + j ≤ i ∧ i < 58 * n + j + R.length then R.getD (i - (58 * n + j)) 0 else M 16 i
  | [], _, j, i, _, _ => by
    rw [if_neg (by simp only [List.length_nil]; omega)]
    rfl
  | v :: R, M, j, i, hl, h => by
    rw [List.length_cons] at hl
    have a := lay_16 (n := n) (R := R) (M := lay1 n v M) (j := j + 1) (i := i) (by omega) (lay1_21 h)
    rw [show lay n (v :: R) M = lay n R (lay1 n v M) from rfl, a, lay1_16 (by omega) h, List.length_cons]
    by_cases c : i = 58 * n + j
    · rw [if_neg (by omega), if_pos c, if_pos (by omega), c, Nat.sub_self]
      rfl
    · rw [if_neg c]
      by_cases d : 58 * n + (j + 1) ≤ i ∧ i < 58 * n + (j + 1) + R.length
      · rw [if_pos d, if_pos (by omega), show i - (58 * n + j) = (i - (58 * n + (j + 1))) + 1 from by omega]
        rfl
      · rw [if_neg d, if_neg (by omega)]
theorem lays_ok {M : Rc} {ML : RcL} {n j : Nat} {v : Int32} (hn : n < 1500) (hj : j < 58) (h : M 21 0 = nI j) : fX6_lays_ M ML (nI (58 * n)) v = some (lay1 n v M) := by
  unfold fX6_lays_ lay1
  rw [h, nI_add, gdi_nI (by omega) (by omega), nm_s, nm_s, nI_clamp (by omega), va_up_ne _ _ (show (21 : Nat) ≠ 16 from by omega), h, nI_clamp (by omega)]
/-! the row of a look -/
def eL (x : Nx) (k : Nat) : Int32 := if x 1 k = x 2 k then -1 else nI (x 3 k - x 8 0)
def eS (p x : Nx) (k : Nat) : Int32 := if x 1 k = x 2 k then nI 0 else nI (x 3 k - p 0 k - x 8 0)
def eK (p x : Nx) (k : Nat) : Int32 := if x 1 k = x 2 k then -1 else nI (sKind p (x 7 0) (x 1 k - 1))
def eB (p x : Nx) (k : Nat) : Int32 := if x 2 k = 0 then -1 else nI (sKind p (x 7 0) (x 2 k - 1))
def kds (p x : Nx) : Nat → Nat → List Int32
  | _, 0 => []
  | m, w + 1 => nI (sKind p (x 7 0) m) :: kds p x (m + 1) w
def frs (p x : Nx) : Nat → Nat → List Int32
  | _, 0 => []
  | l, d + 1 => nI (sFree p x l) :: frs p x (l + 1) d
def stR (p x : Nx) (k : Nat) : List Int32 := eL x k :: eS p x k :: eK p x k :: eB p x k :: nI (sWait x k) :: kds p x (x 1 k) (sWait x k)
def rowF (p x : Nx) : Nat → Nat → List Int32
  | _, 0 => frs p x 0 (p 7 0) ++ [nI (place p x)]
  | l, d + 1 => stR p x l ++ rowF p x (l + 1) d
theorem kds_len {p x : Nx} : ∀ {w m : Nat}, (kds p x m w).length = w
  | 0, _ => rfl
  | w + 1, m => by rw [kds, List.length_cons, kds_len]
theorem frs_len {p x : Nx} : ∀ {d l : Nat}, (frs p x l d).length = d
  | 0, _ => rfl
  | d + 1, l => by rw [frs, List.length_cons, frs_len]
theorem stR_len {p x : Nx} {k : Nat} : (stR p x k).length = sWait x k + 5 := by
  unfold stR
  simp only [List.length_cons, kds_len]
theorem rowF_len {p x : Nx} (hx : LI p x) : ∀ {d l : Nat}, l + d = p 6 0 → 0 < p 6 0 → (rowF p x l d).length + x 2 (p 6 0 - 1) ≤ 5 * d + p 7 0 + 1 + (if l = 0 then x 1 0 else x 2 (l - 1))
  | 0, l, e, h0 => by
    unfold rowF
    rw [List.length_append, frs_len, List.length_singleton, if_neg (by omega), show l - 1 = p 6 0 - 1 from by omega]
    omega
  | d + 1, l, e, h0 => by
    have i := rowF_len hx (d := d) (l := l + 1) (by omega) h0
    have a := hx.k (k := l) (by omega)
    rw [if_neg (by omega), show l + 1 - 1 = l from rfl] at i
    unfold rowF
    rw [List.length_append, stR_len]
    unfold sWait
    by_cases c : l = 0
    · subst c
      rw [if_pos rfl, if_pos rfl]
      omega
    · have b := hx.s (k := l - 1) (by omega)
      rw [show l - 1 + 1 = l from by omega] at b
      rw [if_neg c, if_neg c]
      omega
theorem row_len {p x : Nx} (hp : PI p) (hx : LI p x) : (rowF p x 0 (p 6 0)).length ≤ 56 := by
  have h1 := hp.n
  have h2 := hp.q
  have a := rowF_len hx (d := p 6 0) (l := 0) (by omega) (by omega)
  have b := hx.way hp
  rw [if_pos rfl] at a
  omega
theorem me_kds {p g x : Nx} {ML : RcL} {N n k : Nat} {K : Rc → RcL → Int32 → Int32 → Int32 → Option (Rc × RcL)} (hp : PI p) (hx : LI p x) (hn : n < 1500) (hk : k < p 6 0) : ∀ {d i j u : Nat} {M : Rc}, d < u → i + d = sWait x k → RelS p g x (M 13) → M 21 0 = nI j → j + d ≤ 57 → itn (fX6_meets_133b N K) (fun _ _ _ _ _ _ => none) u M ML (nI n) (nI (58 * n)) (nI k) (nI i) = K (lay n (kds p x (x 1 k + i) d) M) ML (nI n) (nI (58 * n)) (nI (k + 1))
  | _, _, _, 0, _, h, _, _, _, _ => by omega
  | 0, i, j, u + 1, M, _, e, h, h21, hj => by
    have hn6 := hp.n
    have w := m_wait hp hk (h.2.2 k hk)
    have w20 := sWait_20 hp hx hk
    rw [itn_s]
    unfold fX6_meets_133b kds lay
    simp (disch := omega) only [↓nm_s, ↓bnd_s, ↓reduceIte, nI_add, pk_mul, nI_subdiv, nI_sub', nI_m1, nI_0m1, nI_clamp, gdi_nI, gdz_nI, nI_div, nrem, nI_ltI, nI_leI, nI_eq, leT, leF, ltT, ltF, eqT, eqF, neT, neF, z0, m1lt0, m1lt, m1le, nI_ne_neg, neg_ne_nI, embP_a, embL_a, embL_up, embL_up1, up2_ne, up2_at, up2_o, up1_ne, up1_at, bI_eq0, bI_eq1, or_true, true_or, and_true, true_and, or_false, false_or, and_false, false_and, not_true_eq_false, not_false_eq_true, if_true, if_false,  decide_true, decide_false, bI_t, bI_f, Nat.add_sub_cancel, Nat.zero_add, Nat.add_zero, Nat.mul_zero, upd_eq, upd_ne, w]
  | d + 1, i, j, u + 1, M, hu, e, h, h21, hj => by
    have hn6 := hp.n
    have w := m_wait hp hk (h.2.2 k hk)
    have w20 := sWait_20 hp hx hk
    have q := ((h.2.2 k hk).2.2.2.2 i (by omega)).1
    have l1 := lays_ok (M := M) (ML := ML) (n := n) (v := nI (sKind p (x 7 0) (x 1 k + i))) hn (by omega) h21
    have r := me_kds (ML := ML) (N := N) (K := K) hp hx hn hk (d := d) (i := i + 1) (j := j + 1) (u := u) (M := lay1 n (nI (sKind p (x 7 0) (x 1 k + i))) M) (by omega) (by omega) (by rw [lay1_o (by omega)]; exact h) (lay1_21 h21) (by omega)
    rw [itn_s]
    generalize itn (fX6_meets_133b N K) (fun _ _ _ _ _ _ => none) u = K2 at r ⊢
    unfold fX6_meets_133b kds lay
    simp (disch := omega) only [↓nm_s, ↓bnd_s, ↓reduceIte, nI_add, pk_mul, nI_subdiv, nI_sub', nI_m1, nI_0m1, nI_clamp, gdi_nI, gdz_nI, nI_div, nrem, nI_ltI, nI_leI, nI_eq, leT, leF, ltT, ltF, eqT, eqF, neT, neF, z0, m1lt0, m1lt, m1le, nI_ne_neg, neg_ne_nI, embP_a, embL_a, embL_up, embL_up1, up2_ne, up2_at, up2_o, up1_ne, up1_at, bI_eq0, bI_eq1, or_true, true_or, and_true, true_and, or_false, false_or, and_false, false_and, not_true_eq_false, not_false_eq_true, if_true, if_false,  decide_true, decide_false, bI_t, bI_f, Nat.add_sub_cancel, Nat.zero_add, Nat.add_zero, Nat.mul_zero, upd_eq, upd_ne, w, q, l1, r]
    rfl
theorem me_92 {p g x : Nx} {ML : RcL} {N n k j : Nat} {v : Int32} {K : Rc → RcL → Int32 → Int32 → Int32 → Option (Rc × RcL)} {M : Rc} (hp : PI p) (hx : LI p x) (hn : n < 1500) (hN : 100 < N) (hk : k < p 6 0) (h : RelS p g x (M 13)) (h21 : M 21 0 = nI j) (hj : j + 4 + sWait x k ≤ 57) : fX6_meets_92 N K M ML (nI n) (nI (58 * n)) (nI k) (nI (58 * n)) v = K (lay n (v :: eK p x k :: eB p x k :: nI (sWait x k) :: kds p x (x 1 k) (sWait x k)) M) ML (nI n) (nI (58 * n)) (nI (k + 1)) := by
  have hn6 := hp.n
  have w20 := sWait_20 hp hx hk
  have D := h.2.2 k hk
  have w := m_wait hp hk D
  have l1 := lays_ok (M := M) (ML := ML) (v := v) hn (by omega) h21
  have g1 := lay1_21 (n := n) (v := v) h21
  have o1 : lay1 n v M 13 = M 13 := lay1_o (by omega)
  have l2 := lays_ok (M := lay1 n v M) (ML := ML) (v := eK p x k) hn (by omega) g1
  have g2 := lay1_21 (n := n) (v := eK p x k) g1
  have o2 : lay1 n (eK p x k) (lay1 n v M) 13 = M 13 := (lay1_o (by omega)).trans o1
  have l3 := lays_ok (M := lay1 n (eK p x k) (lay1 n v M)) (ML := ML) (v := eB p x k) hn (by omega) g2
  have g3 := lay1_21 (n := n) (v := eB p x k) g2
  have o3 : lay1 n (eB p x k) (lay1 n (eK p x k) (lay1 n v M)) 13 = M 13 := (lay1_o (by omega)).trans o2
  have l4 := lays_ok (M := lay1 n (eB p x k) (lay1 n (eK p x k) (lay1 n v M))) (ML := ML) (v := nI (sWait x k)) hn (by omega) g3
  have g4 := lay1_21 (n := n) (v := nI (sWait x k)) g3
  have o4 : lay1 n (nI (sWait x k)) (lay1 n (eB p x k) (lay1 n (eK p x k) (lay1 n v M))) 13 = M 13 := (lay1_o (by omega)).trans o3
  have r := me_kds (g := g) (ML := ML) (N := N) (K := K) hp hx hn hk (d := sWait x k) (i := 0) (j := j + 1 + 1 + 1 + 1) (u := N) (M := lay1 n (nI (sWait x k)) (lay1 n (eB p x k) (lay1 n (eK p x k) (lay1 n v M)))) (by omega) (by omega) (by rw [o4]; exact h) g4 (by omega)
  have i0 : fX6_its (M 13) (nI k) (nI 0) = some (eK p x k) := (m_its (c := 0) (by omega)).trans (congrArg some D.1)
  have i1 : fX6_its (M 13) (nI k) (nI 1) = some (eB p x k) := (m_its (c := 1) (by omega)).trans (congrArg some D.2.1)
  unfold fX6_meets_92
  rw [l1, bnd_s, o1, i0, bnd_s, l2, bnd_s, o2, i1, bnd_s, l3, bnd_s, o3, w, bnd_s, l4, bnd_s, nm_s]
  unfold fX6_meets_133
  rw [r]
  rfl
theorem me_st {p g x : Nx} {ML : RcL} {N n k j : Nat} {K : Rc → RcL → Int32 → Int32 → Int32 → Option (Rc × RcL)} {M : Rc} (hp : PI p) (hx : LI p x) (hT : x 8 0 < 2 ^ 30) (hn : n < 1500) (hN : 100 < N) (hk : k < p 6 0) (h : RelS p g x (M 13)) (h21 : M 21 0 = nI j) (hj : j + 5 + sWait x k ≤ 57) : fX6_meets_13b N K M ML (nI n) (nI (58 * n)) (nI k) = K (lay n (stR p x k) M) ML (nI n) (nI (58 * n)) (nI (k + 1)) := by
  have hn6 := hp.n
  have D := h.2.2 k hk
  have id := m_idle hp hk D
  have h48 := h.2.1.1.1
  have l1 := lays_ok (M := M) (ML := ML) (v := eL x k) hn (by omega) h21
  have g1 := lay1_21 (n := n) (v := eL x k) h21
  have o1 : lay1 n (eL x k) M 13 = M 13 := lay1_o (by omega)
  have r := fun v => me_92 (ML := ML) (N := N) (K := K) (v := v) (M := lay1 n (eL x k) M) hp hx hn hN hk (by rw [o1]; exact h) g1 (by omega)
  have S1 := h.1.1.2.1
  unfold fX6_meets_13b
  rw [S1, if_nle (by omega) (by omega), id, bnd_s, nm_s]
  by_cases c : x 1 k = x 2 k
  · have e1 : eL x k = -1 := if_pos c
    have e2 : eS p x k = nI 0 := if_pos c
    rw [if_bT (decide_eq_true c)]
    unfold fX6_meets_52
    rw [← e1, l1, bnd_s, if_bT (decide_eq_true c)]
    unfold fX6_meets_76
    rw [r, ← e2]
    rfl
  · have E := hx.e hk c
    have B := D.2.2.1 c
    have e1 : eL x k = nI (x 3 k - x 8 0) := if_neg c
    have e2 : eS p x k = nI (x 3 k - p 0 k - x 8 0) := if_neg c
    have i3 : fX6_its (M 13) (nI k) (nI 3) = some (nI (x 3 k)) := (m_its (c := 3) (by omega)).trans (congrArg some B.2.1)
    have i2 : fX6_its (M 13) (nI k) (nI 2) = some (nI (x 3 k - p 0 k)) := (m_its (c := 2) (by omega)).trans (congrArg some B.1)
    rw [if_bF (decide_eq_false c), i3, bnd_s, h48, nI_sub' (by omega), ← e1]
    unfold fX6_meets_52
    rw [l1, bnd_s, if_bF (decide_eq_false c), o1, i2, bnd_s, h48]
    by_cases d : x 8 0 ≤ x 3 k - p 0 k
    · rw [if_le d (by omega), bnd_s, nI_sub' d, ← e2, r]
      rfl
    · rw [if_nle (by omega) (by omega)]
      unfold fX6_meets_76
      rw [show nI 0 = eS p x k from by rw [e2, show x 3 k - p 0 k - x 8 0 = 0 from by omega], r]
      rfl
theorem me_frs {p g x : Nx} {ML : RcL} {N n : Nat} (hp : PI p) (hg : GI p g) (hx : LI p x) (hT : x 8 0 < 2 ^ 30) (hn : n < 1500) (hN : 100 < N) : ∀ {d l j u : Nat} {M : Rc}, d < u → l + d = p 7 0 → RelS p g x (M 13) → M 21 0 = nI j → j + d + 1 ≤ 57 → itn (fX6_meets_181b N) (fun _ _ _ _ _ => none) u M ML (nI n) (nI (58 * n)) (nI l) = fX6_meets_237 N (lay n (frs p x l d ++ [nI (place p x)]) M) ML (nI n) (nI (58 * n))
  | _, _, _, 0, _, h, _, _, _, _ => by omega
  | 0, l, j, u + 1, M, _, e, h, h21, hj => by
    have hq := hp.q
    have s14 := h.1.1.2.2.1
    have s35 := h.1.1.2.2.2
    have s50 := h.2.1.1.2.2.1
    have pr := m_perR hg h.1 (N := N) (by omega)
    have hf := hx.f
    have h8 := hg.1
    have h9 := hg.2.2.1
    have hs := sumG_le hg (r := p 8 0) (Nat.le_refl _)
    have h1 := hx.k (k := 0) (by have := hp.n; omega)
    rw [itn_s]
    unfold fX6_meets_181b frs
    rw [s14, if_le (by omega) (by omega), s35]
    have l1 := lays_ok (M := M) (ML := ML) (v := nI (place p x)) hn (by omega) h21
    by_cases c : p 8 0 = 0
    · have z9 : p 9 0 = 0 := by rw [h9, c]; rfl
      have zp : place p x = 0 := by unfold place; rw [z9, Nat.zero_mul, if_pos rfl]
      rw [zp] at l1 ⊢
      rw [if_e0 c]
      unfold fX6_meets_234
      rw [l1, bnd_s]
      rfl
    · have hb : p 9 0 * x 7 0 ≤ 120 * 5 := Nat.mul_le_mul (by omega) hf.2
      have hb0 : 0 < p 9 0 * x 7 0 := Nat.mul_pos (by omega) (by omega)
      rw [if_n0 c (by omega), pr, bnd_s, gdz_nI hb0 (by omega), s50, nI_div (by omega) hb0 (by omega), pk_mul, nI_subdiv]
      have zp : place p x = x 1 0 % (p 9 0 * x 7 0) := by unfold place; rw [if_neg (by omega)]
      rw [← zp]
      unfold fX6_meets_234
      rw [l1, bnd_s]
      rfl
  | d + 1, l, j, u + 1, M, hu, e, h, h21, hj => by
    have hq := hp.q
    have s14 := h.1.1.2.2.1
    have q := h.2.1.2 l (by omega)
    have l1 := lays_ok (M := M) (ML := ML) (v := nI (sFree p x l)) hn (by omega) h21
    have r := me_frs (g := g) (ML := ML) (N := N) hp hg hx hT hn hN (d := d) (l := l + 1) (j := j + 1) (u := u) (M := lay1 n (nI (sFree p x l)) M) (by omega) (by omega) (by rw [lay1_o (by omega)]; exact h) (lay1_21 h21) (by omega)
    rw [itn_s]
    generalize itn (fX6_meets_181b N) (fun _ _ _ _ _ => none) u = K2 at r ⊢
    unfold fX6_meets_181b frs
    simp (disch := omega) only [↓nm_s, ↓bnd_s, ↓reduceIte, nI_add, pk_mul, nI_subdiv, nI_sub', nI_m1, nI_0m1, nI_clamp, gdi_nI, gdz_nI, nI_div, nrem, nI_ltI, nI_leI, nI_eq, leT, leF, ltT, ltF, eqT, eqF, neT, neF, z0, m1lt0, m1lt, m1le, nI_ne_neg, neg_ne_nI, embP_a, embL_a, embL_up, embL_up1, up2_ne, up2_at, up2_o, up1_ne, up1_at, bI_eq0, bI_eq1, or_true, true_or, and_true, true_and, or_false, false_or, and_false, false_and, not_true_eq_false, not_false_eq_true, if_true, if_false,  decide_true, decide_false, bI_t, bI_f, Nat.add_sub_cancel, Nat.zero_add, Nat.add_zero, Nat.mul_zero, upd_eq, upd_ne, s14, q, l1, r]
    rfl
theorem me_row {p g x : Nx} {ML : RcL} {N n : Nat} (hp : PI p) (hg : GI p g) (hx : LI p x) (hT : x 8 0 < 2 ^ 30) (hn : n < 1500) (hN : 100 < N) : ∀ {d l j u : Nat} {M : Rc}, d < u → l + d = p 6 0 → RelS p g x (M 13) → M 21 0 = nI j → j + (rowF p x l d).length ≤ 57 → itn (fX6_meets_13b N) (fun _ _ _ _ _ => none) u M ML (nI n) (nI (58 * n)) (nI l) = fX6_meets_237 N (lay n (rowF p x l d) M) ML (nI n) (nI (58 * n))
  | _, _, _, 0, _, h, _, _, _, _ => by omega
  | 0, l, j, u + 1, M, _, e, h, h21, hj => by
    have hn6 := hp.n
    have hq := hp.q
    have s1 := h.1.1.2.1
    unfold rowF at hj
    rw [List.length_append, frs_len, List.length_singleton] at hj
    have r := me_frs (g := g) (ML := ML) (N := N) hp hg hx hT hn hN (d := p 7 0) (l := 0) (j := j) (u := N) (M := M) (by omega) (by omega) h h21 (by omega)
    rw [itn_s]
    unfold fX6_meets_13b rowF
    rw [s1, if_le (by omega) (by omega), nm_s]
    unfold fX6_meets_181
    exact r
  | d + 1, l, j, u + 1, M, hu, e, h, h21, hj => by
    unfold rowF at hj
    rw [List.length_append, stR_len] at hj
    have a := me_st (g := g) (ML := ML) (N := N) (K := itn (fX6_meets_13b N) (fun _ _ _ _ _ => none) u) (M := M) hp hx hT hn hN (k := l) (by omega) h h21 (by omega)
    have r := me_row (g := g) (ML := ML) (N := N) hp hg hx hT hn hN (d := d) (l := l + 1) (j := j + (stR p x l).length) (u := u) (M := lay n (stR p x l) M) (by omega) (by omega) (by rw [lay_o (by omega)]; exact h) (lay_21 h21) (by rw [stR_len]; omega)
    rw [itn_s, a, r, show rowF p x l (d + 1) = stR p x l ++ rowF p x (l + 1) d from rfl, lay_app]
