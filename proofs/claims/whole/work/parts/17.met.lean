/-! padding, sums, comparing -/
theorem me_pad {ML : RcL} {N n : Nat} (hn : n < 1500) : ∀ {d j u : Nat} {M : Rc}, d < u → j + d = 58 → M 21 0 = nI j → itn (fX6_meets_237b N) (fun _ _ _ _ => none) u M ML (nI n) (nI (58 * n)) = fX6_meets_263 N (lay n (List.replicate d (nI 0)) M) ML (nI n) (nI (58 * n)) 7 (nI 0)
  | _, _, 0, _, h, _, _ => by omega
  | 0, j, u + 1, M, _, e, h21 => by
    rw [itn_s]
    unfold fX6_meets_237b
    rw [h21, if_le (by omega) (by omega), nm_s, nm_s]
    rfl
  | d + 1, j, u + 1, M, hu, e, h21 => by
    have l1 := lays_ok (M := M) (ML := ML) (v := nI 0) hn (by omega) h21
    have r := me_pad (ML := ML) (N := N) hn (d := d) (j := j + 1) (u := u) (M := lay1 n (nI 0) M) (by omega) (by omega) (lay1_21 h21)
    rw [itn_s]
    generalize itn (fX6_meets_237b N) (fun _ _ _ _ => none) u = K2 at r ⊢
    unfold fX6_meets_237b
    rw [h21, if_nle (by omega) (by omega), l1, bnd_s, r]
    rfl
def smF (f : Nat → Int32) : Nat → Nat → Int64 → Int64
  | _, 0, a => a
  | i, d + 1, a => smF f (i + 1) d (31 * a + (f i).toInt64)
theorem smF_congr {f g : Nat → Int32} : ∀ {d i : Nat} {a : Int64}, (∀ j, i ≤ j → j < i + d → f j = g j) → smF f i d a = smF g i d a
  | 0, _, _, _ => rfl
  | d + 1, i, a, h => by
    unfold smF
    rw [h i (by omega) (by omega)]
    exact smF_congr (fun j h1 h2 => h j (by omega) (by omega))
theorem me_sum {ML : RcL} {M : Rc} {N n : Nat} (hn : n < 1500) : ∀ {d i u : Nat} {a : Int64}, d < u → i + d = 58 → itn (fX6_meets_263b N) (fun _ _ _ _ _ _ => none) u M ML (nI n) (nI (58 * n)) a (nI i) = some (va_up M 17 (upd (M 17) n (M 13 48)), va_up ML 18 (vp_updL (ML 18) n (smF (fun j => M 16 (58 * n + j)) i d a)))
  | _, _, 0, _, h, _ => by omega
  | 0, i, u + 1, a, _, e => by
    rw [itn_s]
    unfold fX6_meets_263b
    rw [if_le (by omega) (by omega), gdi_nI (by omega) (by omega), nI_clamp (by omega), nm_s, gdi_nI (by omega) (by omega), nm_s]
    rfl
  | d + 1, i, u + 1, a, hu, e => by
    have r := me_sum (ML := ML) (M := M) (N := N) hn (d := d) (i := i + 1) (u := u) (a := 31 * a + (M 16 (58 * n + i)).toInt64) (by omega) (by omega)
    rw [itn_s]
    generalize itn (fX6_meets_263b N) (fun _ _ _ _ _ _ => none) u = K2 at r ⊢
    unfold fX6_meets_263b
    rw [if_nle (by omega) (by omega), nI_add, gdi_nI (by omega) (by omega), nI_clamp (by omega), nm_s, nI_add, nm_s, r]
    rfl
def rw0 (p x : Nx) (i : Nat) : Int32 := (rowF p x 0 (p 6 0)).getD i 0
theorem getD_app_l {A B : List Int32} {i : Nat} (h : i < A.length) : (A ++ B).getD i 0 = A.getD i 0 := by
  simp only [List.getD_eq_getElem?_getD, List.getElem?_append_left h]
theorem getD_app_r {A B : List Int32} {i : Nat} : (A ++ B).getD (A.length + i) 0 = B.getD i 0 := by
  simp only [List.getD_eq_getElem?_getD]
  rw [List.getElem?_append_right (by omega), show A.length + i - A.length = i from by omega]
theorem getD_rep {d i : Nat} : (List.replicate d (nI 0)).getD i 0 = nI 0 := by
  simp only [List.getD_eq_getElem?_getD, List.getElem?_replicate]
  by_cases c : i < d
  · rw [if_pos c]; rfl
  · rw [if_neg c]; rfl
theorem getD_over {A : List Int32} {i : Nat} (h : A.length ≤ i) : A.getD i 0 = nI 0 := by
  simp only [List.getD_eq_getElem?_getD, List.getElem?_eq_none h]
  rfl
theorem m_meets {p g x : Nx} {M : Rc} {ML : RcL} {N n : Nat} (hp : PI p) (hg : GI p g) (hx : LI p x) (hT : x 8 0 < 2 ^ 30) (hn : n < 1500) (hN : 100 < N) (h : RelS p g x (M 13)) : ∃ M', fX6_meets N M ML (nI n) = some (M', va_up ML 18 (vp_updL (ML 18) n (smF (rw0 p x) 0 58 7))) ∧ (∀ a, a ≠ 16 → a ≠ 17 → a ≠ 21 → M' a = M a) ∧ M' 17 = upd (M 17) n (nI (x 8 0)) ∧ (∀ i, i < 58 → M' 16 (58 * n + i) = rw0 p x i) ∧ ∀ i, i < 58 * n → M' 16 i = M 16 i := by
  have hn6 := hp.n
  have ln := row_len hp hx
  generalize hM0 : va_up M 21 (fun _ => nI 0) = M0
  have m13 : M0 13 = M 13 := by rw [← hM0, va_up_ne _ _ (by omega)]
  have m21 : M0 21 0 = nI 0 := by rw [← hM0, va_up_self]
  have m16 : M0 16 = M 16 := by rw [← hM0, va_up_ne _ _ (by omega)]
  have a := me_row (g := g) (ML := ML) (N := N) hp hg hx hT hn hN (d := p 6 0) (l := 0) (j := 0) (u := N) (M := M0) (by omega) (by omega) (by rw [m13]; exact h) m21 (by omega)
  have b21 := lay_21 (n := n) (R := rowF p x 0 (p 6 0)) m21
  rw [Nat.zero_add] at b21
  have b := me_pad (ML := ML) (N := N) hn (d := 58 - (rowF p x 0 (p 6 0)).length) (j := (rowF p x 0 (p 6 0)).length) (u := N) (M := lay n (rowF p x 0 (p 6 0)) M0) (by omega) (by omega) b21
  rw [← lay_app] at b
  have e16 : ∀ i, lay n (rowF p x 0 (p 6 0) ++ List.replicate (58 - (rowF p x 0 (p 6 0)).length) (nI 0)) M0 16 i = if 58 * n ≤ i ∧ i < 58 * n + 58 then rw0 p x (i - 58 * n) else M 16 i := by
    intro i
    rw [lay_16 (j := 0) (by rw [List.length_append, List.length_replicate]; omega) m21, m16, List.length_append, List.length_replicate]
    by_cases c : 58 * n ≤ i ∧ i < 58 * n + 58
    · rw [if_pos c, if_pos (by omega), Nat.add_zero]
      unfold rw0
      by_cases d : i - 58 * n < (rowF p x 0 (p 6 0)).length
      · rw [getD_app_l d]
      · rw [show i - 58 * n = (rowF p x 0 (p 6 0)).length + (i - 58 * n - (rowF p x 0 (p 6 0)).length) from by omega, getD_app_r, getD_rep, getD_over (by omega)]
    · rw [if_neg c, if_neg (by omega)]
  generalize hM1 : lay n (rowF p x 0 (p 6 0) ++ List.replicate (58 - (rowF p x 0 (p 6 0)).length) (nI 0)) M0 = M1 at b e16
  have o1 : ∀ a, a ≠ 16 → a ≠ 21 → M1 a = M a := by
    intro a h1 h2
    rw [← hM1, lay_o ⟨h1, h2⟩, ← hM0, va_up_ne _ _ h2]
  have s := me_sum (ML := ML) (M := M1) (N := N) hn (d := 58) (i := 0) (u := N) (a := 7) (by omega) (by omega)
  have es : smF (fun j => M1 16 (58 * n + j)) 0 58 7 = smF (rw0 p x) 0 58 7 := smF_congr (fun j _ hj => by
    show M1 16 (58 * n + j) = _
    rw [e16, if_pos (by omega), show 58 * n + j - 58 * n = j from by omega])
  refine ⟨va_up M1 17 (upd (M1 17) n (M1 13 48)), ?_, ?_, ?_, ?_, ?_⟩
  · unfold fX6_meets
    rw [nm_s, nm_s, hM0, pk_mul, nm_s]
    unfold fX6_meets_13
    rw [a]
    unfold fX6_meets_237
    rw [b]
    unfold fX6_meets_263
    rw [s, es]
  · intro a h1 h2 h3
    rw [va_up_ne _ _ h2, o1 a h1 h3]
  · rw [va_up_self, o1 17 (by omega) (by omega), o1 13 (by omega) (by omega), h.2.1.1.1]
  · intro i hi
    rw [va_up_ne _ _ (by omega), e16, if_pos (by omega), show 58 * n + i - 58 * n = i from by omega]
  · intro i hi
    rw [va_up_ne _ _ (by omega), e16, if_neg (by omega)]
/-! comparing two looks -/
def cmF (f g : Nat → Int32) : Nat → Nat → Bool
  | _, 0 => true
  | i, d + 1 => if f i = g i then cmF f g (i + 1) d else false
theorem cmF_iff {f g : Nat → Int32} : ∀ {d i : Nat}, cmF f g i d = true ↔ ∀ j, i ≤ j → j < i + d → f j = g j
  | 0, i => ⟨fun _ j h1 h2 => by omega, fun _ => rfl⟩
  | d + 1, i => by
    have r := cmF_iff (f := f) (g := g) (d := d) (i := i + 1)
    unfold cmF
    by_cases c : f i = g i
    · rw [if_pos c, r]
      constructor
      · intro h j h1 h2
        by_cases e : j = i
        · rw [e]; exact c
        · exact h j (by omega) (by omega)
      · intro h j h1 h2
        exact h j (by omega) (by omega)
    · rw [if_neg c]
      refine ⟨fun h => (by cases h), fun h => absurd (h i (by omega) (by omega)) c⟩
theorem m_cmp {M : Rc} {ML : RcL} {N a b : Nat} {f g : Nat → Int32} (ha : a < 1500) (hb : b < 1500) (hf : ∀ i, i < 58 → M 16 (58 * a + i) = f i) (hg : ∀ i, i < 58 → M 16 (58 * b + i) = g i) : ∀ {d i u : Nat}, d < u → i + d = 58 → itn (fX6_isMet_20b N) (fun _ _ _ _ _ => none) u M ML (nI a) (nI b) (nI i) = some (bI (cmF f g i d))
  | _, _, 0, h, _ => by omega
  | 0, i, u + 1, _, e => by
    rw [itn_s]
    unfold fX6_isMet_20b
    rw [if_le (by omega) (by omega)]
    rfl
  | d + 1, i, u + 1, hu, e => by
    have r := m_cmp (ML := ML) (N := N) ha hb hf hg (d := d) (i := i + 1) (u := u) (by omega) (by omega)
    rw [itn_s]
    generalize itn (fX6_isMet_20b N) (fun _ _ _ _ _ => none) u = K2 at r ⊢
    unfold fX6_isMet_20b cmF
    rw [if_nle (by omega) (by omega), pk_mul, nI_add, pk_mul, nI_add, gdi_nI (by omega) (by omega), gdi_nI (by omega) (by omega), nI_clamp (by omega), nI_clamp (by omega), hf i (by omega), hg i (by omega)]
    by_cases c : f i = g i
    · rw [if_pos c, if_pos c, nI_add, nm_s, r]
    · rw [if_neg c, if_neg c]
      rfl
/-! equal rows are equal looks -/
theorem rowF_dec {p x y : Nx} (hp : PI p) (hx : LZ p x) (hy : LZ p y) : ∀ {d l : Nat}, l + d = p 6 0 → (∀ i, (rowF p x l d).getD i 0 = (rowF p y l d).getD i 0) → (∀ k, l ≤ k → k < p 6 0 → left x k = left y k ∧ sWait x k = sWait y k) ∧ place p x = place p y
  | 0, l, e, h => by
    refine ⟨fun k h1 h2 => by omega, ?_⟩
    have q := h (p 7 0)
    unfold rowF at q
    have e1 : (frs p x 0 (p 7 0) ++ [nI (place p x)]).getD (p 7 0) 0 = nI (place p x) := by
      have := getD_app_r (A := frs p x 0 (p 7 0)) (B := [nI (place p x)]) (i := 0)
      rw [frs_len] at this
      exact this
    have e2 : (frs p y 0 (p 7 0) ++ [nI (place p y)]).getD (p 7 0) 0 = nI (place p y) := by
      have := getD_app_r (A := frs p y 0 (p 7 0)) (B := [nI (place p y)]) (i := 0)
      rw [frs_len] at this
      exact this
    rw [e1, e2] at q
    have a := place_lt hp hx.1
    have b := place_lt hp hy.1
    rwa [nI_eq (by omega) (by omega)] at q
  | d + 1, l, e, h => by
    have hn6 := hp.n
    have w1 := sWait_20 hp hx.1 (k := l) (by omega)
    have w2 := sWait_20 hp hy.1 (k := l) (by omega)
    have q0 : eL x l = eL y l := h 0
    have q4 : nI (sWait x l) = nI (sWait y l) := h 4
    rw [nI_eq (by omega) (by omega)] at q4
    have ql : left x l = left y l := by
      unfold eL at q0
      unfold left
      by_cases c : x 1 l = x 2 l
      · rw [if_pos c] at q0 ⊢
        by_cases c2 : y 1 l = y 2 l
        · rw [if_pos c2]
        · rw [if_neg c2] at q0
          have := hy.1.e (by omega) c2
          rw [neg_ne_nI (by omega)] at q0
          exact q0.elim
      · have a1 := hx.1.e (by omega) c
        rw [if_neg c] at q0 ⊢
        by_cases c2 : y 1 l = y 2 l
        · rw [if_pos c2] at q0
          rw [nI_ne_neg (by omega)] at q0
          exact q0.elim
        · have a2 := hy.1.e (by omega) c2
          rw [if_neg c2] at q0 ⊢
          rwa [nI_eq (by omega) (by omega)] at q0
    have i := rowF_dec hp hx hy (d := d) (l := l + 1) (by omega) (by
      intro i
      have := h ((stR p x l).length + i)
      unfold rowF at this
      rw [getD_app_r, show (stR p x l).length = (stR p y l).length from by rw [stR_len, stR_len, q4], getD_app_r] at this
      exact this)
    refine ⟨fun k h1 h2 => ?_, i.2⟩
    by_cases c : k = l
    · rw [c]; exact ⟨ql, q4⟩
    · exact i.1 k (by omega) h2
theorem bzF_congr {x y : Nx} : ∀ {d l a : Nat}, (∀ k, l ≤ k → k < l + d → left x k = left y k) → bzF x l d a = bzF y l d a
  | 0, _, _, _ => rfl
  | d + 1, l, a, h => by
    unfold bzF
    rw [h l (by omega) (by omega)]
    exact bzF_congr (fun k h1 h2 => h k (by omega) (by omega))
theorem qzF_congr {x y : Nx} : ∀ {d l a : Nat}, (∀ k, l ≤ k → k < l + d → sWait x k = sWait y k) → qzF x l d a = qzF y l d a
  | 0, _, _, _ => rfl
  | d + 1, l, a, h => by
    unfold qzF
    rw [h l (by omega) (by omega)]
    exact qzF_congr (fun k h1 h2 => h k (by omega) (by omega))
theorem bzF_inj {p x y : Nx} (hx : LI p x) (hy : LI p y) : ∀ {d l a b : Nat}, l + d = p 6 0 → bzF x l d a = bzF y l d b → a = b ∧ ∀ k, l ≤ k → k < l + d → left x k = left y k
  | 0, l, a, b, _, h => ⟨h, fun k h1 h2 => by omega⟩
  | d + 1, l, a, b, e, h => by
    have l1 := left_lt hx (k := l) (by omega)
    have l2 := left_lt hy (k := l) (by omega)
    unfold bzF at h
    have i := bzF_inj hx hy (d := d) (l := l + 1) (by omega) h
    refine ⟨by omega, fun k h1 h2 => ?_⟩
    by_cases c : k = l
    · rw [c]; omega
    · exact i.2 k (by omega) (by omega)
theorem qzF_inj {p x y : Nx} (hp : PI p) (hx : LI p x) (hy : LI p y) : ∀ {d l a b : Nat}, l + d = p 6 0 → qzF x l d a = qzF y l d b → a = b ∧ ∀ k, l ≤ k → k < l + d → sWait x k = sWait y k
  | 0, l, a, b, _, h => ⟨h, fun k h1 h2 => by omega⟩
  | d + 1, l, a, b, e, h => by
    have l1 := sWait_20 hp hx (k := l) (by omega)
    have l2 := sWait_20 hp hy (k := l) (by omega)
    unfold qzF at h
    have i := qzF_inj hp hx hy (d := d) (l := l + 1) (by omega) h
    refine ⟨by omega, fun k h1 h2 => ?_⟩
    by_cases c : k = l
    · rw [c]; omega
    · exact i.2 k (by omega) (by omega)
/-- like looks: all that goes on is as it was, D parts later -/
def Shf (p x y : Nx) (D : Nat) : Prop := (∀ k, k < p 6 0 → y 1 k = x 1 k + D ∧ y 2 k = x 2 k + D ∧ left y k = left x k ∧ sWait y k = sWait x k) ∧ place p y = place p x
theorem left_0 {p x : Nx} (hx : LZ p x) {k : Nat} (hk : k < p 6 0) : left x k = 0 ↔ x 1 k = x 2 k := by
  unfold left
  by_cases c : x 1 k = x 2 k
  · rw [if_pos c]; exact ⟨fun _ => c, fun _ => rfl⟩
  · have := hx.2.1 k (by omega) hk c
    rw [if_neg c]
    exact ⟨fun z => by omega, fun z => absurd z c⟩
theorem kE_shf {p x y : Nx} {D : Nat} (hp : PI p) (hx : LZ p x) (hy : LZ p y) (hD : y 2 (p 6 0 - 1) = x 2 (p 6 0 - 1) + D) (h : kE p x y = true) : Shf p x y D := by
  have hn6 := hp.n
  have h := kE_iff.mp h
  have hb := bzF_inj hx.1 hy.1 (d := p 6 0) (l := 0) (by omega) h.1
  have hq := qzF_inj hp hx.1 hy.1 (d := p 6 0) (l := 0) (by omega) h.2
  have key : ∀ d k, k + d + 1 = p 6 0 → y 1 k = x 1 k + D ∧ y 2 k = x 2 k + D := by
    intro d
    induction d with
    | zero =>
      intro k e
      rw [show k = p 6 0 - 1 from by omega]
      refine ⟨?_, hD⟩
      have a := hb.2 (p 6 0 - 1) (by omega) (by omega)
      have i1 := left_0 hx (k := p 6 0 - 1) (by omega)
      have i2 := left_0 hy (k := p 6 0 - 1) (by omega)
      have k1 := hx.1.k (k := p 6 0 - 1) (by omega)
      have k2 := hy.1.k (k := p 6 0 - 1) (by omega)
      by_cases c : x 1 (p 6 0 - 1) = x 2 (p 6 0 - 1)
      · have := i2.mp (by rw [← a]; exact i1.mpr c)
        omega
      · have : ¬ y 1 (p 6 0 - 1) = y 2 (p 6 0 - 1) := fun z => c (i1.mp (by rw [a]; exact i2.mpr z))
        omega
    | succ d ih =>
      intro k e
      have n1 := ih (k + 1) (by omega)
      have w := hq.2 (k + 1) (by omega) (by omega)
      unfold sWait at w
      rw [if_neg (by omega), if_neg (by omega), show k + 1 - 1 = k from rfl] at w
      have s1 := hx.1.s (k := k) (by omega)
      have s2 := hy.1.s (k := k) (by omega)
      have a := hb.2 k (by omega) (by omega)
      have i1 := left_0 hx (k := k) (by omega)
      have i2 := left_0 hy (k := k) (by omega)
      have k1 := hx.1.k (k := k) (by omega)
      have k2 := hy.1.k (k := k) (by omega)
      by_cases c : x 1 k = x 2 k
      · have := i2.mp (by rw [← a]; exact i1.mpr c)
        omega
      · have : ¬ y 1 k = y 2 k := fun z => c (i1.mp (by rw [a]; exact i2.mpr z))
        omega
  refine ⟨fun k hk => ?_, hb.1.symm⟩
  have a := key (p 6 0 - 1 - k) k (by omega)
  exact ⟨a.1, a.2, (hb.2 k (by omega) (by omega)).symm, (hq.2 k (by omega) (by omega)).symm⟩
theorem kind_shift {p : Nx} {f D : Nat} (hf : 1 ≤ f) {a : Nat} (h : p 9 0 * f ≠ 0 → a % (p 9 0 * f) = (a + D) % (p 9 0 * f)) (m : Nat) : sKind p f (m + D) = sKind p f m := by
  unfold sKind
  by_cases c : p 9 0 = 0
  · rw [if_pos c, if_pos c]
  · have h0 : p 9 0 * f ≠ 0 := Nat.mul_ne_zero c (by omega)
    have e := h h0
    rw [if_neg c, if_neg c]
    have dv : D % (p 9 0 * f) = 0 := by
      have e2 : (a + 0) % (p 9 0 * f) = (a + D) % (p 9 0 * f) := e
      have := Nat.add_mod a D (p 9 0 * f)
      have l1 := Nat.mod_lt a (show p 9 0 * f > 0 from by omega)
      have l2 := Nat.mod_lt D (show p 9 0 * f > 0 from by omega)
      generalize p 9 0 * f = q at *
      generalize a % q = r at *
      generalize D % q = s at *
      rw [← e] at this
      by_cases c2 : r + s < q
      · rw [Nat.mod_eq_of_lt c2] at this; omega
      · rw [Nat.mod_eq_sub_mod (by omega), Nat.mod_eq_of_lt (by omega)] at this; omega
    obtain ⟨t, ht⟩ := Nat.dvd_of_mod_eq_zero dv
    rw [ht, show p 9 0 * f * t = (p 9 0 * t) * f from by rw [Nat.mul_assoc, Nat.mul_comm f t, ← Nat.mul_assoc], Nat.add_mul_div_right _ _ (by omega), Nat.add_mul_mod_self_left]
