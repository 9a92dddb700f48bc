/-! the relation between class and model -/
theorem m_copy3 {nU nV N a b : Nat} (hU : a + 353 ≤ nU) (hV : b + 353 ≤ nV) (hU' : nU < 2 ^ 31) (hV' : nV < 2 ^ 31) {U : Nat → Int32} : ∀ {d i u : Nat} {V : Nat → Int32}, d < u → i + d = 353 → itn (fX6_copy_3b nU nV N) (fun _ _ _ _ _ => none) u U V (nI a) (nI b) (nI i) = some (fun j => if b + i ≤ j ∧ j < b + 353 then U (a + (j - b)) else V j)
  | _, _, 0, _, h, _ => by omega
  | 0, i, u + 1, V, _, e => by
    rw [itn_s]
    unfold fX6_copy_3b
    rw [if_le (by omega) (by omega)]
    congr 1
    funext j
    rw [if_neg (by omega)]
  | d + 1, i, u + 1, V, hu, e => by
    have r := m_copy3 (N := N) hU hV hU' hV' (U := U) (d := d) (i := i + 1) (u := u) (V := upd V (b + i) (U (a + i))) (by omega) (by omega)
    rw [itn_s]
    generalize itn (fX6_copy_3b nU nV N) (fun _ _ _ _ _ => none) u = K at r ⊢
    unfold fX6_copy_3b
    rw [if_nle (by omega) (by omega), nI_add, nI_add, gdi_nI (by omega) (by omega), gdi_nI (by omega) (by omega), nI_clamp (by omega), nI_clamp (by omega), nm_s, nI_add, nm_s, r]
    congr 1
    funext j
    by_cases c : j = b + i
    · rw [if_neg (by omega), upd_eq c, if_pos (by omega), show j - b = i from by omega]
    · rw [upd_ne c]
      by_cases q : b + (i + 1) ≤ j ∧ j < b + 353
      · rw [if_pos q, if_pos (by omega)]
      · rw [if_neg q, if_neg (by omega)]
theorem m_copy {nU nV N a b : Nat} (hN : 400 < N) (hU : a + 353 ≤ nU) (hV : b + 353 ≤ nV) (hU' : nU < 2 ^ 31) (hV' : nV < 2 ^ 31) {U V : Nat → Int32} : fX6_copy nU nV N U V (nI a) (nI b) = some (fun j => if b ≤ j ∧ j < b + 353 then U (a + (j - b)) else V j) := by
  unfold fX6_copy
  rw [nm_s]
  unfold fX6_copy_3
  exact m_copy3 (N := N) hU hV hU' hV' (d := 353) (i := 0) (u := N) (by omega) (by omega)
theorem RelS_eq {p g x : Nx} {S T : Nat → Int32} (hp : PI p) (hg : GI p g) (hx : LI p x) (hT : ∀ j, j < 353 → T j = S j) (h : RelS p g x S) : RelS p g x T := by
  have hn := hp.n
  have hq := hp.q
  refine ⟨Stat.mv hp hg h.1 (fun _ _ => rfl) (fun j h1 _ => hT j (by omega)), ⟨⟨?_, ?_, ?_, ?_, ?_⟩, fun l hl => ?_⟩, fun k hk => ?_⟩
  · rw [hT 48 (by omega)]; exact h.2.1.1.1
  · rw [hT 49 (by omega)]; exact h.2.1.1.2.1
  · rw [hT 50 (by omega)]; exact h.2.1.1.2.2.1
  · rw [hT 51 (by omega)]; exact h.2.1.1.2.2.2.1
  · rw [hT 52 (by omega)]; exact h.2.1.1.2.2.2.2
  · rw [hT _ (by omega)]; exact h.2.1.2 l hl
  · exact Dst.mv (sWait_20 hp hx hk) (h.2.2 k hk) rfl rfl rfl rfl rfl (fun _ _ _ _ => rfl) (fun c hc => hT _ (by omega)) (fun c hc => hT _ (by omega)) (hx.k hk).1
theorem SumS_eq {p x : Nx} {S T : Nat → Int32} (hp : PI p) (hT : ∀ j, j < 353 → T j = S j) (h : SumS p x S) : SumS p x T := by
  intro k s h1 h2
  have hn := hp.n
  rw [hT _ (by omega)]
  exact h k s h1 h2
/-- a line that stands, with the model's row of it -/
def Lst (p g x : Nx) (S : Nat → Int32) : Prop := LZ p x ∧ x 7 0 = 1 ∧ x 8 0 ≤ 99999 ∧ RelS p g x S ∧ SumS p x S
theorem Lst_eq {p g x : Nx} {S T : Nat → Int32} (hp : PI p) (hg : GI p g) (hT : ∀ j, j < 353 → T j = S j) (h : Lst p g x S) : Lst p g x T := ⟨h.1, h.2.1, h.2.2.1, RelS_eq hp hg h.1.1 hT h.2.2.2.1, SumS_eq hp hT h.2.2.2.2⟩
theorem Lst_agr {p g x y : Nx} {S : Nat → Int32} (hp : PI p) (ha : Agr x y) (h6 : ∀ i, i < 24 → y 6 i = x 6 i) (h : Lst p g x S) : Lst p g y S := by
  refine ⟨LZ_agr hp ha h.1, by rw [ha.g1 (by omega)]; exact h.2.1, by rw [ha.g1 (by omega)]; exact h.2.2.1, RelS_agr hp ha h.2.2.2.1, fun k s h1 h2 => ?_⟩
  have hn := hp.n
  rw [h6 _ (by omega)]
  exact h.2.2.2.2 k s h1 h2
def HR (p g : Nx) (c : Nat → Rc) (M : Rc) : Prop := ∃ n d, n ≤ 8 ∧ d < 8 ∧ c 7 1 0 = nI n ∧ c 7 2 0 = nI d ∧ M 15 0 = nI n ∧ ∀ i, i < n → ∃ y, c (8 + (d + 7 - i) % 8) = embL y ∧ Lst p g y (fun j => M 14 (353 * (n - 1 - i) + j))
def kn (p : Nx) (C : Nat → Nat) (f : Nat) (z : Nx) : Option (Nat × Nat) := paceAt p (sRound p (sClr z C f)) 1500 0
def KN (p : Nx) (C : Nat → Nat) (X : Rc) : Prop := ∀ f, 1 ≤ f → f ≤ 5 → X 9 f = nI 0 ∨ ∃ z, X 9 f = pcP p (sRound p (sClr z C f)) (kn p C f z) ∧ X 10 f = pcM p (sRound p (sClr z C f)) (kn p C f z)
def Em (p : Nx) (c : Nat → Rc) (M : Rc) : Prop := (p 6 0 = 0 ∧ p 7 0 = 0 ∧ p 8 0 = 0) ∧ (c 5 8 0 = nI 0 ∧ c 5 1 0 = nI 0 ∧ c 5 9 0 = -1 ∧ c 5 10 0 = -1) ∧ (c 7 1 0 = nI 0 ∧ (∃ d, d < 8 ∧ c 7 2 0 = nI d) ∧ M 15 0 = nI 0) ∧ (M 11 0 = nI 0 ∧ M 11 1 = nI 0 ∧ M 11 14 = nI 0 ∧ M 11 35 = nI 0 ∧ M 11 48 = nI 0 ∧ M 11 49 = nI 0 ∧ M 11 50 = nI 0 ∧ M 11 51 = -1 ∧ M 11 52 = -1)
def Wk (p g x : Nx) (c : Nat → Rc) (M : Rc) : Prop := PI p ∧ GI p g ∧ c 5 = embL x ∧ Lst p g x (M 11) ∧ HR p g c M ∧ KN p (x 4) (c 0)
def Tpe (c : Nat → Rc) (M : Rc) : Prop := ∃ t L, L ≤ 440 ∧ c 0 1 0 = nI L ∧ M 2 0 = nI L ∧ TP (c 16 0) t ∧ TP (M 1) t
def Rel (c : Nat → Rc) (FL : RcL) (M : Rc) (ML : RcL) : Prop := Tpe c M ∧ c 3 3 0 = M 8 0 ∧ (∃ q, c 4 = embP q ∧ ∀ i, q 5 i < 2 ^ 31) ∧ ∃ p, c 1 = embP p ∧ (∀ i, p 5 i < 2 ^ 31) ∧ (Em p c M ∨ ∃ g x, Wk p g x c M)
/-! plans copied -/
def pCpy (p q : Nx) : Nx := fun a i => if a = 0 ∨ a = 1 then (if i < 6 then q a i else p a i) else if a = 2 ∨ a = 3 ∨ a = 4 then (if i < 5 then q a i else p a i) else if a = 5 then (if i < 120 then q a i else p a i) else if a = 6 ∨ a = 7 ∨ a = 8 ∨ a = 9 then q a 0 else p a i
theorem c_pCpy (p q : Nx) : fX3_copyFrom (embP p) (embP q) = some (embP (pCpy p q)) := by
  unfold fX3_copyFrom
  simp only [↓nm_s]
  congr 1
  funext a i
  by_cases h9 : a = 9
  · subst h9
    rw [va_up_self]
    simp [embP, pCpy]
  rw [va_up_ne _ _ h9]
  by_cases h8 : a = 8
  · subst h8
    rw [va_up_self]
    simp [embP, pCpy]
  rw [va_up_ne _ _ h8]
  by_cases h7 : a = 7
  · subst h7
    rw [va_up_self]
    simp [embP, pCpy]
  rw [va_up_ne _ _ h7]
  by_cases h6 : a = 6
  · subst h6
    rw [va_up_self]
    simp [embP, pCpy]
  rw [va_up_ne _ _ h6]
  by_cases h5 : a = 5
  · subst h5
    rw [va_up_self, va_up_ne _ _ (by omega), va_up_ne _ _ (by omega), va_up_ne _ _ (by omega), va_up_ne _ _ (by omega), va_up_ne _ _ (by omega)]
    by_cases c : i < 120
    · rw [pk_cpy_in (by omega) (by omega), show 0 + (i - 0) = i from by omega]; simp [embP, pCpy, c]
    · rw [pk_cpy_out (by omega)]; simp [embP, pCpy, c]
  rw [va_up_ne _ _ h5]
  by_cases h4 : a = 4
  · subst h4
    rw [va_up_self, va_up_ne _ _ (by omega), va_up_ne _ _ (by omega), va_up_ne _ _ (by omega), va_up_ne _ _ (by omega)]
    by_cases c : i < 5
    · rw [pk_cpy_in (by omega) (by omega), show 0 + (i - 0) = i from by omega]; simp [embP, pCpy, c]
    · rw [pk_cpy_out (by omega)]; simp [embP, pCpy, c]
  rw [va_up_ne _ _ h4]
  by_cases h3 : a = 3
  · subst h3
    rw [va_up_self, va_up_ne _ _ (by omega), va_up_ne _ _ (by omega), va_up_ne _ _ (by omega)]
    by_cases c : i < 5
    · rw [pk_cpy_in (by omega) (by omega), show 0 + (i - 0) = i from by omega]; simp [embP, pCpy, c]
    · rw [pk_cpy_out (by omega)]; simp [embP, pCpy, c]
  rw [va_up_ne _ _ h3]
  by_cases h2 : a = 2
  · subst h2
    rw [va_up_self, va_up_ne _ _ (by omega), va_up_ne _ _ (by omega)]
    by_cases c : i < 5
    · rw [pk_cpy_in (by omega) (by omega), show 0 + (i - 0) = i from by omega]; simp [embP, pCpy, c]
    · rw [pk_cpy_out (by omega)]; simp [embP, pCpy, c]
  rw [va_up_ne _ _ h2]
  by_cases h1 : a = 1
  · subst h1
    rw [va_up_self, va_up_ne _ _ (by omega)]
    by_cases c : i < 6
    · rw [pk_cpy_in (by omega) (by omega), show 0 + (i - 0) = i from by omega]; simp [embP, pCpy, c]
    · rw [pk_cpy_out (by omega)]; simp [embP, pCpy, c]
  rw [va_up_ne _ _ h1]
  by_cases h0 : a = 0
  · subst h0
    rw [va_up_self]
    by_cases c : i < 6
    · rw [pk_cpy_in (by omega) (by omega), show 0 + (i - 0) = i from by omega]; simp [embP, pCpy, c]
    · rw [pk_cpy_out (by omega)]; simp [embP, pCpy, c]
  rw [va_up_ne _ _ h0]
  simp [embP, pCpy, h9, h8, h7, h6, h5, h4, h3, h2, h1, h0]
theorem pCpy_01 {p q : Nx} {a i : Nat} (ha : a = 0 ∨ a = 1) (hi : i < 6) : pCpy p q a i = q a i := by
  unfold pCpy
  rw [if_pos ha, if_pos hi]
theorem pCpy_234 {p q : Nx} {a i : Nat} (ha : a = 2 ∨ a = 3 ∨ a = 4) (hi : i < 5) : pCpy p q a i = q a i := by
  unfold pCpy
  rw [if_neg (by omega), if_pos ha, if_pos hi]
theorem pCpy_5 {p q : Nx} {i : Nat} : pCpy p q 5 i = if i < 120 then q 5 i else p 5 i := by
  unfold pCpy
  rw [if_neg (by omega), if_neg (by omega), if_pos rfl]
theorem pCpy_6 {p q : Nx} {a i : Nat} (ha : a = 6 ∨ a = 7 ∨ a = 8 ∨ a = 9) : pCpy p q a i = q a 0 := by
  unfold pCpy
  rw [if_neg (by omega), if_neg (by omega), if_neg (by omega), if_pos ha]
/-- a text that was read: its plan, and the model's row of it -/
theorem tx_plan {p0 q g : Nx} {S : Nat → Int32} (h : DR q g S) (h1 : 1 ≤ q 6 0) (h0 : ∀ i, p0 5 i < 2 ^ 31) : PI (pCpy p0 q) ∧ GI (pCpy p0 q) g ∧ (∀ l, l < pCpy p0 q 7 0 → 1 ≤ pCpy p0 q 4 l ∧ pCpy p0 q 4 l ≤ 20) ∧ Stat (pCpy p0 q) g (pCpy p0 q 4) 1 (upd S 16 (nI (q 6 0) - nI 1)) := by
  obtain ⟨ha, hb, hc, hd⟩ := h
  have e6 : pCpy p0 q 6 0 = q 6 0 := pCpy_6 (by omega)
  have e7 : pCpy p0 q 7 0 = q 7 0 := pCpy_6 (by omega)
  have e8 : pCpy p0 q 8 0 = q 8 0 := pCpy_6 (by omega)
  have e9 : pCpy p0 q 9 0 = q 9 0 := pCpy_6 (by omega)
  have b6 := hb.1
  have b7 := hc.1
  have l30 := hc.2.2.1 h1
  have sl := (sumG_le hd.1 (r := q 8 0) (Nat.le_refl _)).1
  have g9 := hd.1.2.2.1
  have g8 := hd.1.1
  have lp : ∀ l, l < q 7 0 → q 2 l ≤ q 3 l ∧ q 3 l < q 6 0 ∧ 1 ≤ q 4 l ∧ q 4 l ≤ 20 := by
    intro l hl
    by_cases c : l = 0
    · subst c
      have := hc.2.1
      have := hc.2.2.2.1
      omega
    · have := hc.2.2.2.2 l (by omega) hl
      omega
  refine ⟨⟨by omega, by omega, ?_, fun l hl => ?_, fun k hk => ?_, by omega, fun i => ?_⟩, ⟨by omega, ?_, ?_, fun r hr i hi => ?_⟩, fun l hl => ?_, ⟨⟨?_, ?_, ?_, ?_⟩, fun k hk => ?_, fun l hl => ?_, fun r hr => ?_⟩⟩
  · rw [pCpy_234 (by omega) (by omega), pCpy_234 (by omega) (by omega), e6]; exact ⟨hc.2.1, l30⟩
  · rw [e7] at hl
    have := lp l hl
    rw [pCpy_234 (by omega) (by omega), pCpy_234 (by omega) (by omega), e6]
    omega
  · rw [e6] at hk
    have := hb.2 k hk
    rw [pCpy_01 (by omega) (by omega), pCpy_01 (by omega) (by omega)]
    omega
  · rw [pCpy_5]
    split
    · exact hd.2.2 i
    · exact h0 i
  · rw [e8]; exact hd.1.2.1
  · rw [e8, e9]; exact g9
  · rw [e8] at hr
    have w := hd.1.2.2.2 r hr i hi
    have m : ∀ d, r + 1 + d ≤ q 8 0 → sumG g (r + 1) ≤ sumG g (r + 1 + d) := by
      intro d
      induction d with
      | zero => intro _; exact Nat.le_refl _
      | succ d ih =>
        intro hd
        have := ih (by omega)
        show _ ≤ sumG g (r + 1 + d) + g 1 (r + 1 + d)
        omega
    have m1 := m (q 8 0 - (r + 1)) (by omega)
    rw [show r + 1 + (q 8 0 - (r + 1)) = q 8 0 from by omega, sumG] at m1
    rw [pCpy_5, if_pos (by omega)]
    exact w
  · rw [e7] at hl
    rw [pCpy_234 (by omega) (by omega)]
    have := lp l hl
    omega
  · rw [upd_ne (by omega)]; exact ha.1
  · rw [upd_ne (by omega), e6]; exact ha.2.1
  · rw [upd_ne (by omega), e7]; exact ha.2.2.1
  · rw [upd_ne (by omega), e8]; exact ha.2.2.2.1
  · rw [e6] at hk
    have := hb.2 k hk
    rw [pCpy_01 (by omega) (by omega), pCpy_01 (by omega) (by omega), upd_ne (by omega), upd_ne (by omega)]
    exact ⟨this.1, this.2.1⟩
  · rw [e7] at hl
    rw [pCpy_234 (by omega) (by omega), pCpy_234 (by omega) (by omega), pCpy_234 (by omega) (by omega)]
    by_cases c : l = 0
    · subst c
      rw [upd_ne (by omega), upd_eq (by omega), upd_ne (by omega), nI_sub' h1, hc.2.1]
      refine ⟨ha.2.2.2.2, congrArg nI (by omega), hc.2.2.2.1.1⟩
    · have := hc.2.2.2.2 l (by omega) hl
      rw [upd_ne (by omega), upd_ne (by omega), upd_ne (by omega)]
      exact ⟨this.1, this.2.1, this.2.2.1⟩
  · rw [e8] at hr
    rw [upd_ne (by omega), upd_ne (by omega), Nat.mul_one]
    exact hd.2.1 r hr
