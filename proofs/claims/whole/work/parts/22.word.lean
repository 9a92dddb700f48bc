/-! words and numbers -/
theorem nL_all {t : Nat → Nat} : ∀ {d a i : Nat}, nD t d a = 0 → i < nL t d a → 97 ≤ t (a + i) ∧ t (a + i) ≤ 122
  | 0, a, i, _, h => by cases h
  | d + 1, a, i, h0, h => by
    rw [nD] at h0
    rw [nL] at h
    by_cases c : iL (t a) = true
    · rw [if_pos c] at h0 h
      cases i with
      | zero => exact iL_t.mp c
      | succ i =>
        have := nL_all (d := d) (a := a + 1) (i := i) h0 (by omega)
        rwa [show a + 1 + i = a + (i + 1) from by omega] at this
    · rw [if_neg c] at h0 h
      by_cases e : iD (t a) = true
      · rw [if_pos e] at h0; omega
      · rw [if_neg e] at h; omega
theorem nD_all {t : Nat → Nat} : ∀ {d a i : Nat}, nL t d a = 0 → i < nD t d a → 48 ≤ t (a + i) ∧ t (a + i) ≤ 57
  | 0, a, i, _, h => by cases h
  | d + 1, a, i, h0, h => by
    rw [nL] at h0
    rw [nD] at h
    by_cases c : iL (t a) = true
    · rw [if_pos c] at h0; omega
    · rw [if_neg c] at h0 h
      by_cases e : iD (t a) = true
      · rw [if_pos e] at h0 h
        cases i with
        | zero => exact iD_t.mp e
        | succ i =>
          have := nD_all (d := d) (a := a + 1) (i := i) h0 (by omega)
          rwa [show a + 1 + i = a + (i + 1) from by omega] at this
      · rw [if_neg e] at h; omega
theorem lK_b (l d : Nat) : lK l d = 1 ∨ (lK l d = 2 ∧ d = 0 ∧ l ≠ 0) ∨ (lK l d = 3 ∧ l = 0 ∧ d ≠ 0 ∧ d ≤ 2) := by
  unfold lK
  by_cases a : d = 0 ∧ l ≠ 0
  · rw [if_pos a]; exact Or.inr (Or.inl ⟨rfl, a.1, a.2⟩)
  · rw [if_neg a]
    by_cases b : l = 0 ∧ d ≠ 0 ∧ d ≤ 2
    · rw [if_pos b]; exact Or.inr (Or.inr ⟨rfl, b.1, b.2.1, b.2.2⟩)
    · rw [if_neg b]; exact Or.inl rfl
/-- the sorts of tokens -/
theorem tK_c {t : Nat → Nat} {L a : Nat} (ha : a ≤ L) : tK t L a = 1 ∨ (tK t L a = 0 ∧ tS t L a = tE t L a) ∨ (tK t L a = 4 ∧ a < tE t L a) ∨ (tK t L a = 2 ∧ a < tE t L a ∧ tS t L a < tE t L a ∧ ∀ i, i < tE t L a - tS t L a → 97 ≤ t (tS t L a + i) ∧ t (tS t L a + i) ≤ 122) ∨ (tK t L a = 3 ∧ a < tE t L a ∧ (tE t L a - tS t L a = 1 ∨ tE t L a - tS t L a = 2) ∧ ∀ i, i < tE t L a - tS t L a → 48 ≤ t (tS t L a + i) ∧ t (tS t L a + i) ≤ 57) := by
  have b := tB_b (t := t) ha
  unfold tK tE tS
  by_cases c : 400 ≤ tB t L a ∧ 400 < L
  · rw [if_pos c]; exact Or.inl rfl
  · rw [if_neg c, if_neg c, if_neg c]
    by_cases d : L ≤ tB t L a
    · rw [if_pos d, if_pos d]; exact Or.inr (Or.inl ⟨rfl, rfl⟩)
    · rw [if_neg d, if_neg d]
      by_cases e : t (tB t L a) = 59
      · rw [if_pos e, if_pos e]; exact Or.inr (Or.inr (Or.inl ⟨rfl, by omega⟩))
      · rw [if_neg e, if_neg e]
        rcases lK_b (tl t L a) (td t L a) with h | ⟨h, h1, h2⟩ | ⟨h, h1, h2, h3⟩
        · exact Or.inl h
        · refine Or.inr (Or.inr (Or.inr (Or.inl ⟨h, by omega, by omega, fun i hi => ?_⟩)))
          exact nL_all (d := L - tB t L a) h1 (show i < tl t L a by omega)
        · refine Or.inr (Or.inr (Or.inr (Or.inr ⟨h, by omega, by omega, fun i hi => ?_⟩)))
          exact nD_all (d := L - tB t L a) h1 (show i < td t L a by omega)
theorem tS_b {t : Nat → Nat} {L a : Nat} (ha : a ≤ L) (hL : L ≤ 440) : tS t L a ≤ 440 := by
  have b := tB_b (t := t) ha
  unfold tS
  split <;> omega
def wv (t : Nat → Nat) (s : Nat) : Nat → Nat
  | 0 => 0
  | i + 1 => if i < 8 then 27 * wv t s i + (t (s + i) - 96) else wv t s i
theorem wv_s {t : Nat → Nat} {s i : Nat} (h : i < 8) : wv t s (i + 1) = 27 * wv t s i + (t (s + i) - 96) := by rw [wv, if_pos h]
theorem wv_8 {t : Nat → Nat} {s : Nat} : ∀ {k : Nat}, wv t s (8 + k) = wv t s 8
  | 0 => rfl
  | k + 1 => by
    rw [show 8 + (k + 1) = 8 + k + 1 from rfl, wv, if_neg (by omega)]
    exact wv_8
theorem wv_lt {t : Nat → Nat} {s n : Nat} (h : ∀ i, i < n → 97 ≤ t (s + i) ∧ t (s + i) ≤ 122) : ∀ {i : Nat}, i ≤ n → wv t s i + 1 ≤ 27 ^ (min i 8)
  | 0, _ => by show 0 + 1 ≤ 27 ^ (min 0 8); decide
  | i + 1, hi => by
    have r := wv_lt h (i := i) (by omega)
    have c := h i (by omega)
    rw [wv]
    by_cases e : i < 8
    · rw [if_pos e, show min (i + 1) 8 = i + 1 from by omega, Nat.pow_succ]
      rw [show min i 8 = i from by omega] at r
      omega
    · rw [if_neg e, show min (i + 1) 8 = 8 from by omega]
      rwa [show min i 8 = 8 from by omega] at r
theorem wrd_wv {t : Nat → Nat} {s n : Nat} (h : ∀ i, i < n → 97 ≤ t (s + i) ∧ t (s + i) ≤ 122) : ∀ {i : Nat}, i ≤ n → wrd t s i = lN (wv t s i)
  | 0, _ => rfl
  | i + 1, hi => by
    have r := wrd_wv h (i := i) (by omega)
    have c := h i (by omega)
    rw [wrd, wv, r]
    by_cases e : i < 8
    · rw [if_pos e, if_pos e, nI_l (by omega), show (27 : Int64) = lN 27 from rfl, show (96 : Int64) = lN 96 from rfl, lN_mul, lN_add, lN_sub (by omega)]
      congr 1
      omega
    · rw [if_neg e, if_neg e]
def wdN : List (List Nat) := [[119, 111, 114, 107, 115], [115, 116, 97, 116, 105, 111, 110], [108, 111, 111, 112], [114, 117, 110]]
def wc (wi k : Nat) : Nat := (wdN.getD wi []).getD k 0
def wdV (wi : Nat) : Nat := ([12531826, 7648899512, 247552, 13703] : List Nat).getD wi 0
def isWp (t : Nat → Nat) (s n wi : Nat) : Prop := n = lenS.getD wi 0 ∧ ∀ i, i < lenS.getD wi 0 → t (s + i) = wc wi i
theorem n9 (n : Nat) : n = 0 ∨ n = 1 ∨ n = 2 ∨ n = 3 ∨ n = 4 ∨ n = 5 ∨ n = 6 ∨ n = 7 ∨ ∃ k, n = 8 + k := by
  by_cases h : 8 ≤ n
  · exact Or.inr (Or.inr (Or.inr (Or.inr (Or.inr (Or.inr (Or.inr (Or.inr ⟨n - 8, by omega⟩)))))))
  · omega

theorem wv_w0 {t : Nat → Nat} {s n : Nat} (h : ∀ i, i < n → 97 ≤ t (s + i) ∧ t (s + i) ≤ 122) : wv t s n = 12531826 ↔ isWp t s n 0 := by
  have e0 : wv t s 0 = 0 := rfl
  have e1 := wv_s (t := t) (s := s) (i := 0) (by omega)
  have e2 := wv_s (t := t) (s := s) (i := 1) (by omega)
  have e3 := wv_s (t := t) (s := s) (i := 2) (by omega)
  have e4 := wv_s (t := t) (s := s) (i := 3) (by omega)
  have e5 := wv_s (t := t) (s := s) (i := 4) (by omega)
  have e6 := wv_s (t := t) (s := s) (i := 5) (by omega)
  have e7 := wv_s (t := t) (s := s) (i := 6) (by omega)
  have e8 := wv_s (t := t) (s := s) (i := 7) (by omega)
  constructor
  · intro hv
    rcases n9 n with rfl | rfl | rfl | rfl | rfl | rfl | rfl | rfl | ⟨k, rfl⟩
    · exfalso; clear h; simp only [Nat.zero_add, Nat.reduceAdd] at *; omega
    · exfalso; have h0 := h 0 (by omega); clear h; simp only [Nat.zero_add, Nat.reduceAdd] at *; omega
    · exfalso; have h0 := h 0 (by omega); have h1 := h 1 (by omega); clear h; simp only [Nat.zero_add, Nat.reduceAdd] at *; omega
    · exfalso; have h0 := h 0 (by omega); have h1 := h 1 (by omega); have h2 := h 2 (by omega); clear h; simp only [Nat.zero_add, Nat.reduceAdd] at *; omega
    · exfalso; have h0 := h 0 (by omega); have h1 := h 1 (by omega); have h2 := h 2 (by omega); have h3 := h 3 (by omega); clear h; simp only [Nat.zero_add, Nat.reduceAdd] at *; omega
    · have h0 := h 0 (by omega); have h1 := h 1 (by omega); have h2 := h 2 (by omega); have h3 := h 3 (by omega); have h4 := h 4 (by omega); clear h; simp only [Nat.zero_add, Nat.reduceAdd] at *
      have q : t (s + 0) = 119 ∧ t (s + 1) = 111 ∧ t (s + 2) = 114 ∧ t (s + 3) = 107 ∧ t (s + 4) = 115 := by simp only [Nat.add_zero] at *; omega
      refine ⟨rfl, fun i hi => ?_⟩
      have hi : i < 5 := hi
      rcases (show i = 0 ∨ i = 1 ∨ i = 2 ∨ i = 3 ∨ i = 4 from by omega) with rfl | rfl | rfl | rfl | rfl
      · exact q.1
      · exact q.2.1
      · exact q.2.2.1
      · exact q.2.2.2.1
      · exact q.2.2.2.2
    · exfalso; have h0 := h 0 (by omega); have h1 := h 1 (by omega); have h2 := h 2 (by omega); have h3 := h 3 (by omega); have h4 := h 4 (by omega); have h5 := h 5 (by omega); clear h; simp only [Nat.zero_add, Nat.reduceAdd] at *; omega
    · exfalso; have h0 := h 0 (by omega); have h1 := h 1 (by omega); have h2 := h 2 (by omega); have h3 := h 3 (by omega); have h4 := h 4 (by omega); have h5 := h 5 (by omega); have h6 := h 6 (by omega); clear h; simp only [Nat.zero_add, Nat.reduceAdd] at *; omega
    · exfalso; rw [wv_8] at hv; have h0 := h 0 (by omega); have h1 := h 1 (by omega); have h2 := h 2 (by omega); have h3 := h 3 (by omega); have h4 := h 4 (by omega); have h5 := h 5 (by omega); have h6 := h 6 (by omega); have h7 := h 7 (by omega); clear h; simp only [Nat.zero_add, Nat.reduceAdd] at *; omega
  · rintro ⟨rfl, hq⟩
    show wv t s 5 = 12531826
    have q0 : t (s + 0) = 119 := hq 0 (by decide)
    have q1 : t (s + 1) = 111 := hq 1 (by decide)
    have q2 : t (s + 2) = 114 := hq 2 (by decide)
    have q3 : t (s + 3) = 107 := hq 3 (by decide)
    have q4 : t (s + 4) = 115 := hq 4 (by decide)
    clear hq h; simp only [Nat.zero_add, Nat.reduceAdd] at *; omega
theorem wv_w1 {t : Nat → Nat} {s n : Nat} (h : ∀ i, i < n → 97 ≤ t (s + i) ∧ t (s + i) ≤ 122) : wv t s n = 7648899512 ↔ isWp t s n 1 := by
  have e0 : wv t s 0 = 0 := rfl
  have e1 := wv_s (t := t) (s := s) (i := 0) (by omega)
  have e2 := wv_s (t := t) (s := s) (i := 1) (by omega)
  have e3 := wv_s (t := t) (s := s) (i := 2) (by omega)
  have e4 := wv_s (t := t) (s := s) (i := 3) (by omega)
  have e5 := wv_s (t := t) (s := s) (i := 4) (by omega)
  have e6 := wv_s (t := t) (s := s) (i := 5) (by omega)
  have e7 := wv_s (t := t) (s := s) (i := 6) (by omega)
  have e8 := wv_s (t := t) (s := s) (i := 7) (by omega)
  constructor
  · intro hv
    rcases n9 n with rfl | rfl | rfl | rfl | rfl | rfl | rfl | rfl | ⟨k, rfl⟩
    · exfalso; clear h; simp only [Nat.zero_add, Nat.reduceAdd] at *; omega
    · exfalso; have h0 := h 0 (by omega); clear h; simp only [Nat.zero_add, Nat.reduceAdd] at *; omega
    · exfalso; have h0 := h 0 (by omega); have h1 := h 1 (by omega); clear h; simp only [Nat.zero_add, Nat.reduceAdd] at *; omega
    · exfalso; have h0 := h 0 (by omega); have h1 := h 1 (by omega); have h2 := h 2 (by omega); clear h; simp only [Nat.zero_add, Nat.reduceAdd] at *; omega
    · exfalso; have h0 := h 0 (by omega); have h1 := h 1 (by omega); have h2 := h 2 (by omega); have h3 := h 3 (by omega); clear h; simp only [Nat.zero_add, Nat.reduceAdd] at *; omega
    · exfalso; have h0 := h 0 (by omega); have h1 := h 1 (by omega); have h2 := h 2 (by omega); have h3 := h 3 (by omega); have h4 := h 4 (by omega); clear h; simp only [Nat.zero_add, Nat.reduceAdd] at *; omega
    · exfalso; have h0 := h 0 (by omega); have h1 := h 1 (by omega); have h2 := h 2 (by omega); have h3 := h 3 (by omega); have h4 := h 4 (by omega); have h5 := h 5 (by omega); clear h; simp only [Nat.zero_add, Nat.reduceAdd] at *; omega
    · have h0 := h 0 (by omega); have h1 := h 1 (by omega); have h2 := h 2 (by omega); have h3 := h 3 (by omega); have h4 := h 4 (by omega); have h5 := h 5 (by omega); have h6 := h 6 (by omega); clear h; simp only [Nat.zero_add, Nat.reduceAdd] at *
      have q : t (s + 0) = 115 ∧ t (s + 1) = 116 ∧ t (s + 2) = 97 ∧ t (s + 3) = 116 ∧ t (s + 4) = 105 ∧ t (s + 5) = 111 ∧ t (s + 6) = 110 := by simp only [Nat.add_zero] at *; omega
      refine ⟨rfl, fun i hi => ?_⟩
      have hi : i < 7 := hi
      rcases (show i = 0 ∨ i = 1 ∨ i = 2 ∨ i = 3 ∨ i = 4 ∨ i = 5 ∨ i = 6 from by omega) with rfl | rfl | rfl | rfl | rfl | rfl | rfl
      · exact q.1
      · exact q.2.1
      · exact q.2.2.1
      · exact q.2.2.2.1
      · exact q.2.2.2.2.1
      · exact q.2.2.2.2.2.1
      · exact q.2.2.2.2.2.2
    · exfalso; rw [wv_8] at hv; have h0 := h 0 (by omega); have h1 := h 1 (by omega); have h2 := h 2 (by omega); have h3 := h 3 (by omega); have h4 := h 4 (by omega); have h5 := h 5 (by omega); have h6 := h 6 (by omega); have h7 := h 7 (by omega); clear h; simp only [Nat.zero_add, Nat.reduceAdd] at *; omega
  · rintro ⟨rfl, hq⟩
    show wv t s 7 = 7648899512
    have q0 : t (s + 0) = 115 := hq 0 (by decide)
    have q1 : t (s + 1) = 116 := hq 1 (by decide)
    have q2 : t (s + 2) = 97 := hq 2 (by decide)
    have q3 : t (s + 3) = 116 := hq 3 (by decide)
    have q4 : t (s + 4) = 105 := hq 4 (by decide)
    have q5 : t (s + 5) = 111 := hq 5 (by decide)
    have q6 : t (s + 6) = 110 := hq 6 (by decide)
    clear hq h; simp only [Nat.zero_add, Nat.reduceAdd] at *; omega
theorem wv_w2 {t : Nat → Nat} {s n : Nat} (h : ∀ i, i < n → 97 ≤ t (s + i) ∧ t (s + i) ≤ 122) : wv t s n = 247552 ↔ isWp t s n 2 := by
  have e0 : wv t s 0 = 0 := rfl
  have e1 := wv_s (t := t) (s := s) (i := 0) (by omega)
  have e2 := wv_s (t := t) (s := s) (i := 1) (by omega)
  have e3 := wv_s (t := t) (s := s) (i := 2) (by omega)
  have e4 := wv_s (t := t) (s := s) (i := 3) (by omega)
  have e5 := wv_s (t := t) (s := s) (i := 4) (by omega)
  have e6 := wv_s (t := t) (s := s) (i := 5) (by omega)
  have e7 := wv_s (t := t) (s := s) (i := 6) (by omega)
  have e8 := wv_s (t := t) (s := s) (i := 7) (by omega)
  constructor
  · intro hv
    rcases n9 n with rfl | rfl | rfl | rfl | rfl | rfl | rfl | rfl | ⟨k, rfl⟩
    · exfalso; clear h; simp only [Nat.zero_add, Nat.reduceAdd] at *; omega
    · exfalso; have h0 := h 0 (by omega); clear h; simp only [Nat.zero_add, Nat.reduceAdd] at *; omega
    · exfalso; have h0 := h 0 (by omega); have h1 := h 1 (by omega); clear h; simp only [Nat.zero_add, Nat.reduceAdd] at *; omega
    · exfalso; have h0 := h 0 (by omega); have h1 := h 1 (by omega); have h2 := h 2 (by omega); clear h; simp only [Nat.zero_add, Nat.reduceAdd] at *; omega
    · have h0 := h 0 (by omega); have h1 := h 1 (by omega); have h2 := h 2 (by omega); have h3 := h 3 (by omega); clear h; simp only [Nat.zero_add, Nat.reduceAdd] at *
      have q : t (s + 0) = 108 ∧ t (s + 1) = 111 ∧ t (s + 2) = 111 ∧ t (s + 3) = 112 := by simp only [Nat.add_zero] at *; omega
      refine ⟨rfl, fun i hi => ?_⟩
      have hi : i < 4 := hi
      rcases (show i = 0 ∨ i = 1 ∨ i = 2 ∨ i = 3 from by omega) with rfl | rfl | rfl | rfl
      · exact q.1
      · exact q.2.1
      · exact q.2.2.1
      · exact q.2.2.2
    · exfalso; have h0 := h 0 (by omega); have h1 := h 1 (by omega); have h2 := h 2 (by omega); have h3 := h 3 (by omega); have h4 := h 4 (by omega); clear h; simp only [Nat.zero_add, Nat.reduceAdd] at *; omega
    · exfalso; have h0 := h 0 (by omega); have h1 := h 1 (by omega); have h2 := h 2 (by omega); have h3 := h 3 (by omega); have h4 := h 4 (by omega); have h5 := h 5 (by omega); clear h; simp only [Nat.zero_add, Nat.reduceAdd] at *; omega
    · exfalso; have h0 := h 0 (by omega); have h1 := h 1 (by omega); have h2 := h 2 (by omega); have h3 := h 3 (by omega); have h4 := h 4 (by omega); have h5 := h 5 (by omega); have h6 := h 6 (by omega); clear h; simp only [Nat.zero_add, Nat.reduceAdd] at *; omega
    · exfalso; rw [wv_8] at hv; have h0 := h 0 (by omega); have h1 := h 1 (by omega); have h2 := h 2 (by omega); have h3 := h 3 (by omega); have h4 := h 4 (by omega); have h5 := h 5 (by omega); have h6 := h 6 (by omega); have h7 := h 7 (by omega); clear h; simp only [Nat.zero_add, Nat.reduceAdd] at *; omega
  · rintro ⟨rfl, hq⟩
    show wv t s 4 = 247552
    have q0 : t (s + 0) = 108 := hq 0 (by decide)
    have q1 : t (s + 1) = 111 := hq 1 (by decide)
    have q2 : t (s + 2) = 111 := hq 2 (by decide)
    have q3 : t (s + 3) = 112 := hq 3 (by decide)
    clear hq h; simp only [Nat.zero_add, Nat.reduceAdd] at *; omega
theorem wv_w3 {t : Nat → Nat} {s n : Nat} (h : ∀ i, i < n → 97 ≤ t (s + i) ∧ t (s + i) ≤ 122) : wv t s n = 13703 ↔ isWp t s n 3 := by
  have e0 : wv t s 0 = 0 := rfl
  have e1 := wv_s (t := t) (s := s) (i := 0) (by omega)
  have e2 := wv_s (t := t) (s := s) (i := 1) (by omega)
  have e3 := wv_s (t := t) (s := s) (i := 2) (by omega)
  have e4 := wv_s (t := t) (s := s) (i := 3) (by omega)
  have e5 := wv_s (t := t) (s := s) (i := 4) (by omega)
  have e6 := wv_s (t := t) (s := s) (i := 5) (by omega)
  have e7 := wv_s (t := t) (s := s) (i := 6) (by omega)
  have e8 := wv_s (t := t) (s := s) (i := 7) (by omega)
  constructor
  · intro hv
    rcases n9 n with rfl | rfl | rfl | rfl | rfl | rfl | rfl | rfl | ⟨k, rfl⟩
    · exfalso; clear h; simp only [Nat.zero_add, Nat.reduceAdd] at *; omega
    · exfalso; have h0 := h 0 (by omega); clear h; simp only [Nat.zero_add, Nat.reduceAdd] at *; omega
    · exfalso; have h0 := h 0 (by omega); have h1 := h 1 (by omega); clear h; simp only [Nat.zero_add, Nat.reduceAdd] at *; omega
    · have h0 := h 0 (by omega); have h1 := h 1 (by omega); have h2 := h 2 (by omega); clear h; simp only [Nat.zero_add, Nat.reduceAdd] at *
      have q : t (s + 0) = 114 ∧ t (s + 1) = 117 ∧ t (s + 2) = 110 := by simp only [Nat.add_zero] at *; omega
      refine ⟨rfl, fun i hi => ?_⟩
      have hi : i < 3 := hi
      rcases (show i = 0 ∨ i = 1 ∨ i = 2 from by omega) with rfl | rfl | rfl
      · exact q.1
      · exact q.2.1
      · exact q.2.2
    · exfalso; have h0 := h 0 (by omega); have h1 := h 1 (by omega); have h2 := h 2 (by omega); have h3 := h 3 (by omega); clear h; simp only [Nat.zero_add, Nat.reduceAdd] at *; omega
    · exfalso; have h0 := h 0 (by omega); have h1 := h 1 (by omega); have h2 := h 2 (by omega); have h3 := h 3 (by omega); have h4 := h 4 (by omega); clear h; simp only [Nat.zero_add, Nat.reduceAdd] at *; omega
    · exfalso; have h0 := h 0 (by omega); have h1 := h 1 (by omega); have h2 := h 2 (by omega); have h3 := h 3 (by omega); have h4 := h 4 (by omega); have h5 := h 5 (by omega); clear h; simp only [Nat.zero_add, Nat.reduceAdd] at *; omega
    · exfalso; have h0 := h 0 (by omega); have h1 := h 1 (by omega); have h2 := h 2 (by omega); have h3 := h 3 (by omega); have h4 := h 4 (by omega); have h5 := h 5 (by omega); have h6 := h 6 (by omega); clear h; simp only [Nat.zero_add, Nat.reduceAdd] at *; omega
    · exfalso; rw [wv_8] at hv; have h0 := h 0 (by omega); have h1 := h 1 (by omega); have h2 := h 2 (by omega); have h3 := h 3 (by omega); have h4 := h 4 (by omega); have h5 := h 5 (by omega); have h6 := h 6 (by omega); have h7 := h 7 (by omega); clear h; simp only [Nat.zero_add, Nat.reduceAdd] at *; omega
  · rintro ⟨rfl, hq⟩
    show wv t s 3 = 13703
    have q0 : t (s + 0) = 114 := hq 0 (by decide)
    have q1 : t (s + 1) = 117 := hq 1 (by decide)
    have q2 : t (s + 2) = 110 := hq 2 (by decide)
    clear hq h; simp only [Nat.zero_add, Nat.reduceAdd] at *; omega
theorem wv_w {t : Nat → Nat} {s n wi : Nat} (hw : wi < 4) (h : ∀ i, i < n → 97 ≤ t (s + i) ∧ t (s + i) ≤ 122) : wv t s n = wdV wi ↔ isWp t s n wi := by
  rcases (show wi = 0 ∨ wi = 1 ∨ wi = 2 ∨ wi = 3 from by omega) with rfl | rfl | rfl | rfl
  · exact wv_w0 h
  · exact wv_w1 h
  · exact wv_w2 h
  · exact wv_w3 h
theorem wdV_lt {wi : Nat} (hw : wi < 4) : wdV wi < 2 ^ 62 := by
  rcases (show wi = 0 ∨ wi = 1 ∨ wi = 2 ∨ wi = 3 from by omega) with rfl | rfl | rfl | rfl <;> decide
/-- the model's words -/
theorem m_isWd {t : Nat → Nat} {L a wi : Nat} {M : Rc} {ML : RcL} (hw : wi < 4) (ha : a ≤ L) (h : MT t L a M ML) : (tK t L a = 2 ∧ isWp t (tS t L a) (tE t L a - tS t L a) wi → fX6_isWord M ML (lN (wdV wi)) = some (nI 1)) ∧ (¬ (tK t L a = 2 ∧ isWp t (tS t L a) (tE t L a - tS t L a) wi) → fX6_isWord M ML (lN (wdV wi)) = some (nI 0)) := by
  have tc := tK_c (t := t) ha
  have vl := wdV_lt hw
  have tk4 : tK t L a ≤ 4 := by omega
  unfold fX6_isWord fX6_isWord_21
  rw [h.2.1]
  by_cases c : tK t L a = 2
  · have lt : ∀ i, i < tE t L a - tS t L a → 97 ≤ t (tS t L a + i) ∧ t (tS t L a + i) ≤ 122 := by
      rcases tc with z | z | z | z | z
      · omega
      · omega
      · omega
      · exact z.2.2.2
      · omega
    have e := h.2.2.2.2 c
    rw [wrd_wv lt (Nat.le_refl _)] at e
    have b1 := wv_lt lt (i := tE t L a - tS t L a) (Nat.le_refl _)
    have b2 : 27 ^ (min (tE t L a - tS t L a) 8) ≤ 27 ^ 8 := Nat.pow_le_pow_right (by omega) (by omega)
    have b3 : wv t (tS t L a) (tE t L a - tS t L a) < 2 ^ 63 := by
      have : 27 ^ 8 < 2 ^ 63 := by decide
      omega
    have key : lg_cmp (ML 10 0) (lN (wdV wi)) = 0 ↔ isWp t (tS t L a) (tE t L a - tS t L a) wi := by
      rw [lg_cmp_eq, e, pk_lEQ b3 (by omega), wv_w hw lt]
    rw [if_eq c]
    refine ⟨fun z => if_pos (key.mpr z.2), fun z => if_neg (fun y => z ⟨c, key.mp y⟩)⟩
  · rw [if_neq c (by omega) (by omega)]
    exact ⟨fun z => absurd z.1 c, fun _ => rfl⟩
theorem wc_ok {wi k : Nat} (hw : wi < 4) (hk : k < lenS.getD wi 0) : (chS wi k &&& 255) = nI (wc wi k) ∧ wc wi k < 256 := by
  rcases (show wi = 0 ∨ wi = 1 ∨ wi = 2 ∨ wi = 3 from by omega) with rfl | rfl | rfl | rfl
  · have hk : k < 5 := hk
    rcases (show k = 0 ∨ k = 1 ∨ k = 2 ∨ k = 3 ∨ k = 4 from by omega) with rfl | rfl | rfl | rfl | rfl <;> decide
  · have hk : k < 7 := hk
    rcases (show k = 0 ∨ k = 1 ∨ k = 2 ∨ k = 3 ∨ k = 4 ∨ k = 5 ∨ k = 6 from by omega) with rfl | rfl | rfl | rfl | rfl | rfl | rfl <;> decide
  · have hk : k < 4 := hk
    rcases (show k = 0 ∨ k = 1 ∨ k = 2 ∨ k = 3 from by omega) with rfl | rfl | rfl | rfl <;> decide
  · have hk : k < 3 := hk
    rcases (show k = 0 ∨ k = 1 ∨ k = 2 from by omega) with rfl | rfl | rfl <;> decide
theorem lenS_b {wi : Nat} (hw : wi < 4) : 3 ≤ lenS.getD wi 0 ∧ lenS.getD wi 0 ≤ 7 := by
  rcases (show wi = 0 ∨ wi = 1 ∨ wi = 2 ∨ wi = 3 from by omega) with rfl | rfl | rfl | rfl <;> decide
theorem c_isW28 {T : Nat → Int32} {t : Nat → Nat} (hT : TP T t) {N wi s : Nat} (hw : wi < 4) {R : Rc} (h7 : R 7 0 = nI s) (hs : s + lenS.getD wi 0 ≤ 440) : ∀ {d i u : Nat}, d < u → i + d = lenS.getD wi 0 → ((∀ j, i ≤ j → j < lenS.getD wi 0 → t (s + j) = wc wi j) → itn (fX4_isWord_28b wi N) (fun _ _ _ => none) u T R (nI i) = some (nI 1)) ∧ (¬ (∀ j, i ≤ j → j < lenS.getD wi 0 → t (s + j) = wc wi j) → itn (fX4_isWord_28b wi N) (fun _ _ _ => none) u T R (nI i) = some (nI 0))
  | _, _, 0, h, _ => by omega
  | 0, i, u + 1, _, e => by
    have lb := lenS_b hw
    rw [itn_s]
    unfold fX4_isWord_28b
    rw [if_le (by omega) (by omega)]
    exact ⟨fun _ => rfl, fun z => absurd (fun j h1 h2 => by omega) z⟩
  | d + 1, i, u + 1, hu, e => by
    have lb := lenS_b hw
    have r := c_isW28 hT (N := N) hw h7 hs (d := d) (i := i + 1) (u := u) (by omega) (by omega)
    have wk := wc_ok hw (k := i) (by omega)
    have ta := hT (s + i) (by omega)
    rw [itn_s]
    generalize itn (fX4_isWord_28b wi N) (fun _ _ _ => none) u = K at r ⊢
    unfold fX4_isWord_28b
    rw [if_nle (by omega) (by omega), h7, nI_add, gdi_nI (by omega) (by omega), gdi_nI (by omega) (by omega), nI_clamp (by omega), nI_clamp (by omega), ta.1, wk.1]
    by_cases c : t (s + i) = wc wi i
    · rw [if_eq c, nI_add, nm_s]
      refine ⟨fun z => r.1 (fun j h1 h2 => z j (by omega) h2), fun z => r.2 (fun y => z (fun j h1 h2 => ?_))⟩
      by_cases q : j = i
      · rw [q]; exact c
      · exact y j (by omega) h2
    · rw [if_neq c (by omega) (by omega)]
      exact ⟨fun z => absurd (z i (Nat.le_refl _) (by omega)) c, fun _ => rfl⟩
theorem c_isWd {T : Nat → Int32} {t : Nat → Nat} (hT : TP T t) {N L a wi : Nat} (hN : 500 < N) (hL : L ≤ 440) (ha : a ≤ L) (hw : wi < 4) {R : Rc} (h5 : R 5 0 = nI (tE t L a)) (h6 : R 6 0 = nI (cs (tK t L a))) (h7 : R 7 0 = nI (tS t L a)) : (tK t L a = 2 ∧ isWp t (tS t L a) (tE t L a - tS t L a) wi → fX4_isWord wi N T R = some (nI 1)) ∧ (¬ (tK t L a = 2 ∧ isWp t (tS t L a) (tE t L a - tS t L a) wi) → fX4_isWord wi N T R = some (nI 0)) := by
  have tc := tK_c (t := t) ha
  have tk4 : tK t L a ≤ 4 := by omega
  have eb := tE_b (t := t) ha
  have lb := lenS_b hw
  unfold fX4_isWord fX4_isWord_24
  rw [h6]
  by_cases c : tK t L a = 2
  · rw [if_eq (by rw [c]; rfl), h5, h7, nI_sub' (by omega)]
    by_cases q : tE t L a - tS t L a = lenS.getD wi 0
    · have k := c_isW28 hT (N := N) hw h7 (by omega) (d := lenS.getD wi 0) (i := 0) (u := N) (by omega) (by omega)
      rw [if_eq q, nm_s]
      unfold fX4_isWord_28
      exact ⟨fun z => k.1 (fun j _ h2 => z.2.2 j h2), fun z => k.2 (fun y => z ⟨c, q, fun i hi => y i (by omega) hi⟩)⟩
    · rw [if_neq q (by omega) (by omega)]
      exact ⟨fun z => absurd z.2.1 q, fun _ => rfl⟩
  · rw [if_neq (by unfold cs; split <;> (try split) <;> omega) (by unfold cs; split <;> (try split) <;> omega) (by omega)]
    exact ⟨fun z => absurd z.1 c, fun _ => rfl⟩
/-- numbers -/
def nv (t : Nat → Nat) (s n : Nat) : Nat := if n = 1 then t s - 48 else 10 * (t s - 48) + (t (s + 1) - 48)
theorem nmb_nv {t : Nat → Nat} {s n : Nat} (hn : n = 1 ∨ n = 2) (h : ∀ i, i < n → 48 ≤ t (s + i) ∧ t (s + i) ≤ 57) : nmb t s n = nI (nv t s n) ∧ nv t s n ≤ 99 := by
  have h0 := h 0 (by omega)
  rw [Nat.add_zero] at h0
  have e1 : nmb t s 1 = nI (t s - 48) := by
    rw [nmb, if_pos (by omega), nmb, pk_mul, nI_add, Nat.add_zero, nI_sub' (by omega)]
    congr 1
    omega
  unfold nv
  rcases hn with rfl | rfl
  · rw [if_pos rfl]; exact ⟨e1, by omega⟩
  · have h1 := h 1 (by omega)
    rw [if_neg (by omega), nmb, if_pos (by omega), e1, pk_mul, nI_add, nI_sub' (by omega)]
    exact ⟨congrArg nI (by omega), by omega⟩
theorem c_num {T : Nat → Int32} {t : Nat → Nat} (hT : TP T t) {N s n : Nat} (hN : 500 < N) {R : Rc} {lo hi : Int32} (h5 : R 5 0 = nI (s + n)) (hs : s + n ≤ 440) (hn : n = 1 ∨ n = 2) (h : ∀ i, i < n → 48 ≤ t (s + i) ∧ t (s + i) ≤ 57) : fX4_readNumber_27 N T R lo hi (nI 0) (nI s) = if nI (nv t s n) < lo then fX4_readNumber_68 N T R (nI (nv t s n)) else if nI (nv t s n) ≤ hi then fX4_readNumber_73 N T R (nI (nv t s n)) else fX4_readNumber_68 N T R (nI (nv t s n)) := by
  have h0 := h 0 (by omega)
  rw [Nat.add_zero] at h0
  have t0 := hT s (by omega)
  have fin : ∀ v u, itn (fX4_readNumber_27b N) (fun _ _ _ _ _ _ => none) (u + 1) T R lo hi v (nI (s + n)) = if v < lo then fX4_readNumber_68 N T R v else if v ≤ hi then fX4_readNumber_73 N T R v else fX4_readNumber_68 N T R v := by
    intro v u
    rw [itn_s]
    unfold fX4_readNumber_27b
    rw [h5, if_le (Nat.le_refl _) (by omega)]
  have stp : ∀ v w i u j k, i < n → v ≤ 9 → w = 10 * v + (t (s + i) - 48) → j = s + i → k = s + i + 1 → itn (fX4_readNumber_27b N) (fun _ _ _ _ _ _ => none) (u + 1) T R lo hi (nI v) (nI j) = itn (fX4_readNumber_27b N) (fun _ _ _ _ _ _ => none) u T R lo hi (nI w) (nI k) := by
    intro v w i u j k hi hv hw hj hk
    subst hj hk
    have ti := hT (s + i) (by omega)
    have hi := h i hi
    rw [itn_s]
    generalize itn (fX4_readNumber_27b N) (fun _ _ _ _ _ _ => none) u = K
    unfold fX4_readNumber_27b
    rw [h5, if_nle (by omega) (by omega), gdi_nI (by omega) (by omega), nI_clamp (by omega), ti.1, pk_mul, nI_add, nI_sub' (by omega), nm_s, nI_add, nm_s, show v * 10 + t (s + i) - 48 = w from by omega]
  obtain ⟨u, hu⟩ : ∃ u, N = u + 1 + 1 + 1 := ⟨N - 3, by omega⟩
  have hu' := congrArg (itn (fX4_readNumber_27b N) (fun _ _ _ _ _ _ => none)) hu
  unfold fX4_readNumber_27
  rw [hu']
  have s0 := stp 0 (t s - 48) 0 (u + 1 + 1) s (s + 1) (by omega) (by omega) (by rw [Nat.add_zero]; omega) (by omega) (by omega)
  rcases hn with rfl | rfl
  · have e : nv t s 1 = t s - 48 := if_pos rfl
    rw [s0, e]
    exact fin _ _
  · have e : nv t s 2 = 10 * (t s - 48) + (t (s + 1) - 48) := if_neg (by omega)
    have s1 := stp (t s - 48) (10 * (t s - 48) + (t (s + 1) - 48)) 1 (u + 1) (s + 1) (s + 2) (by omega) (by omega) rfl (by omega) (by omega)
    rw [s0, s1, e]
    exact fin _ _
