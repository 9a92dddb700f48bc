/-! no pace is above what a ring allows -/
/-- work that was done at a station -/
def wkS (p x : Nx) (k : Nat) : Nat := p 0 k * x 2 k + (if x 1 k = x 2 k then 0 else p 0 k - (x 3 k - x 8 0))
def wk (p x : Nx) (a : Nat) : Nat → Nat
  | 0 => 0
  | d + 1 => wk p x a d + wkS p x (a + d)
def bsy (x : Nx) (a : Nat) : Nat → Nat
  | 0 => 0
  | d + 1 => bsy x a d + (x 1 (a + d) - x 2 (a + d))
def tmS' (p : Nx) (a : Nat) : Nat → Nat
  | 0 => 0
  | d + 1 => tmS' p a d + p 0 (a + d)
theorem wkS_fin {p x : Nx} {k j : Nat} (hb : x 1 k ≠ x 2 k) (hx : x 1 k ≤ x 2 k + 1 ∧ x 2 k ≤ x 1 k) (hd : x 3 k ≤ x 8 0) : wkS p (sFin p x k) j = wkS p x j := by
  unfold wkS
  rw [sFin_2, sFin_o (by omega), sFin_o (by omega), sFin_o (by omega)]
  by_cases c : j = k
  · subst c
    rw [if_pos rfl, if_pos (by omega), if_neg hb, Nat.mul_add]
    omega
  · rw [if_neg c]
theorem wkS_beg {p x : Nx} {k j : Nat} (hb : x 1 k = x 2 k) : wkS p (sBeg p x k) j = wkS p x j := by
  unfold wkS
  rw [sBeg_1, sBeg_3, sBeg_o (by omega), sBeg_o (by omega)]
  by_cases c : j = k
  · subst c
    rw [if_pos rfl, if_pos rfl, if_neg (by omega), if_pos hb]
    omega
  · rw [if_neg c, if_neg c]
theorem wkS_finIf {p x : Nx} {k j : Nat} (hx : LI p x) (hk : k < p 6 0) : wkS p (sFinIf p x k) j = wkS p x j := by
  have h := hx.k hk
  unfold sFinIf
  by_cases c : x 1 k = x 2 k
  · rw [if_pos c]
  · rw [if_neg c]
    by_cases d : x 8 0 < x 3 k
    · rw [if_pos d]
    · rw [if_neg d, wkS_fin c (by omega) (by omega)]
theorem wkS_begIf {p x : Nx} {k j : Nat} : wkS p (sBegIf p x k) j = wkS p x j := by
  unfold sBegIf
  by_cases c : x 1 k = x 2 k
  · rw [if_pos c]
    by_cases d : canB p x k = true
    · rw [if_pos d, wkS_beg c]
    · rw [if_neg d]
  · rw [if_neg c]
theorem wkS_down1 {p : Nx} (hp : PI p) {j : Nat} : ∀ {m : Nat} {x : Nx}, m ≤ p 6 0 → LI p x → wkS p (down (sFinIf p) m x) j = wkS p x j
  | 0, _, _, _ => rfl
  | m + 1, x, hm, hx => by
    show wkS p (down (sFinIf p) m (sFinIf p x m)) j = _
    rw [wkS_down1 hp (by omega) (LI_finIf hp hx (by omega)), wkS_finIf hx (by omega)]
theorem wkS_down2 {p : Nx} {j : Nat} : ∀ {m : Nat} {x : Nx}, wkS p (down (sBegIf p) m x) j = wkS p x j
  | 0, _ => rfl
  | m + 1, x => by
    show wkS p (down (sBegIf p) m (sBegIf p x m)) j = _
    rw [wkS_down2, wkS_begIf]
theorem wkS_round {p x : Nx} (hp : PI p) (hx : LI p x) {j : Nat} : wkS p (sRound p x) j = wkS p x j := by
  unfold sRound
  rw [wkS_down2, wkS_down1 hp (Nat.le_refl _) hx]
theorem wkS_time {p x : Nx} {u k : Nat} (hx : LI p x) (hk : k < p 6 0) (h1 : x 8 0 ≤ u) (h2 : ∀ k, k < p 6 0 → x 1 k ≠ x 2 k → u ≤ x 3 k) : wkS p (up1 x 8 u) k ≤ wkS p x k + (u - x 8 0) * (x 1 k - x 2 k) := by
  have a := hx.k hk
  unfold wkS
  rw [up1_ne (by omega), up1_ne (by omega), up1_ne (by omega), up1_at]
  by_cases c : x 1 k = x 2 k
  · rw [if_pos c, if_pos c]; omega
  · have b := hx.e hk c
    have d := h2 k hk c
    rw [if_neg c, if_neg c, show x 1 k - x 2 k = 1 from by omega, Nat.mul_one]
    omega
theorem wk_time {p x : Nx} {u a : Nat} (hx : LI p x) (h1 : x 8 0 ≤ u) (h2 : ∀ k, k < p 6 0 → x 1 k ≠ x 2 k → u ≤ x 3 k) : ∀ {d : Nat}, a + d ≤ p 6 0 → wk p (up1 x 8 u) a d ≤ wk p x a d + (u - x 8 0) * bsy x a d
  | 0, _ => Nat.le_refl _
  | d + 1, h => by
    have i := wk_time (a := a) hx h1 h2 (d := d) (by omega)
    have s := wkS_time (k := a + d) hx (by omega) h1 h2
    unfold wk bsy
    rw [Nat.mul_add]
    omega
theorem wk_congr {p x y : Nx} {a : Nat} (h : ∀ j, wkS p y j = wkS p x j) : ∀ {d : Nat}, wk p y a d = wk p x a d
  | 0 => rfl
  | d + 1 => by
    unfold wk
    rw [wk_congr h, h]
theorem bsy_le {p x : Nx} (hx : LI p x) {a : Nat} : ∀ {d : Nat}, a + d < p 6 0 → bsy x a (d + 1) + x 2 (a + d) ≤ x 1 a
  | 0, h => by
    have := hx.k (k := a) h
    show 0 + (x 1 (a + 0) - x 2 (a + 0)) + x 2 (a + 0) ≤ x 1 a
    rw [Nat.add_zero]
    omega
  | d + 1, h => by
    have i := bsy_le hx (a := a) (d := d) (by omega)
    have s := hx.s (k := a + d) (by omega)
    have k := hx.k (k := a + (d + 1)) h
    unfold bsy
    rw [show a + d + 1 = a + (d + 1) from by omega] at s
    omega
theorem wk_step {p x : Nx} {a d c : Nat} (hp : PI p) (hx : LZ p x) (hT : x 8 0 < 2 ^ 30) (ha : a + d < p 6 0) (hc : x 1 a ≤ c + x 2 (a + d)) : wk p (sStep p x) a (d + 1) ≤ wk p x a (d + 1) + c * (sStep p x 8 0 - x 8 0) := by
  have b := sNext_b hp hx hT
  have e := wk_congr (p := p) (x := up1 x 8 (sNext p x)) (y := sStep p x) (a := a) (fun j => wkS_round hp (LI_step hp hx hT)) (d := d + 1)
  have t := wk_time (a := a) (u := sNext p x) hx.1 (by omega) (fun k hk hb => sNext_le hk hb) (d := d + 1) (by omega)
  have y := bsy_le hx.1 ha
  have m : (sNext p x - x 8 0) * bsy x a (d + 1) ≤ (sNext p x - x 8 0) * c := Nat.mul_le_mul_left _ (by omega)
  rw [e, step_8, Nat.mul_comm c]
  omega
/-- what bounds the cards of a ring: a LOOP, or a STATION alone -/
def Rng (p : Nx) (C : Nat → Nat) (a d c : Nat) : Prop := a + d < p 6 0 ∧ ((d = 0 ∧ c = 1) ∨ ∃ l, l < p 7 0 ∧ p 2 l = a ∧ p 3 l = a + d ∧ C l = c)
theorem Rng.use {p x : Nx} {C : Nat → Nat} {a d c : Nat} (hx : LI p x) (h4 : ∀ l, l < p 7 0 → x 4 l = C l) (h : Rng p C a d c) : x 1 a ≤ c + x 2 (a + d) := by
  rcases h.2 with ⟨h1, h2⟩ | ⟨l, h1, h2, h3, h5⟩
  · subst h1
    have := hx.k (k := a) (by have := h.1; omega)
    rw [Nat.add_zero]
    omega
  · have := (hx.l h1).2.2
    rw [h2, h3, h4 l h1, h5] at this
    exact this
theorem step_4 {p x : Nx} {l : Nat} : sStep p x 4 l = x 4 l := by
  unfold sStep
  rw [round_o (by omega), up1_ne (by omega)]
theorem wk_leap {p : Nx} {C : Nat → Nat} {a d c T : Nat} (hp : PI p) (hr : Rng p C a d c) : ∀ {e : Nat} {x : Nx}, LZ p x → (∀ l, l < p 7 0 → x 4 l = C l) → x 8 0 + 120 * e < 2 ^ 30 → wk p (leapN p T e x) a (d + 1) + c * x 8 0 ≤ wk p x a (d + 1) + c * leapN p T e x 8 0
  | 0, x, _, _, _ => Nat.le_refl _
  | e + 1, x, hx, h4, hT => by
    by_cases q : x 2 (p 6 0 - 1) = T
    · have b := sNext_b hp hx (by omega)
      have s := wk_step hp hx (by omega) hr.1 (hr.use hx.1 h4)
      have i := wk_leap (T := T) hp hr (e := e) (x := sStep p x) (LZ_step hp hx (by omega)) (fun l hl => by rw [step_4]; exact h4 l hl) (by rw [step_8]; omega)
      rw [leapN_go q]
      rw [step_8] at s i
      have m : c * (sNext p x - x 8 0) + c * x 8 0 = c * sNext p x := by
        rw [← Nat.mul_add]
        congr 1
        omega
      omega
    · rw [leapN_stop q]
      exact Nat.le_refl _
theorem wk_pre {p x : Nx} {C : Nat → Nat} {f a d c : Nat} (hp : PI p) (h : Stt p C f x) (hr : Rng p C a d c) : ∀ {e m : Nat}, m + e ≤ 1501 → wk p (pre p x (m + e)) a (d + 1) + c * pre p x m 8 0 ≤ wk p (pre p x m) a (d + 1) + c * pre p x (m + e) 8 0
  | 0, m, _ => Nat.le_refl _
  | e + 1, m, hm => by
    have i := wk_pre hp h hr (e := e) (m := m) (by omega)
    have j := pre_ok hp h (n := m + e) (by omega)
    have s := wk_leap (T := pre p x (m + e) 2 (p 6 0 - 1)) hp hr (e := 102) j.1 j.2.2.2.2 (by omega)
    have q : pre p x (m + (e + 1)) = leapN p (pre p x (m + e) 2 (p 6 0 - 1)) 102 (pre p x (m + e)) := rfl
    rw [q]
    omega
theorem wkS_shf {p x y : Nx} {D k : Nat} (hx : LZ p x) (hy : LZ p y) (h : Shf p x y D) (hk : k < p 6 0) : wkS p y k = wkS p x k + p 0 k * D := by
  have a := h.1 k hk
  have q := a.2.2.1
  unfold left at q
  unfold wkS
  rw [a.2.1, Nat.mul_add]
  by_cases c : x 1 k = x 2 k
  · rw [if_pos c, if_pos (by omega)]; omega
  · rw [if_neg c, if_neg (by omega)] at q
    rw [if_neg c, if_neg (by omega), q]; omega
theorem wk_shf {p x y : Nx} {D a : Nat} (hx : LZ p x) (hy : LZ p y) (h : Shf p x y D) : ∀ {d : Nat}, a + d ≤ p 6 0 → wk p y a d = wk p x a d + tmS' p a d * D
  | 0, _ => by show 0 = 0 + 0 * D; omega
  | d + 1, hd => by
    unfold wk tmS'
    rw [wk_shf hx hy h (d := d) (by omega), wkS_shf hx hy h (k := a + d) (by omega), Nat.add_mul]
    omega
theorem ring_ok {p x : Nx} {C : Nat → Nat} {f a d c k n : Nat} (hp : PI p) (h : Stt p C f x) (hr : Rng p C a d c) (ho : paceAt p x 1500 0 = some (k, n)) : tmS' p a (d + 1) * (n - k) ≤ c * (pre p x (n + 1) 8 0 - pre p x (k + 1) 8 0) := by
  have s := paceAt_some ho
  have a1 := pre_ok hp h (n := k + 1) (by omega)
  have a2 := pre_ok hp h (n := n + 1) (by omega)
  have sh := kE_shf (D := n - k) hp a1.1 a2.1 (by rw [a1.2.1, a2.2.1]; omega) s.2.2
  have w := wk_pre hp h hr (e := n - k) (m := k + 1) (by omega)
  rw [show k + 1 + (n - k) = n + 1 from by omega] at w
  have e := wk_shf (a := a) a1.1 a2.1 sh (d := d + 1) (by have := hr.1; omega)
  have t := pre_time hp h (d := n - k) (m := k + 1) (by omega)
  rw [show k + 1 + (n - k) = n + 1 from by omega] at t
  rw [Nat.mul_sub c]
  omega
/-- parts and minutes of a pace, lowest terms -/
theorem ring_pc {p x : Nx} {C : Nat → Nat} {f a d c k n : Nat} (hp : PI p) (h : Stt p C f x) (hr : Rng p C a d c) (ho : paceAt p x 1500 0 = some (k, n)) : tmS' p a (d + 1) * ((n - k) / pcD p x k n) ≤ c * ((pre p x (n + 1) 8 0 - pre p x (k + 1) 8 0) / pcD p x k n) := by
  have s := paceAt_some ho
  have r := ring_ok hp h hr ho
  have gp : 0 < pcD p x k n := Nat.gcd_pos_of_pos_left _ (by omega)
  obtain ⟨u, hu⟩ : pcD p x k n ∣ (n - k) := Nat.gcd_dvd_left _ _
  obtain ⟨v, hv⟩ : pcD p x k n ∣ (pre p x (n + 1) 8 0 - pre p x (k + 1) 8 0) := Nat.gcd_dvd_right _ _
  generalize pcD p x k n = g at *
  rw [hu, hv] at r ⊢
  rw [Nat.mul_div_cancel_left _ gp, Nat.mul_div_cancel_left _ gp]
  rw [Nat.mul_left_comm, Nat.mul_left_comm c] at r
  exact Nat.le_of_mul_le_mul_left r gp
theorem forbid {W c P m n T : Nat} (h : W * P ≤ c * T) (hT : 0 < T) (hf : m * c < n * W) : ¬ n * T ≤ P * m := by
  intro z
  have a : n * W * T ≤ m * c * T := by
    calc n * W * T = W * (n * T) := by rw [Nat.mul_comm n W, Nat.mul_assoc]
      _ ≤ W * (P * m) := Nat.mul_le_mul_left _ z
      _ = (W * P) * m := by rw [Nat.mul_assoc]
      _ ≤ (c * T) * m := Nat.mul_le_mul_right _ h
      _ = m * c * T := by rw [Nat.mul_comm (c * T) m, Nat.mul_assoc]
  have b : m * c * T < n * W * T := Nat.mul_lt_mul_of_pos_right hf hT
  omega
