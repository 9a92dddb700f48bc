/-! numbers: Int32 out of naturals -/
theorem gdi_nI {α : Type} {a n : Nat} {x : Option α} (h : a < n) (hn : n < 2 ^ 31) : gdi (nI a) n x = x := by
  unfold gdi
  rw [if_neg]
  rintro (h1 | h1)
  · exact nI_pos (by omega) h1
  · rw [nI_clamp (by omega)] at h1
    omega
theorem gdz_nI {α : Type} {a : Nat} {x : Option α} (h0 : 0 < a) (h : a < 2 ^ 31) : gdz (nI a) x = x := by
  unfold gdz
  rw [if_neg (nI_ne0 h0 h)]
theorem bnd_s {α β : Type} (v : α) (k : α → Option β) : bnd (some v) k = k v := rfl
theorem nm_s {α β : Type} (v : α) (k : α → Option β) : nm v k = k v := rfl
theorem gdb_0 {α : Type} {x : Option α} : gdb (nI 0) x = x := rfl
theorem gdb_1 {α : Type} {x : Option α} : gdb (nI 1) x = x := rfl
theorem nI_nat (x : Int32) : ∃ n, n < 2 ^ 32 ∧ x = nI n := by
  refine ⟨x.toBitVec.toNat, x.toBitVec.isLt, ?_⟩
  apply Int32.toBitVec_inj.mp
  show x.toBitVec = BitVec.ofNat 32 _
  simp
theorem nI_sub' {a b : Nat} (h : b ≤ a) : nI a - nI b = nI (a - b) := pk_sub h
theorem nI_subdiv (a d : Nat) : nI a - nI (a / d * d) = nI (a % d) := by
  rw [pk_sub (Nat.div_mul_le_self a d)]
  congr 1
  have := Nat.div_add_mod a d
  rw [Nat.mul_comm] at this
  omega
theorem nrem (a d : Nat) : a - a / d * d = a % d := by
  have := Nat.div_add_mod a d
  rw [Nat.mul_comm] at this
  omega
theorem nI_m1 {a : Nat} (h : 0 < a) : nI a + (-1 : Int32) = nI (a - 1) := by
  obtain ⟨b, rfl⟩ : ∃ b, a = b + 1 := ⟨a - 1, by omega⟩
  exact pk_m1 b
theorem nI_0m1 : nI 0 + (-1 : Int32) = -1 := by decide
theorem nI_ne_neg {a : Nat} (h : a < 2 ^ 31) : (nI a = (-1 : Int32)) = False := eq_false (fun e => nI_pos h (by rw [e]; decide))
theorem neg_ne_nI {a : Nat} (h : a < 2 ^ 31) : ((-1 : Int32) = nI a) = False := eq_false (fun e => nI_pos h (by rw [← e]; decide))
theorem nI_div {a d : Nat} (ha : a < 2 ^ 31) (h0 : 0 < d) (hd : d < 2 ^ 31) : nI a / nI d = nI (a / d) := pk_div ha h0 hd
theorem z0 : (0 : Int32) = nI 0 := by decide
theorem m1lt0 : ((-1 : Int32) < nI 0) = True := eq_true (by decide)
theorem m1lt {a : Nat} (h : a < 2 ^ 31) : ((-1 : Int32) < nI a) = True := by
  apply eq_true
  rw [Int32.lt_iff_toInt_lt, nI_toInt h]
  have : (-1 : Int32).toInt = -1 := by decide
  omega
theorem m1le {a : Nat} (h : a < 2 ^ 31) : (nI a ≤ (-1 : Int32)) = False := by
  apply eq_false
  rw [Int32.le_iff_toInt_le, nI_toInt h]
  have : (-1 : Int32).toInt = -1 := by decide
  omega
theorem leT {a b : Nat} (h : a ≤ b) : (a ≤ b) = True := eq_true h
theorem leF {a b : Nat} (h : b < a) : (a ≤ b) = False := eq_false (by omega)
theorem ltT {a b : Nat} (h : a < b) : (a < b) = True := eq_true h
theorem ltF {a b : Nat} (h : b ≤ a) : (a < b) = False := eq_false (by omega)
theorem eqT {a b : Nat} (h : a = b) : (a = b) = True := eq_true h
theorem eqF {a b : Nat} (h : a ≠ b) : (a = b) = False := eq_false h
theorem neT {a b : Nat} (h : a ≠ b) : (a ≠ b) = True := eq_true h
theorem neF {a b : Nat} (h : a = b) : (a ≠ b) = False := eq_false (fun c => c h)
/-- a loop's fuel -/
theorem itn_s {α : Type} (F : α → α) (b : α) (n : Nat) : itn F b (n + 1) = F (itn F b n) := rfl
theorem itn_u {α : Type} (F : α → α) (b : α) {n : Nat} (h : 0 < n) : itn F b n = F (itn F b (n - 1)) := by
  obtain ⟨m, rfl⟩ : ∃ m, n = m + 1 := ⟨n - 1, by omega⟩
  rfl
/-! booleans -/
def bI (b : Bool) : Int32 := if b then nI 1 else nI 0
theorem bI_eq0 (b : Bool) : (bI b = nI 0) = (b = false) := by cases b <;> decide
theorem bI_eq1 (b : Bool) : (bI b = nI 1) = (b = true) := by cases b <;> decide
theorem bI_t : bI true = nI 1 := rfl
theorem bI_f : bI false = nI 0 := rfl
/-! rows of naturals -/
abbrev Nx : Type := Nat → Nat → Nat
def up2 (x : Nx) (f j v : Nat) : Nx := fun a i => if a = f then (if i = j then v else x a i) else x a i
def up1 (x : Nx) (f v : Nat) : Nx := fun a i => if a = f then v else x a i
theorem up2_ne {x : Nx} {f j v a i : Nat} (h : a ≠ f) : up2 x f j v a i = x a i := if_neg h
theorem up2_at {x : Nx} {f j v : Nat} : up2 x f j v f j = v := by simp [up2]
theorem up2_o {x : Nx} {f j v i : Nat} (h : i ≠ j) : up2 x f j v f i = x f i := by simp [up2, h]
theorem up2_if {x : Nx} {f j v i : Nat} : up2 x f j v f i = if i = j then v else x f i := by simp [up2]
theorem up1_ne {x : Nx} {f v a i : Nat} (h : a ≠ f) : up1 x f v a i = x a i := if_neg h
theorem up1_at {x : Nx} {f v i : Nat} : up1 x f v f i = v := by simp [up1]
def embP (p : Nx) : Rc := fun a i => nI (p a i)
def embL (x : Nx) : Rc := fun a i => if a = 9 ∨ a = 10 then nI (x a i) - nI 1 else nI (x a i)
theorem embP_a (p : Nx) (a i : Nat) : embP p a i = nI (p a i) := rfl
theorem embL_a {x : Nx} {a i : Nat} (h : a ≠ 9 ∧ a ≠ 10) : embL x a i = nI (x a i) := if_neg (by omega)
theorem embL_9 (x : Nx) (i : Nat) : embL x 9 i = nI (x 9 i) - nI 1 := rfl
theorem embL_10 (x : Nx) (i : Nat) : embL x 10 i = nI (x 10 i) - nI 1 := rfl
theorem embL_up {x : Nx} {f j v : Nat} (h : f ≠ 9 ∧ f ≠ 10) : va_up (embL x) f (upd (embL x f) j (nI v)) = embL (up2 x f j v) := by
  funext a i
  by_cases ha : a = f
  · subst ha
    rw [va_up_self]
    by_cases hi : i = j
    · subst hi
      rw [pk_us, embL_a h, up2_at]
    · rw [pk_un hi, embL_a h, embL_a h, up2_o hi]
  · rw [va_up_ne _ _ ha]
    unfold embL
    rw [up2_ne ha]
theorem embL_up1 {x : Nx} {f v : Nat} (h : f ≠ 9 ∧ f ≠ 10) : va_up (embL x) f (fun _ => nI v) = embL (up1 x f v) := by
  funext a i
  by_cases ha : a = f
  · subst ha
    rw [va_up_self, embL_a h, up1_at]
  · rw [va_up_ne _ _ ha]
    unfold embL
    rw [up1_ne ha]
theorem embL_upl {x : Nx} {f v : Nat} (h : f = 9 ∨ f = 10) : va_up (embL x) f (fun _ => nI v - nI 1) = embL (up1 x f v) := by
  funext a i
  by_cases ha : a = f
  · subst ha
    rw [va_up_self]
    unfold embL
    rw [if_pos h, up1_at]
  · rw [va_up_ne _ _ ha]
    unfold embL
    rw [up1_ne ha]
/-- every row is one of naturals -/
theorem embL_all (L : Rc) : ∃ x : Nx, L = embL x := by
  refine ⟨fun a i => if a = 9 ∨ a = 10 then (L a i + nI 1).toBitVec.toNat else (L a i).toBitVec.toNat, ?_⟩
  have key : ∀ y : Int32, nI y.toBitVec.toNat = y := by
    intro y
    apply Int32.toBitVec_inj.mp
    show BitVec.ofNat 32 _ = y.toBitVec
    simp
  funext a i
  unfold embL
  by_cases h : a = 9 ∨ a = 10
  · simp only [h, if_true, key]
    rw [Int32.add_sub_cancel]
  · simp only [h, if_false, key]
theorem embP_all (L : Rc) : ∃ x : Nx, L = embP x := by
  refine ⟨fun a i => (L a i).toBitVec.toNat, ?_⟩
  funext a i
  apply Int32.toBitVec_inj.mp
  show _ = BitVec.ofNat 32 _
  simp
theorem upd_eq {f : Nat → Int32} {k j : Nat} {x : Int32} (h : j = k) : upd f k x j = x := if_pos h
theorem upd_ne {f : Nat → Int32} {k j : Nat} {x : Int32} (h : j ≠ k) : upd f k x j = f j := if_neg h
