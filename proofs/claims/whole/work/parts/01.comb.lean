/-! pure combinators of the printed functions: what can fail is a guard -/
abbrev Rc : Type := Nat → Nat → Int32
abbrev RcL : Type := Nat → Nat → Int64
def lenS : List Nat := [5, 7, 4, 3]
def bytS : List (List Int32) := [[119, 111, 114, 107, 115], [115, 116, 97, 116, 105, 111, 110], [108, 111, 111, 112], [114, 117, 110]]
def chS (i k : Nat) : Int32 := (bytS.getD i []).getD k 0
def gdi {α : Type} (i : Int32) (n : Nat) (x : Option α) : Option α := if i < 0 ∨ n ≤ i.toNatClampNeg then none else x
def gdz {α : Type} (y : Int32) (x : Option α) : Option α := if y = 0 then none else x
def gdb {α : Type} (r : Int32) (x : Option α) : Option α := if r = 0 ∨ r = 1 then x else none
def nm {α β : Type} (v : α) (k : α → Option β) : Option β := k v
def bnd {α β : Type} (o : Option α) (k : α → Option β) : Option β := match o with
  | none => none
  | some v => k v
def itn {α : Type} (F : α → α) (b : α) : Nat → α
  | 0 => b
  | n + 1 => F (itn F b n)
theorem itn_ind {α : Type} {F : α → α} {b : α} (P : α → Prop) (h0 : P b) (hs : ∀ k, P k → P (F k)) : ∀ n, P (itn F b n)
  | 0 => h0
  | n + 1 => hs _ (itn_ind P h0 hs n)
theorem gdi_some {α : Type} {i : Int32} {n : Nat} {x : Option α} {z : α} (h : gdi i n x = some z) : vp_in i n ∧ x = some z := by
  unfold gdi at h
  by_cases c : i < 0 ∨ n ≤ i.toNatClampNeg
  · rw [if_pos c] at h; cases h
  · rw [if_neg c] at h; exact ⟨c, h⟩
theorem gdz_some {α : Type} {y : Int32} {x : Option α} {z : α} (h : gdz y x = some z) : ¬ y = 0 ∧ x = some z := by
  unfold gdz at h
  by_cases c : y = 0
  · rw [if_pos c] at h; cases h
  · rw [if_neg c] at h; exact ⟨c, h⟩
theorem gdb_some {α : Type} {y : Int32} {x : Option α} {z : α} (h : gdb y x = some z) : (y = 0 ∨ y = 1) ∧ x = some z := by
  unfold gdb at h
  by_cases c : y = 0 ∨ y = 1
  · rw [if_pos c] at h; exact ⟨c, h⟩
  · rw [if_neg c] at h; cases h
theorem bnd_some {α β : Type} {x : Option α} {k : α → Option β} {z : β} (h : bnd x k = some z) : ∃ v, x = some v ∧ k v = some z := by
  cases x with
  | none => cases h
  | some v => exact ⟨v, rfl, h⟩
theorem ite_t {α : Type} {c : Prop} [Decidable c] {x y : Option α} {z : α} (h : (if c then x else y) = some z) (hc : c) : x = some z := by rwa [if_pos hc] at h
theorem ite_f {α : Type} {c : Prop} [Decidable c] {x y : Option α} {z : α} (h : (if c then x else y) = some z) (hc : ¬ c) : y = some z := by rwa [if_neg hc] at h
theorem nar_b {r : Int32} (h : r = 0 ∨ r = 1) : narrow .boolean (.int r) = .int r := by rcases h with rfl | rfl <;> rfl
