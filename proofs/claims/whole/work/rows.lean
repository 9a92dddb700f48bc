section
/-! pure combinators of the printed functions: what can fail is a guard -/
abbrev Rc : Type := Nat → Nat → Int32
abbrev RcL : Type := Nat → Nat → Int64
def lenS : List Nat := [5, 7, 4, 3]
def bytS : List (List Int32) := [[119, 111, 114, 107, 115], [115, 116, 97, 116, 105, 111, 110], [108, 111, 111, 112], [114, 117, 110]]
def chS (i k : Nat) : Int32 := (bytS.getD i []).getD k 0
def gdi {α : Type} (i : Int32) (n : Nat) (x : Option α) : Option α := if i < 0 ∨ n ≤ i.toNatClampNeg then none else x
def gdz {α : Type} (y : Int32) (x : Option α) : Option α := if y = 0 then none else x
def gdb {α : Type} (r : Int32) (x : Option α) : Option α := if r = 0 ∨ r = 1 then x else none
def nm {α β : Type} (v : α) (k : α → Option β) : Option β := k v
def bnd {α β : Type} (o : Option α) (k : α → Option β) : Option β := match o with
  | none => none
  | some v => k v
def itn {α : Type} (F : α → α) (b : α) : Nat → α
  | 0 => b
  | n + 1 => F (itn F b n)
theorem itn_ind {α : Type} {F : α → α} {b : α} (P : α → Prop) (h0 : P b) (hs : ∀ k, P k → P (F k)) : ∀ n, P (itn F b n)
  | 0 => h0
  | n + 1 => hs _ (itn_ind P h0 hs n)
theorem gdi_some {α : Type} {i : Int32} {n : Nat} {x : Option α} {z : α} (h : gdi i n x = some z) : vp_in i n ∧ x = some z := by
  unfold gdi at h
  by_cases c : i < 0 ∨ n ≤ i.toNatClampNeg
  · rw [if_pos c] at h; cases h
  · rw [if_neg c] at h; exact ⟨c, h⟩
theorem gdz_some {α : Type} {y : Int32} {x : Option α} {z : α} (h : gdz y x = some z) : ¬ y = 0 ∧ x = some z := by
  unfold gdz at h
  by_cases c : y = 0
  · rw [if_pos c] at h; cases h
  · rw [if_neg c] at h; exact ⟨c, h⟩
theorem gdb_some {α : Type} {y : Int32} {x : Option α} {z : α} (h : gdb y x = some z) : (y = 0 ∨ y = 1) ∧ x = some z := by
  unfold gdb at h
  by_cases c : y = 0 ∨ y = 1
  · rw [if_pos c] at h; exact ⟨c, h⟩
  · rw [if_neg c] at h; cases h
theorem bnd_some {α β : Type} {x : Option α} {k : α → Option β} {z : β} (h : bnd x k = some z) : ∃ v, x = some v ∧ k v = some z := by
  cases x with
  | none => cases h
  | some v => exact ⟨v, rfl, h⟩
theorem ite_t {α : Type} {c : Prop} [Decidable c] {x y : Option α} {z : α} (h : (if c then x else y) = some z) (hc : c) : x = some z := by rwa [if_pos hc] at h
theorem ite_f {α : Type} {c : Prop} [Decidable c] {x y : Option α} {z : α} (h : (if c then x else y) = some z) (hc : ¬ c) : y = some z := by rwa [if_neg hc] at h
theorem nar_b {r : Int32} (h : r = 0 ∨ r = 1) : narrow .boolean (.int r) = .int r := by rcases h with rfl | rfl <;> rfl
end
section
/-! java/util/Arrays.fill([II)V -/
def fJ7_fill_53178_5b (nU : Nat) (N : Nat) (k5 : (Nat → Int32) → Int32 → Int32 → Int32 → Option ((Nat → Int32))) (U : Nat → Int32) (x1 : Int32) (x2 : Int32) (x3 : Int32) : Option ((Nat → Int32)) := if x3 ≤ x2 then some U else gdi x2 nU (nm (upd U (x2.toNatClampNeg) x1) (fun U1 => nm (x2 + (nI 1)) (fun v2 => k5 U1 x1 v2 x3)))
def fJ7_fill_53178_5 (nU : Nat) (N : Nat) : (Nat → Int32) → Int32 → Int32 → Int32 → Option ((Nat → Int32)) := itn (fJ7_fill_53178_5b nU N) (fun _ _ _ _ => none) N
def fJ7_fill_53178 (nU : Nat) (N : Nat) (U : Nat → Int32) (x1 : Int32) : Option ((Nat → Int32)) := nm (nI 0) (fun v1 => nm (nI nU) (fun v2 => fJ7_fill_53178_5 nU N U x1 v1 v2))

/-! CardLoops$Line.isIdle(I)Z -/
def fX1_isIdle (L : Rc) (x1 : Int32) : Option (Int32) := gdi x1 6 (gdi x1 6 (if (L 1 x1.toNatClampNeg) = (L 2 x1.toNatClampNeg) then some (nI 1) else some (nI 0)))

/-! CardLoops$Line.waiting(I)I -/
def fX1_waiting (L : Rc) (x1 : Int32) : Option (Int32) := if (nI 1) ≤ x1 then gdi (x1 - (nI 1)) 6 (gdi x1 6 (some ((L 2 (x1 - (nI 1)).toNatClampNeg) - (L 1 x1.toNatClampNeg)))) else some (nI 0)

/-! CardLoops$Line.out()I -/
def fX1_out (P : Rc) (L : Rc) : Option (Int32) := if (nI 1) ≤ (P 6 0) then gdi ((P 6 0) - (nI 1)) 6 (some (L 2 ((P 6 0) - (nI 1)).toNatClampNeg)) else some (nI 0)

/-! CardLoops$Line.onTheirWay()I -/
def fX1_onTheirWay (P : Rc) (L : Rc) : Option (Int32) := bnd (fX1_out P L) (fun z1 => some ((L 1 0) - z1))

/-! CardLoops$Line.free(I)I -/
def fX1_free (P : Rc) (L : Rc) (x1 : Int32) : Option (Int32) := gdi x1 5 (gdi x1 5 (gdi (P 2 x1.toNatClampNeg) 6 (gdi x1 5 (gdi (P 3 x1.toNatClampNeg) 6 (some ((L 4 x1.toNatClampNeg) - ((L 1 (P 2 x1.toNatClampNeg).toNatClampNeg) - (L 2 (P 3 x1.toNatClampNeg).toNatClampNeg))))))))

/-! CardLoops$Line.kindOf(I)I -/
def fX1_kindOf_23 (P : Rc) (L : Rc) : Option (Int32) := some (nI 0)
def fX1_kindOf (P : Rc) (L : Rc) (x1 : Int32) : Option (Int32) := if (P 9 0) < (nI 1) then fX1_kindOf_23 P L else if (L 7 0) < (nI 1) then fX1_kindOf_23 P L else if 0 ≤ x1 then gdz (L 7 0) (gdz (P 9 0) (gdi ((x1 / (L 7 0)) - (x1 / (L 7 0)) / (P 9 0) * (P 9 0)) 120 (some (P 5 ((x1 / (L 7 0)) - (x1 / (L 7 0)) / (P 9 0) * (P 9 0)).toNatClampNeg)))) else fX1_kindOf_23 P L

/-! CardLoops$Line.kindAt(I)I -/
def fX1_kindAt (P : Rc) (L : Rc) (x1 : Int32) : Option (Int32) := bnd (fX1_isIdle L x1) (fun z1 => if z1 = 0 then gdi x1 6 (bnd (fX1_kindOf P L ((L 1 x1.toNatClampNeg) - (nI 1))) (fun z2 => some z2)) else some (-1 : Int32))

/-! CardLoops$Line.placeInRuns()I -/
def fX1_placeInRuns (P : Rc) (L : Rc) : Option (Int32) := nm ((P 9 0) * (L 7 0)) (fun v1 => if (nI 1) ≤ v1 then gdz v1 (some ((L 1 0) - (L 1 0) / v1 * v1)) else some (nI 0))

/-! CardLoops$Line.setUpAt(I)I -/
def fX1_setUpAt (P : Rc) (L : Rc) (x1 : Int32) : Option (Int32) := gdi x1 6 (gdi x1 6 (some ((L 3 x1.toNatClampNeg) - (P 0 x1.toNatClampNeg))))

/-! CardLoops$Line.stateOf(I)I -/
def fX1_stateOf_38 (P : Rc) (L : Rc) : Option (Int32) := some (nI 1)
def fX1_stateOf (P : Rc) (L : Rc) (x1 : Int32) : Option (Int32) := bnd (fX1_isIdle L x1) (fun z1 => if z1 = 0 then bnd (fX1_setUpAt P L x1) (fun z3 => if z3 ≤ (L 8 0) then some (nI 3) else some (nI 2)) else if x1 = 0 then fX1_stateOf_38 P L else bnd (fX1_waiting L x1) (fun z2 => if z2 ≤ 0 then some (nI 0) else fX1_stateOf_38 P L))

/-! CardLoops$Line.finish(I)V -/
def fX1_finish (P : Rc) (L : Rc) (x1 : Int32) : Option (Rc) := gdi x1 6 (nm (L 2 x1.toNatClampNeg) (fun v1 => gdi x1 6 (gdi x1 6 (nm (va_up L 2 (upd (L 2) (x1.toNatClampNeg) ((L 2 x1.toNatClampNeg) + (nI 1)))) (fun L2 => if x1 = ((P 6 0) - (nI 1)) then gdi (v1 - v1 / (nI 20) * (nI 20)) 20 (nm (va_up L2 9 (fun _ => ((L2 8 0) - (L2 5 (v1 - v1 / (nI 20) * (nI 20)).toNatClampNeg)))) (fun L3 => nm (va_up L3 10 (fun _ => (if (L3 10 0) < (L3 9 0) then (L3 9 0) else (L3 10 0)))) (fun L4 => some L4))) else some L2)))))

/-! CardLoops$Line.canBegin(I)Z -/
def fX1_canBegin_52 (N : Nat) (k17 : Rc → Rc → Int32 → Int32 → Option (Int32)) (P : Rc) (L : Rc) (x1 : Int32) (x2 : Int32) : Option (Int32) := nm (x2 + (nI 1)) (fun v1 => k17 P L x1 v1)
def fX1_canBegin_17b (N : Nat) (k17 : Rc → Rc → Int32 → Int32 → Option (Int32)) (P : Rc) (L : Rc) (x1 : Int32) (x2 : Int32) : Option (Int32) := if (P 7 0) ≤ x2 then some (nI 1) else gdi x2 5 (if (P 2 x2.toNatClampNeg) = x1 then bnd (fX1_free P L x2) (fun z1 => if (nI 1) ≤ z1 then fX1_canBegin_52 N k17 P L x1 x2 else some (nI 0)) else fX1_canBegin_52 N k17 P L x1 x2)
def fX1_canBegin_17 (N : Nat) : Rc → Rc → Int32 → Int32 → Option (Int32) := itn (fX1_canBegin_17b N) (fun _ _ _ _ => none) N
def fX1_canBegin_15 (N : Nat) (P : Rc) (L : Rc) (x1 : Int32) : Option (Int32) := nm (nI 0) (fun v1 => fX1_canBegin_17 N P L x1 v1)
def fX1_canBegin (N : Nat) (P : Rc) (L : Rc) (x1 : Int32) : Option (Int32) := if x1 ≤ 0 then fX1_canBegin_15 N P L x1 else bnd (fX1_waiting L x1) (fun z1 => if (nI 1) ≤ z1 then fX1_canBegin_15 N P L x1 else some (nI 0))

/-! CardLoops$Line.begin(I)V -/
def fX1_begin_49 (P : Rc) (L : Rc) (x1 : Int32) (x2 : Int32) (y0 : Int32) : Option (Rc) := nm y0 (fun v1 => gdi x1 6 (gdi x1 6 (nm (va_up L 3 (upd (L 3) (x1.toNatClampNeg) (((L 8 0) + v1) + (P 0 x1.toNatClampNeg)))) (fun L2 => if x1 = 0 then gdi (x2 - x2 / (nI 20) * (nI 20)) 20 (nm (va_up L2 5 (upd (L2 5) ((x2 - x2 / (nI 20) * (nI 20)).toNatClampNeg) (L2 8 0))) (fun L3 => some L3)) else some L2))))
def fX1_begin_48 (P : Rc) (L : Rc) (x1 : Int32) (x2 : Int32) : Option (Rc) := fX1_begin_49 P L x1 x2 (nI 0)
def fX1_begin (P : Rc) (L : Rc) (x1 : Int32) : Option (Rc) := gdi x1 6 (nm (L 1 x1.toNatClampNeg) (fun v1 => gdi x1 6 (gdi x1 6 (nm (va_up L 1 (upd (L 1) (x1.toNatClampNeg) ((L 1 x1.toNatClampNeg) + (nI 1)))) (fun L2 => if v1 ≤ 0 then fX1_begin_48 P L2 x1 v1 else bnd (fX1_kindOf P L2 (v1 - (nI 1))) (fun z3 => bnd (fX1_kindOf P L2 v1) (fun z4 => if z3 = z4 then fX1_begin_48 P L2 x1 v1 else gdi x1 6 (fX1_begin_49 P L2 x1 v1 (P 1 x1.toNatClampNeg)))))))))

/-! CardLoops$Line.round()V -/
def fX1_round_81 (N : Nat) (k56 : Rc → Rc → Int32 → Option (Rc)) (P : Rc) (L : Rc) (x1 : Int32) : Option (Rc) := nm (x1 + (-1 : Int32)) (fun v1 => k56 P L v1)
def fX1_round_56b (N : Nat) (k56 : Rc → Rc → Int32 → Option (Rc)) (P : Rc) (L : Rc) (x1 : Int32) : Option (Rc) := if x1 < 0 then some L else bnd (fX1_isIdle L x1) (fun z1 => if z1 = 0 then fX1_round_81 N k56 P L x1 else bnd (fX1_canBegin N P L x1) (fun z2 => if z2 = 0 then fX1_round_81 N k56 P L x1 else bnd (fX1_begin P L x1) (fun z3 => fX1_round_81 N k56 P z3 x1)))
def fX1_round_56 (N : Nat) : Rc → Rc → Int32 → Option (Rc) := itn (fX1_round_56b N) (fun _ _ _ => none) N
def fX1_round_40 (N : Nat) (k10 : Rc → Rc → Int32 → Option (Rc)) (P : Rc) (L : Rc) (x1 : Int32) : Option (Rc) := nm (x1 + (-1 : Int32)) (fun v1 => k10 P L v1)
def fX1_round_10b (N : Nat) (k10 : Rc → Rc → Int32 → Option (Rc)) (P : Rc) (L : Rc) (x1 : Int32) : Option (Rc) := if x1 < 0 then nm ((P 6 0) - (nI 1)) (fun v1 => fX1_round_56 N P L v1) else bnd (fX1_isIdle L x1) (fun z2 => if z2 = 0 then gdi x1 6 (if (L 8 0) < (L 3 x1.toNatClampNeg) then fX1_round_40 N k10 P L x1 else bnd (fX1_finish P L x1) (fun z3 => fX1_round_40 N k10 P z3 x1)) else fX1_round_40 N k10 P L x1)
def fX1_round_10 (N : Nat) : Rc → Rc → Int32 → Option (Rc) := itn (fX1_round_10b N) (fun _ _ _ => none) N
def fX1_round (N : Nat) (P : Rc) (L : Rc) : Option (Rc) := nm ((P 6 0) - (nI 1)) (fun v1 => fX1_round_10 N P L v1)

/-! CardLoops$Line.nextThrough()I -/
def fX1_nextThrough_41 (N : Nat) (k5 : Rc → Rc → Int32 → Int32 → Option (Int32)) (P : Rc) (L : Rc) (x1 : Int32) (x2 : Int32) : Option (Int32) := nm (x2 + (nI 1)) (fun v1 => k5 P L x1 v1)
def fX1_nextThrough_5b (N : Nat) (k5 : Rc → Rc → Int32 → Int32 → Option (Int32)) (P : Rc) (L : Rc) (x1 : Int32) (x2 : Int32) : Option (Int32) := if (P 6 0) ≤ x2 then some x1 else bnd (fX1_isIdle L x2) (fun z1 => if z1 = 0 then gdi x2 6 (if x1 ≤ (L 3 x2.toNatClampNeg) then fX1_nextThrough_41 N k5 P L x1 x2 else gdi x2 6 (nm (L 3 x2.toNatClampNeg) (fun v2 => fX1_nextThrough_41 N k5 P L v2 x2))) else fX1_nextThrough_41 N k5 P L x1 x2)
def fX1_nextThrough_5 (N : Nat) : Rc → Rc → Int32 → Int32 → Option (Int32) := itn (fX1_nextThrough_5b N) (fun _ _ _ _ => none) N
def fX1_nextThrough (N : Nat) (P : Rc) (L : Rc) : Option (Int32) := nm (nI 2147483647) (fun v1 => nm (nI 0) (fun v2 => fX1_nextThrough_5 N P L v1 v2))

/-! CardLoops$Line.leapTillOut()V -/
def fX1_leapTillOut_7b (N : Nat) (k7 : Rc → Rc → Int32 → Int32 → Option (Rc)) (P : Rc) (L : Rc) (x1 : Int32) (x2 : Int32) : Option (Rc) := if (nI 1000000) ≤ x2 then some L else bnd (fX1_out P L) (fun z1 => if z1 = x1 then bnd (fX1_nextThrough N P L) (fun z2 => nm (va_up L 8 (fun _ => z2)) (fun L3 => bnd (fX1_round N P L3) (fun z4 => nm (x2 + (nI 1)) (fun v5 => k7 P z4 x1 v5)))) else some L)
def fX1_leapTillOut_7 (N : Nat) : Rc → Rc → Int32 → Int32 → Option (Rc) := itn (fX1_leapTillOut_7b N) (fun _ _ _ _ => none) N
def fX1_leapTillOut (N : Nat) (P : Rc) (L : Rc) : Option (Rc) := bnd (fX1_out P L) (fun z1 => nm z1 (fun v2 => nm (nI 0) (fun v3 => fX1_leapTillOut_7 N P L v2 v3)))

/-! CardLoops$Line.countMinutes(I)V -/
def fX1_countMinutes_103 (N : Nat) (k2 : Rc → Rc → Int32 → Int32 → Option (Rc)) (P : Rc) (L : Rc) (x1 : Int32) (x2 : Int32) : Option (Rc) := nm (x2 + (nI 1)) (fun v1 => k2 P L x1 v1)
def fX1_countMinutes_2b (N : Nat) (k2 : Rc → Rc → Int32 → Int32 → Option (Rc)) (P : Rc) (L : Rc) (x1 : Int32) (x2 : Int32) : Option (Rc) := if (P 6 0) ≤ x2 then some L else nm (x1 - (L 8 0)) (fun v1 => nm (x2 * (nI 4)) (fun v2 => bnd (fX1_isIdle L x2) (fun z3 => if z3 = 0 then bnd (fX1_setUpAt P L x2) (fun z4 => nm (if (nI 0) < ((if z4 < x1 then z4 else x1) - (L 8 0)) then ((if z4 < x1 then z4 else x1) - (L 8 0)) else (nI 0)) (fun v5 => gdi (v2 + (nI 2)) 24 (gdi (v2 + (nI 2)) 24 (nm (va_up L 6 (upd (L 6) ((v2 + (nI 2)).toNatClampNeg) ((L 6 (v2 + (nI 2)).toNatClampNeg) + v5))) (fun L6 => gdi (v2 + (nI 3)) 24 (gdi (v2 + (nI 3)) 24 (nm (va_up L6 6 (upd (L6 6) ((v2 + (nI 3)).toNatClampNeg) ((L6 6 (v2 + (nI 3)).toNatClampNeg) + (v1 - v5)))) (fun L7 => fX1_countMinutes_103 N k2 P L7 x1 x2)))))))) else bnd (fX1_stateOf P L x2) (fun z8 => gdi (v2 + z8) 24 (gdi (v2 + z8) 24 (nm (va_up L 6 (upd (L 6) ((v2 + z8).toNatClampNeg) ((L 6 (v2 + z8).toNatClampNeg) + v1))) (fun L9 => fX1_countMinutes_103 N k2 P L9 x1 x2)))))))
def fX1_countMinutes_2 (N : Nat) : Rc → Rc → Int32 → Int32 → Option (Rc) := itn (fX1_countMinutes_2b N) (fun _ _ _ _ => none) N
def fX1_countMinutes (N : Nat) (P : Rc) (L : Rc) (x1 : Int32) : Option (Rc) := nm (nI 0) (fun v1 => fX1_countMinutes_2 N P L x1 v1)

/-! CardLoops$Line.moveTo(I)V -/
def fX1_moveTo_2b (N : Nat) (k2 : Rc → Rc → Int32 → Int32 → Option (Rc)) (P : Rc) (L : Rc) (x1 : Int32) (x2 : Int32) : Option (Rc) := if (nI 1000000) ≤ x2 then some L else if x1 ≤ (L 8 0) then some L else bnd (fX1_nextThrough N P L) (fun z1 => nm (if z1 < x1 then z1 else x1) (fun v2 => bnd (fX1_countMinutes N P L v2) (fun z3 => nm (va_up z3 8 (fun _ => v2)) (fun L4 => bnd (fX1_round N P L4) (fun z5 => nm (x2 + (nI 1)) (fun v6 => k2 P z5 x1 v6))))))
def fX1_moveTo_2 (N : Nat) : Rc → Rc → Int32 → Int32 → Option (Rc) := itn (fX1_moveTo_2b N) (fun _ _ _ _ => none) N
def fX1_moveTo (N : Nat) (P : Rc) (L : Rc) (x1 : Int32) : Option (Rc) := nm (nI 0) (fun v1 => fX1_moveTo_2 N P L x1 v1)

/-! CardLoops$Line.copyFrom(LCardLoops$Line;)V -/
def fX1_copyFrom (L : Rc) (O : Rc) : Option (Rc) := nm (va_up L 1 (va_cpy (O 1) (L 1) 0 0 6)) (fun L1 => nm (va_up L1 2 (va_cpy (O 2) (L1 2) 0 0 6)) (fun L2 => nm (va_up L2 3 (va_cpy (O 3) (L2 3) 0 0 6)) (fun L3 => nm (va_up L3 4 (va_cpy (O 4) (L3 4) 0 0 5)) (fun L4 => nm (va_up L4 5 (va_cpy (O 5) (L4 5) 0 0 20)) (fun L5 => nm (va_up L5 6 (va_cpy (O 6) (L5 6) 0 0 24)) (fun L6 => nm (va_up L6 7 (fun _ => (O 7 0))) (fun L7 => nm (va_up L7 8 (fun _ => (O 8 0))) (fun L8 => nm (va_up L8 9 (fun _ => (O 9 0))) (fun L9 => nm (va_up L9 10 (fun _ => (O 10 0))) (fun L10 => some L10))))))))))

/-! CardLoops$Line.startAnew([II)V -/
def fX1_startAnew (N : Nat) (P : Rc) (L : Rc) (C : Nat → Int32) (x2 : Int32) : Option (Rc) := nm (va_up L 4 (va_cpy (C) (L 4) 0 0 5)) (fun L1 => bnd (fJ7_fill_53178 6 N (L1 1) (nI 0)) (fun z2 => nm (va_up L1 1 z2) (fun L3 => bnd (fJ7_fill_53178 6 N (L3 2) (nI 0)) (fun z4 => nm (va_up L3 2 z4) (fun L5 => bnd (fJ7_fill_53178 24 N (L5 6) (nI 0)) (fun z6 => nm (va_up L5 6 z6) (fun L7 => nm (va_up L7 7 (fun _ => x2)) (fun L8 => nm (va_up L8 8 (fun _ => (nI 0))) (fun L9 => nm (va_up L9 9 (fun _ => (-1 : Int32))) (fun L10 => nm (va_up L10 10 (fun _ => (-1 : Int32))) (fun L11 => bnd (fX1_round N P L11) (fun z12 => some z12))))))))))))

/-! CardLoops$Line.startAnew([II)V -/
def fX1_startAnewp (N : Nat) (P : Rc) (L : Rc) (x2 : Int32) : Option (Rc) := nm (va_up L 4 (va_cpy (P 4) (L 4) 0 0 5)) (fun L1 => bnd (fJ7_fill_53178 6 N (L1 1) (nI 0)) (fun z2 => nm (va_up L1 1 z2) (fun L3 => bnd (fJ7_fill_53178 6 N (L3 2) (nI 0)) (fun z4 => nm (va_up L3 2 z4) (fun L5 => bnd (fJ7_fill_53178 24 N (L5 6) (nI 0)) (fun z6 => nm (va_up L5 6 z6) (fun L7 => nm (va_up L7 7 (fun _ => x2)) (fun L8 => nm (va_up L8 8 (fun _ => (nI 0))) (fun L9 => nm (va_up L9 9 (fun _ => (-1 : Int32))) (fun L10 => nm (va_up L10 10 (fun _ => (-1 : Int32))) (fun L11 => bnd (fX1_round N P L11) (fun z12 => some z12))))))))))))

/-! CardLoops$Line.startAnew([II)V -/
def fX1_startAnewl (N : Nat) (P : Rc) (L : Rc) (x2 : Int32) : Option (Rc) := nm (va_up L 4 (va_cpy (L 4) (L 4) 0 0 5)) (fun L1 => bnd (fJ7_fill_53178 6 N (L1 1) (nI 0)) (fun z2 => nm (va_up L1 1 z2) (fun L3 => bnd (fJ7_fill_53178 6 N (L3 2) (nI 0)) (fun z4 => nm (va_up L3 2 z4) (fun L5 => bnd (fJ7_fill_53178 24 N (L5 6) (nI 0)) (fun z6 => nm (va_up L5 6 z6) (fun L7 => nm (va_up L7 7 (fun _ => x2)) (fun L8 => nm (va_up L8 8 (fun _ => (nI 0))) (fun L9 => nm (va_up L9 9 (fun _ => (-1 : Int32))) (fun L10 => nm (va_up L10 10 (fun _ => (-1 : Int32))) (fun L11 => bnd (fX1_round N P L11) (fun z12 => some z12))))))))))))

/-! CardLoops$Plan.clear()V -/
def fX3_clear (P : Rc) : Option (Rc) := nm (va_up P 6 (fun _ => (nI 0))) (fun P1 => nm (va_up P1 7 (fun _ => (nI 0))) (fun P2 => nm (va_up P2 8 (fun _ => (nI 0))) (fun P3 => nm (va_up P3 9 (fun _ => (nI 0))) (fun P4 => some P4))))

/-! CardLoops$Plan.addStation(II)V -/
def fX3_addStation (P : Rc) (x1 : Int32) (x2 : Int32) : Option (Rc) := if (P 6 0) < (nI 6) then gdi (P 6 0) 6 (nm (va_up P 0 (upd (P 0) ((P 6 0).toNatClampNeg) x1)) (fun P1 => gdi (P1 6 0) 6 (nm (va_up P1 1 (upd (P1 1) ((P1 6 0).toNatClampNeg) x2)) (fun P2 => nm (va_up P2 3 (upd (P2 3) 0 (P2 6 0))) (fun P3 => nm (va_up P3 6 (fun _ => ((P3 6 0) + (nI 1)))) (fun P4 => some P4)))))) else some P

/-! CardLoops$Plan.addLoop(III)V -/
def fX3_addLoop (P : Rc) (x1 : Int32) (x2 : Int32) (x3 : Int32) : Option (Rc) := if (P 7 0) < (nI 5) then gdi (P 7 0) 5 (nm (va_up P 2 (upd (P 2) ((P 7 0).toNatClampNeg) x1)) (fun P1 => gdi (P1 7 0) 5 (nm (va_up P1 3 (upd (P1 3) ((P1 7 0).toNatClampNeg) x2)) (fun P2 => gdi (P2 7 0) 5 (nm (va_up P2 4 (upd (P2 4) ((P2 7 0).toNatClampNeg) x3)) (fun P3 => nm (va_up P3 7 (fun _ => ((P3 7 0) + (nI 1)))) (fun P4 => some P4))))))) else some P

/-! CardLoops$Plan.addRun(II)V -/
def fX3_addRun_52 (N : Nat) (P : Rc) : Option (Rc) := nm (va_up P 8 (fun _ => ((P 8 0) + (nI 1)))) (fun P1 => some P1)
def fX3_addRun_12b (N : Nat) (k12 : Rc → Int32 → Int32 → Int32 → Option (Rc)) (P : Rc) (x1 : Int32) (x2 : Int32) (x3 : Int32) : Option (Rc) := if x2 ≤ x3 then fX3_addRun_52 N P else if (nI 120) ≤ (P 9 0) then fX3_addRun_52 N P else gdi (P 9 0) 120 (nm (va_up P 5 (upd (P 5) ((P 9 0).toNatClampNeg) x1)) (fun P1 => nm (va_up P1 9 (fun _ => ((P1 9 0) + (nI 1)))) (fun P2 => nm (x3 + (nI 1)) (fun v3 => k12 P2 x1 x2 v3))))
def fX3_addRun_12 (N : Nat) : Rc → Int32 → Int32 → Int32 → Option (Rc) := itn (fX3_addRun_12b N) (fun _ _ _ _ => none) N
def fX3_addRun (N : Nat) (P : Rc) (x1 : Int32) (x2 : Int32) : Option (Rc) := if (P 8 0) < (nI 6) then nm (nI 0) (fun v1 => fX3_addRun_12 N P x1 x2 v1) else some P

/-! CardLoops$Plan.copyFrom(LCardLoops$Plan;)V -/
def fX3_copyFrom (P : Rc) (Q : Rc) : Option (Rc) := nm (va_up P 0 (va_cpy (Q 0) (P 0) 0 0 6)) (fun P1 => nm (va_up P1 1 (va_cpy (Q 1) (P1 1) 0 0 6)) (fun P2 => nm (va_up P2 2 (va_cpy (Q 2) (P2 2) 0 0 5)) (fun P3 => nm (va_up P3 3 (va_cpy (Q 3) (P3 3) 0 0 5)) (fun P4 => nm (va_up P4 4 (va_cpy (Q 4) (P4 4) 0 0 5)) (fun P5 => nm (va_up P5 5 (va_cpy (Q 5) (P5 5) 0 0 120)) (fun P6 => nm (va_up P6 6 (fun _ => (Q 6 0))) (fun P7 => nm (va_up P7 7 (fun _ => (Q 7 0))) (fun P8 => nm (va_up P8 8 (fun _ => (Q 8 0))) (fun P9 => nm (va_up P9 9 (fun _ => (Q 9 0))) (fun P10 => some P10))))))))))

/-! CardLoops.commonDivisor(II)I -/
def fX5_commonDivisor_34 (N : Nat) (x2 : Int32) : Option (Int32) := some (if x2 < (nI 1) then (nI 1) else x2)
def fX5_commonDivisor_7b (N : Nat) (k7 : Int32 → Int32 → Int32 → Option (Int32)) (x2 : Int32) (x3 : Int32) (x4 : Int32) : Option (Int32) := if (nI 64) ≤ x4 then fX5_commonDivisor_34 N x2 else if x3 ≤ 0 then fX5_commonDivisor_34 N x2 else gdz x3 (nm (x2 - x2 / x3 * x3) (fun v1 => nm x3 (fun v2 => nm v1 (fun v3 => nm (x4 + (nI 1)) (fun v4 => k7 v2 v3 v4)))))
def fX5_commonDivisor_7 (N : Nat) : Int32 → Int32 → Int32 → Option (Int32) := itn (fX5_commonDivisor_7b N) (fun _ _ _ => none) N
def fX5_commonDivisor (N : Nat) (x0 : Int32) (x1 : Int32) : Option (Int32) := nm x0 (fun v1 => nm x1 (fun v2 => nm (nI 0) (fun v3 => fX5_commonDivisor_7 N v1 v2 v3)))

/-! CardLoops$PaceFinder.lookAround(I)V -/
def fX2_lookAround_64 (N : Nat) (k15 : Rc → Rc → Rc → RcL → Int32 → Int64 → Int32 → Int32 → Option (Rc × RcL)) (P : Rc) (J : Rc) (F : Rc) (FL : RcL) (x1 : Int32) (x2 : Int64) (x4 : Int32) (x5 : Int32) (y0 : Int32) : Option (Rc × RcL) := nm y0 (fun v1 => nm ((x2 <<< ((nI 7).toInt64 &&& 63)) + v1.toInt64) (fun v2 => bnd (fX1_waiting J x5) (fun z3 => nm ((x4 <<< ((nI 5) &&& 31)) + z3) (fun v4 => nm (x5 + (nI 1)) (fun v5 => k15 P J F FL x1 v2 v4 v5)))))
def fX2_lookAround_15b (N : Nat) (k15 : Rc → Rc → Rc → RcL → Int32 → Int64 → Int32 → Int32 → Option (Rc × RcL)) (P : Rc) (J : Rc) (F : Rc) (FL : RcL) (x1 : Int32) (x2 : Int64) (x4 : Int32) (x5 : Int32) : Option (Rc × RcL) := if (P 6 0) ≤ x5 then gdi x1 1500 (nm (va_up FL 1 (vp_updL (FL 1) (x1.toNatClampNeg) x2)) (fun FL1 => gdi x1 1500 (nm (va_up F 2 (upd (F 2) (x1.toNatClampNeg) x4)) (fun F2 => gdi x1 1500 (nm (va_up F2 3 (upd (F2 3) (x1.toNatClampNeg) (J 8 0))) (fun F3 => some (F3, FL1))))))) else bnd (fX1_isIdle J x5) (fun z4 => if z4 = 0 then gdi x5 6 (fX2_lookAround_64 N k15 P J F FL x1 x2 x4 x5 ((J 3 x5.toNatClampNeg) - (J 8 0))) else fX2_lookAround_64 N k15 P J F FL x1 x2 x4 x5 (nI 0))
def fX2_lookAround_15 (N : Nat) : Rc → Rc → Rc → RcL → Int32 → Int64 → Int32 → Int32 → Option (Rc × RcL) := itn (fX2_lookAround_15b N) (fun _ _ _ _ _ _ _ _ => none) N
def fX2_lookAround (N : Nat) (P : Rc) (J : Rc) (F : Rc) (FL : RcL) (x1 : Int32) : Option (Rc × RcL) := bnd (fX1_placeInRuns P J) (fun z1 => nm z1.toInt64 (fun v2 => nm (nI 0) (fun v3 => nm (nI 0) (fun v4 => fX2_lookAround_15 N P J F FL x1 v2 v3 v4))))

/-! CardLoops$PaceFinder.enter(I)I -/
def fX2_enter_111 (N : Nat) (F : Rc) (FL : RcL) (x1 : Int32) (x4 : Int32) : Option (Int32 × (Rc)) := gdi x4 1024 (gdi x1 1500 (nm (va_up F 5 (upd (F 5) (x1.toNatClampNeg) (F 4 x4.toNatClampNeg))) (fun F1 => gdi x4 1024 (nm (va_up F1 4 (upd (F1 4) (x4.toNatClampNeg) x1)) (fun F2 => some ((-1 : Int32), F2))))))
def fX2_enter_96 (N : Nat) (k46 : Rc → RcL → Int32 → Int32 → Int32 → Int32 → Option (Int32 × (Rc))) (F : Rc) (FL : RcL) (x1 : Int32) (x4 : Int32) (x5 : Int32) (x6 : Int32) : Option (Int32 × (Rc)) := gdi x5 1500 (nm (F 5 x5.toNatClampNeg) (fun v1 => nm (x6 + (nI 1)) (fun v2 => k46 F FL x1 x4 v1 v2)))
def fX2_enter_46b (N : Nat) (k46 : Rc → RcL → Int32 → Int32 → Int32 → Int32 → Option (Int32 × (Rc))) (F : Rc) (FL : RcL) (x1 : Int32) (x4 : Int32) (x5 : Int32) (x6 : Int32) : Option (Int32 × (Rc)) := if (nI 1500) ≤ x6 then fX2_enter_111 N F FL x1 x4 else if x5 = (-1 : Int32) then fX2_enter_111 N F FL x1 x4 else gdi x5 1500 (gdi x1 1500 (if (lg_cmp (FL 1 x5.toNatClampNeg) (FL 1 x1.toNatClampNeg)) = 0 then gdi x5 1500 (gdi x1 1500 (if (F 2 x5.toNatClampNeg) = (F 2 x1.toNatClampNeg) then some (x5, F) else fX2_enter_96 N k46 F FL x1 x4 x5 x6)) else fX2_enter_96 N k46 F FL x1 x4 x5 x6))
def fX2_enter_46 (N : Nat) : Rc → RcL → Int32 → Int32 → Int32 → Int32 → Option (Int32 × (Rc)) := itn (fX2_enter_46b N) (fun _ _ _ _ _ _ => none) N
def fX2_enter (N : Nat) (F : Rc) (FL : RcL) (x1 : Int32) : Option (Int32 × (Rc)) := gdi x1 1500 (gdi x1 1500 (nm (((FL 1 x1.toNatClampNeg) * (-7046029254386353131 : Int64)) + ((F 2 x1.toNatClampNeg).toInt64 * (-4417276706812531889 : Int64))) (fun v1 => nm (((v1.toUInt64 >>> ((nI 40).toInt64.toUInt64 &&& Int64.toUInt64 63)).toInt64).toInt32 &&& (nI 1023)) (fun v2 => gdi v2 1024 (nm (F 4 v2.toNatClampNeg) (fun v3 => nm (nI 0) (fun v4 => fX2_enter_46 N F FL x1 v2 v3 v4)))))))

/-! CardLoops$PaceFinder.search([II)V -/
def fX2_search_29b (N : Nat) (k29 : Rc → Rc → Rc → RcL → (Nat → Int32) → Int32 → Option (Rc × Rc × RcL)) (P : Rc) (J : Rc) (F : Rc) (FL : RcL) (C : Nat → Int32) (x3 : Int32) : Option (Rc × Rc × RcL) := if (nI 1500) ≤ x3 then some (J, F, FL) else bnd (fX1_leapTillOut N P J) (fun z1 => bnd (fX2_lookAround N P z1 F FL x3) (fun z2 => bnd (fX2_enter N z2.1 z2.2 x3) (fun z3 => nm z3.1 (fun v4 => if v4 = (-1 : Int32) then nm (x3 + (nI 1)) (fun v5 => k29 P z1 z3.2 z2.2 C v5) else gdi x3 1500 (gdi v4 1500 (bnd (fX5_commonDivisor N (x3 - v4) ((z3.2 3 x3.toNatClampNeg) - (z3.2 3 v4.toNatClampNeg))) (fun z6 => nm z6 (fun v7 => gdz v7 (nm (va_up z3.2 6 (fun _ => ((x3 - v4) / v7))) (fun F8 => gdi x3 1500 (gdi v4 1500 (gdz v7 (nm (va_up F8 7 (fun _ => (((F8 3 x3.toNatClampNeg) - (F8 3 v4.toNatClampNeg)) / v7))) (fun F9 => some (z1, F9, z2.2)))))))))))))))
def fX2_search_29 (N : Nat) : Rc → Rc → Rc → RcL → (Nat → Int32) → Int32 → Option (Rc × Rc × RcL) := itn (fX2_search_29b N) (fun _ _ _ _ _ _ => none) N
def fX2_search (N : Nat) (P : Rc) (J : Rc) (F : Rc) (FL : RcL) (C : Nat → Int32) (x2 : Int32) : Option (Rc × Rc × RcL) := nm (va_up F 6 (fun _ => (-1 : Int32))) (fun F1 => nm (va_up F1 7 (fun _ => (-1 : Int32))) (fun F2 => bnd (fJ7_fill_53178 1024 N (F2 4) (-1 : Int32)) (fun z3 => nm (va_up F2 4 z3) (fun F4 => bnd (fX1_startAnew N P J C x2) (fun z5 => nm (nI 0) (fun v6 => fX2_search_29 N P z5 F4 FL C v6))))))

/-! CardLoops$History.clear()V -/
def fX0_clear (Y : Rc) : Option (Rc) := nm (va_up Y 1 (fun _ => (nI 0))) (fun Y1 => some Y1)

/-! CardLoops$History.keep(LCardLoops$Line;)V -/
def fX0_keep (L : Rc) (Y : Rc) (k0 : Rc) (k1 : Rc) (k2 : Rc) (k3 : Rc) (k4 : Rc) (k5 : Rc) (k6 : Rc) (k7 : Rc) : Option (Rc × Rc × Rc × Rc × Rc × Rc × Rc × Rc × Rc) := if (Y 2 0) = (nI 0) then bnd (fX1_copyFrom k0 L) (fun z1 => nm (va_up Y 2 (fun _ => (((Y 2 0) + (nI 1)) - ((Y 2 0) + (nI 1)) / (nI 8) * (nI 8)))) (fun Y2 => nm (va_up Y2 1 (fun _ => (if (nI 8) < ((Y2 1 0) + (nI 1)) then (nI 8) else ((Y2 1 0) + (nI 1))))) (fun Y3 => some (Y3, z1, k1, k2, k3, k4, k5, k6, k7)))) else if (Y 2 0) = (nI 1) then bnd (fX1_copyFrom k1 L) (fun z4 => nm (va_up Y 2 (fun _ => (((Y 2 0) + (nI 1)) - ((Y 2 0) + (nI 1)) / (nI 8) * (nI 8)))) (fun Y5 => nm (va_up Y5 1 (fun _ => (if (nI 8) < ((Y5 1 0) + (nI 1)) then (nI 8) else ((Y5 1 0) + (nI 1))))) (fun Y6 => some (Y6, k0, z4, k2, k3, k4, k5, k6, k7)))) else if (Y 2 0) = (nI 2) then bnd (fX1_copyFrom k2 L) (fun z7 => nm (va_up Y 2 (fun _ => (((Y 2 0) + (nI 1)) - ((Y 2 0) + (nI 1)) / (nI 8) * (nI 8)))) (fun Y8 => nm (va_up Y8 1 (fun _ => (if (nI 8) < ((Y8 1 0) + (nI 1)) then (nI 8) else ((Y8 1 0) + (nI 1))))) (fun Y9 => some (Y9, k0, k1, z7, k3, k4, k5, k6, k7)))) else if (Y 2 0) = (nI 3) then bnd (fX1_copyFrom k3 L) (fun z10 => nm (va_up Y 2 (fun _ => (((Y 2 0) + (nI 1)) - ((Y 2 0) + (nI 1)) / (nI 8) * (nI 8)))) (fun Y11 => nm (va_up Y11 1 (fun _ => (if (nI 8) < ((Y11 1 0) + (nI 1)) then (nI 8) else ((Y11 1 0) + (nI 1))))) (fun Y12 => some (Y12, k0, k1, k2, z10, k4, k5, k6, k7)))) else if (Y 2 0) = (nI 4) then bnd (fX1_copyFrom k4 L) (fun z13 => nm (va_up Y 2 (fun _ => (((Y 2 0) + (nI 1)) - ((Y 2 0) + (nI 1)) / (nI 8) * (nI 8)))) (fun Y14 => nm (va_up Y14 1 (fun _ => (if (nI 8) < ((Y14 1 0) + (nI 1)) then (nI 8) else ((Y14 1 0) + (nI 1))))) (fun Y15 => some (Y15, k0, k1, k2, k3, z13, k5, k6, k7)))) else if (Y 2 0) = (nI 5) then bnd (fX1_copyFrom k5 L) (fun z16 => nm (va_up Y 2 (fun _ => (((Y 2 0) + (nI 1)) - ((Y 2 0) + (nI 1)) / (nI 8) * (nI 8)))) (fun Y17 => nm (va_up Y17 1 (fun _ => (if (nI 8) < ((Y17 1 0) + (nI 1)) then (nI 8) else ((Y17 1 0) + (nI 1))))) (fun Y18 => some (Y18, k0, k1, k2, k3, k4, z16, k6, k7)))) else if (Y 2 0) = (nI 6) then bnd (fX1_copyFrom k6 L) (fun z19 => nm (va_up Y 2 (fun _ => (((Y 2 0) + (nI 1)) - ((Y 2 0) + (nI 1)) / (nI 8) * (nI 8)))) (fun Y20 => nm (va_up Y20 1 (fun _ => (if (nI 8) < ((Y20 1 0) + (nI 1)) then (nI 8) else ((Y20 1 0) + (nI 1))))) (fun Y21 => some (Y21, k0, k1, k2, k3, k4, k5, z19, k7)))) else if (Y 2 0) = (nI 7) then bnd (fX1_copyFrom k7 L) (fun z22 => nm (va_up Y 2 (fun _ => (((Y 2 0) + (nI 1)) - ((Y 2 0) + (nI 1)) / (nI 8) * (nI 8)))) (fun Y23 => nm (va_up Y23 1 (fun _ => (if (nI 8) < ((Y23 1 0) + (nI 1)) then (nI 8) else ((Y23 1 0) + (nI 1))))) (fun Y24 => some (Y24, k0, k1, k2, k3, k4, k5, k6, z22)))) else none

/-! CardLoops$History.giveBack(LCardLoops$Line;)V -/
def fX0_giveBack (L : Rc) (Y : Rc) (k0 : Rc) (k1 : Rc) (k2 : Rc) (k3 : Rc) (k4 : Rc) (k5 : Rc) (k6 : Rc) (k7 : Rc) : Option (Rc × Rc) := if (nI 1) ≤ (Y 1 0) then nm (va_up Y 2 (fun _ => ((((Y 2 0) + (nI 8)) - (nI 1)) - (((Y 2 0) + (nI 8)) - (nI 1)) / (nI 8) * (nI 8)))) (fun Y1 => nm (va_up Y1 1 (fun _ => ((Y1 1 0) - (nI 1)))) (fun Y2 => if (Y2 2 0) = (nI 0) then bnd (fX1_copyFrom L k0) (fun z3 => some (z3, Y2)) else if (Y2 2 0) = (nI 1) then bnd (fX1_copyFrom L k1) (fun z4 => some (z4, Y2)) else if (Y2 2 0) = (nI 2) then bnd (fX1_copyFrom L k2) (fun z5 => some (z5, Y2)) else if (Y2 2 0) = (nI 3) then bnd (fX1_copyFrom L k3) (fun z6 => some (z6, Y2)) else if (Y2 2 0) = (nI 4) then bnd (fX1_copyFrom L k4) (fun z7 => some (z7, Y2)) else if (Y2 2 0) = (nI 5) then bnd (fX1_copyFrom L k5) (fun z8 => some (z8, Y2)) else if (Y2 2 0) = (nI 6) then bnd (fX1_copyFrom L k6) (fun z9 => some (z9, Y2)) else if (Y2 2 0) = (nI 7) then bnd (fX1_copyFrom L k7) (fun z10 => some (z10, Y2)) else none)) else some (L, Y)

/-! CardLoops$Reader.fail(I)V -/
def fX4_fail (R : Rc) (x1 : Int32) : Option (Rc) := if (R 3 0) = 0 then nm (va_up R 3 (fun _ => x1)) (fun R1 => nm (va_up R1 4 (fun _ => (R1 7 0))) (fun R2 => some R2)) else some R

/-! CardLoops$Reader.isBlank(I)Z -/
def fX4_isBlank_12 : Option (Int32) := some (nI 1)
def fX4_isBlank (x0 : Int32) : Option (Int32) := if x0 = (nI 32) then fX4_isBlank_12 else if x0 = (nI 10) then fX4_isBlank_12 else some (nI 0)

/-! CardLoops$Reader.readLump()V -/
def fX4_readLump_108 (N : Nat) (T : Nat → Int32) (R : Rc) : Option (Rc) := nm (va_up R 6 (fun _ => (nI 0))) (fun R1 => some R1)
def fX4_readLump_87 (N : Nat) (T : Nat → Int32) (R : Rc) (x1 : Int32) (x2 : Int32) : Option (Rc) := if x1 = 0 then if x2 ≤ 0 then fX4_readLump_108 N T R else if (nI 2) < x2 then fX4_readLump_108 N T R else nm (va_up R 6 (fun _ => (nI 3))) (fun R1 => some R1) else fX4_readLump_108 N T R
def fX4_readLump_71 (N : Nat) (T : Nat → Int32) (R : Rc) (x1 : Int32) (x2 : Int32) : Option (Rc) := if x2 = 0 then if x1 ≤ 0 then fX4_readLump_87 N T R x1 x2 else nm (va_up R 6 (fun _ => (nI 2))) (fun R1 => some R1) else fX4_readLump_87 N T R x1 x2
def fX4_readLump_58 (N : Nat) (k4 : (Nat → Int32) → Rc → Int32 → Int32 → Option (Rc)) (T : Nat → Int32) (R : Rc) (x1 : Int32) (x2 : Int32) : Option (Rc) := nm (va_up R 5 (fun _ => ((R 5 0) + (nI 1)))) (fun R1 => k4 T R1 x1 x2)
def fX4_readLump_43 (N : Nat) (k4 : (Nat → Int32) → Rc → Int32 → Int32 → Option (Rc)) (T : Nat → Int32) (R : Rc) (x1 : Int32) (x2 : Int32) (x3 : Int32) : Option (Rc) := if x3 < (nI 48) then fX4_readLump_71 N T R x1 x2 else if (nI 57) < x3 then fX4_readLump_71 N T R x1 x2 else nm (x2 + (nI 1)) (fun v1 => fX4_readLump_58 N k4 T R x1 v1)
def fX4_readLump_4b (N : Nat) (k4 : (Nat → Int32) → Rc → Int32 → Int32 → Option (Rc)) (T : Nat → Int32) (R : Rc) (x1 : Int32) (x2 : Int32) : Option (Rc) := if (R 2 0) ≤ (R 5 0) then fX4_readLump_71 N T R x1 x2 else gdi (R 5 0) 440 (nm (T (R 5 0).toNatClampNeg) (fun v1 => if v1 < (nI 97) then fX4_readLump_43 N k4 T R x1 x2 v1 else if (nI 122) < v1 then fX4_readLump_43 N k4 T R x1 x2 v1 else nm (x1 + (nI 1)) (fun v2 => fX4_readLump_58 N k4 T R v2 x2)))
def fX4_readLump_4 (N : Nat) : (Nat → Int32) → Rc → Int32 → Int32 → Option (Rc) := itn (fX4_readLump_4b N) (fun _ _ _ _ => none) N
def fX4_readLump (N : Nat) (T : Nat → Int32) (R : Rc) : Option (Rc) := nm (nI 0) (fun v1 => nm (nI 0) (fun v2 => fX4_readLump_4 N T R v1 v2))

/-! CardLoops$Reader.readToken()V -/
def fX4_readToken_82 (N : Nat) (T : Nat → Int32) (R : Rc) : Option (Rc) := if (R 5 0) < (R 2 0) then gdi (R 5 0) 440 (if (T (R 5 0).toNatClampNeg) = (nI 59) then nm (va_up R 5 (fun _ => ((R 5 0) + (nI 1)))) (fun R2 => nm (va_up R2 6 (fun _ => (nI 4))) (fun R3 => some R3)) else bnd (fX4_readLump N T R) (fun z1 => some z1)) else nm (va_up R 6 (fun _ => (nI 1))) (fun R4 => some R4)
def fX4_readToken_39 (N : Nat) (T : Nat → Int32) (R : Rc) : Option (Rc) := nm (va_up R 7 (fun _ => (R 5 0))) (fun R1 => if (R1 5 0) < (nI 400) then fX4_readToken_82 N T R1 else if (R1 2 0) ≤ (nI 400) then fX4_readToken_82 N T R1 else nm (va_up R1 7 (fun _ => (nI 400))) (fun R2 => nm (va_up R2 6 (fun _ => (nI 0))) (fun R3 => some R3)))
def fX4_readTokenb (N : Nat) (k0 : (Nat → Int32) → Rc → Option (Rc)) (T : Nat → Int32) (R : Rc) : Option (Rc) := if (R 2 0) ≤ (R 5 0) then fX4_readToken_39 N T R else gdi (R 5 0) 440 (bnd (fX4_isBlank (T (R 5 0).toNatClampNeg)) (fun z1 => if z1 = 0 then fX4_readToken_39 N T R else nm (va_up R 5 (fun _ => ((R 5 0) + (nI 1)))) (fun R2 => k0 T R2)))
def fX4_readToken (N : Nat) : (Nat → Int32) → Rc → Option (Rc) := itn (fX4_readTokenb N) (fun _ _ => none) N

/-! CardLoops$Reader.readNumber(II)I -/
def fX4_readNumber_73 (N : Nat) (T : Nat → Int32) (R : Rc) (x3 : Int32) : Option (Int32 × (Rc)) := some (x3, R)
def fX4_readNumber_68 (N : Nat) (T : Nat → Int32) (R : Rc) (x3 : Int32) : Option (Int32 × (Rc)) := bnd (fX4_fail R (nI 2)) (fun z1 => fX4_readNumber_73 N T z1 x3)
def fX4_readNumber_27b (N : Nat) (k27 : (Nat → Int32) → Rc → Int32 → Int32 → Int32 → Int32 → Option (Int32 × (Rc))) (T : Nat → Int32) (R : Rc) (x1 : Int32) (x2 : Int32) (x3 : Int32) (x4 : Int32) : Option (Int32 × (Rc)) := if (R 5 0) ≤ x4 then if x3 < x1 then fX4_readNumber_68 N T R x3 else if x3 ≤ x2 then fX4_readNumber_73 N T R x3 else fX4_readNumber_68 N T R x3 else gdi x4 440 (nm (((x3 * (nI 10)) + (T x4.toNatClampNeg)) - (nI 48)) (fun v1 => nm (x4 + (nI 1)) (fun v2 => k27 T R x1 x2 v1 v2)))
def fX4_readNumber_27 (N : Nat) : (Nat → Int32) → Rc → Int32 → Int32 → Int32 → Int32 → Option (Int32 × (Rc)) := itn (fX4_readNumber_27b N) (fun _ _ _ _ _ _ => none) N
def fX4_readNumber (N : Nat) (T : Nat → Int32) (R : Rc) (x1 : Int32) (x2 : Int32) : Option (Int32 × (Rc)) := bnd (fX4_readToken N T R) (fun z1 => if (z1 6 0) = (nI 3) then nm (nI 0) (fun v2 => nm (z1 7 0) (fun v3 => fX4_readNumber_27 N T z1 x1 x2 v2 v3)) else bnd (fX4_fail z1 (nI 1)) (fun z4 => some (x1, z4)))

/-! CardLoops$Reader.readSign()V -/
def fX4_readSign (N : Nat) (T : Nat → Int32) (R : Rc) : Option (Rc) := bnd (fX4_readToken N T R) (fun z1 => if (z1 6 0) = (nI 4) then some z1 else bnd (fX4_fail z1 (nI 1)) (fun z2 => some z2))

/-! CardLoops$Reader.readWorks()V -/
def fX4_readWorks (N : Nat) (T : Nat → Int32) (Q : Rc) (R : Rc) : Option (Rc × Rc) := bnd (fX4_readNumber N T R (nI 1) (nI 20)) (fun z1 => nm z1.1 (fun v2 => bnd (fX4_readSign N T z1.2) (fun z3 => if (z3 3 0) = 0 then bnd (fX3_addLoop Q (nI 0) (nI 0) v2) (fun z4 => some (z4, z3)) else some (Q, z3))))

/-! CardLoops$Reader.readStation()V -/
def fX4_readStation_17 (N : Nat) (T : Nat → Int32) (Q : Rc) (R : Rc) : Option (Rc × Rc) := bnd (fX4_readNumber N T R (nI 1) (nI 60)) (fun z1 => nm z1.1 (fun v2 => bnd (fX4_readNumber N T z1.2 (nI 0) (nI 60)) (fun z3 => nm z3.1 (fun v4 => bnd (fX4_readSign N T z3.2) (fun z5 => if (z5 3 0) = 0 then bnd (fX3_addStation Q v2 v4) (fun z6 => some (z6, z5)) else some (Q, z5))))))
def fX4_readStation (N : Nat) (T : Nat → Int32) (Q : Rc) (R : Rc) : Option (Rc × Rc) := if (Q 6 0) < (nI 6) then fX4_readStation_17 N T Q R else bnd (fX4_fail R (nI 3)) (fun z1 => fX4_readStation_17 N T Q z1)

/-! CardLoops$Reader.readLoop()V -/
def fX4_readLoop_16 (N : Nat) (T : Nat → Int32) (Q : Rc) (R : Rc) : Option (Rc × Rc) := bnd (fX4_readNumber N T R (nI 0) ((Q 6 0) - (nI 1))) (fun z1 => nm z1.1 (fun v2 => bnd (fX4_readNumber N T z1.2 v2 ((Q 6 0) - (nI 1))) (fun z3 => nm z3.1 (fun v4 => bnd (fX4_readNumber N T z3.2 (nI 1) (nI 20)) (fun z5 => nm z5.1 (fun v6 => bnd (fX4_readSign N T z5.2) (fun z7 => if (z7 3 0) = 0 then bnd (fX3_addLoop Q v2 v4 v6) (fun z8 => some (z8, z7)) else some (Q, z7))))))))
def fX4_readLoop (N : Nat) (T : Nat → Int32) (Q : Rc) (R : Rc) : Option (Rc × Rc) := if (Q 7 0) < (nI 5) then fX4_readLoop_16 N T Q R else bnd (fX4_fail R (nI 3)) (fun z1 => fX4_readLoop_16 N T Q z1)

/-! CardLoops$Reader.readRun()V -/
def fX4_readRun_17 (N : Nat) (T : Nat → Int32) (Q : Rc) (R : Rc) : Option (Rc × Rc) := bnd (fX4_readNumber N T R (nI 0) (nI 3)) (fun z1 => nm z1.1 (fun v2 => bnd (fX4_readNumber N T z1.2 (nI 1) (nI 20)) (fun z3 => nm z3.1 (fun v4 => bnd (fX4_readSign N T z3.2) (fun z5 => if (z5 3 0) = 0 then bnd (fX3_addRun N Q v2 v4) (fun z6 => some (z6, z5)) else some (Q, z5))))))
def fX4_readRun (N : Nat) (T : Nat → Int32) (Q : Rc) (R : Rc) : Option (Rc × Rc) := if (Q 8 0) < (nI 6) then fX4_readRun_17 N T Q R else bnd (fX4_fail R (nI 3)) (fun z1 => fX4_readRun_17 N T Q z1)

/-! CardLoops$Reader.isWord(Ljava/lang/String;)Z -/
def fX4_isWord_28b (wi : Nat) (N : Nat) (k28 : (Nat → Int32) → Rc → Int32 → Option (Int32)) (T : Nat → Int32) (R : Rc) (x2 : Int32) : Option (Int32) := if (nI (lenS.getD wi 0)) ≤ x2 then some (nI 1) else gdi ((R 7 0) + x2) 440 (gdi x2 (lenS.getD wi 0) (if (T ((R 7 0) + x2).toNatClampNeg) = (chS wi x2.toNatClampNeg &&& 255) then nm (x2 + (nI 1)) (fun v1 => k28 T R v1) else some (nI 0)))
def fX4_isWord_28 (wi : Nat) (N : Nat) : (Nat → Int32) → Rc → Int32 → Option (Int32) := itn (fX4_isWord_28b wi N) (fun _ _ _ => none) N
def fX4_isWord_24 (wi : Nat) (N : Nat) (T : Nat → Int32) (R : Rc) : Option (Int32) := some (nI 0)
def fX4_isWord (wi : Nat) (N : Nat) (T : Nat → Int32) (R : Rc) : Option (Int32) := if (R 6 0) = (nI 2) then if ((R 5 0) - (R 7 0)) = (nI (lenS.getD wi 0)) then nm (nI 0) (fun v1 => fX4_isWord_28 wi N T R v1) else fX4_isWord_24 wi N T R else fX4_isWord_24 wi N T R

/-! CardLoops$Reader.readLine(Z)V -/
def fX4_readLine (N : Nat) (T : Nat → Int32) (Q : Rc) (R : Rc) (x1 : Int32) : Option (Rc × Rc) := if x1 = 0 then bnd (fX4_isWord 1 N T R) (fun z1 => if z1 = 0 then bnd (fX4_isWord 2 N T R) (fun z2 => if z2 = 0 then bnd (fX4_isWord 3 N T R) (fun z3 => if z3 = 0 then bnd (fX4_fail R (nI 1)) (fun z4 => some (Q, z4)) else bnd (fX4_readRun N T Q R) (fun z5 => some (z5.1, z5.2))) else bnd (fX4_readLoop N T Q R) (fun z6 => some (z6.1, z6.2))) else bnd (fX4_readStation N T Q R) (fun z7 => some (z7.1, z7.2))) else bnd (fX4_isWord 0 N T R) (fun z8 => if z8 = 0 then bnd (fX4_fail R (nI 1)) (fun z9 => some (Q, z9)) else bnd (fX4_readWorks N T Q R) (fun z10 => some (z10.1, z10.2)))

/-! CardLoops$Reader.read(I)I -/
def fX4_read_107 (N : Nat) (T : Nat → Int32) (Q : Rc) (R : Rc) (x2 : Int32) : Option (Int32 × (Rc × Rc)) := if (R 3 0) = 0 then some (x2, (Q, R)) else some (((-1 : Int32) - (R 4 0)), (Q, R))
def fX4_read_81 (N : Nat) (T : Nat → Int32) (Q : Rc) (R : Rc) (x2 : Int32) : Option (Int32 × (Rc × Rc)) := if (R 3 0) = 0 then if x2 ≤ 0 then fX4_read_107 N T Q R x2 else if (Q 6 0) = 0 then bnd (fX4_fail R (nI 1)) (fun z1 => fX4_read_107 N T Q z1 x2) else fX4_read_107 N T Q R x2 else fX4_read_107 N T Q R x2
def fX4_read_68 (N : Nat) (k36 : (Nat → Int32) → Rc → Rc → Int32 → Option (Int32 × (Rc × Rc))) (T : Nat → Int32) (Q : Rc) (R : Rc) (x2 : Int32) (y1 : Int32) : Option (Int32 × (Rc × Rc)) := bnd (fX4_readLine N T Q R y1) (fun z1 => nm (x2 + (nI 1)) (fun v2 => bnd (fX4_readToken N T z1.2) (fun z3 => k36 T z1.1 z3 v2)))
def fX4_read_36b (N : Nat) (k36 : (Nat → Int32) → Rc → Rc → Int32 → Option (Int32 × (Rc × Rc))) (T : Nat → Int32) (Q : Rc) (R : Rc) (x2 : Int32) : Option (Int32 × (Rc × Rc)) := if (R 3 0) = 0 then if (R 6 0) = (nI 1) then fX4_read_81 N T Q R x2 else if (nI 440) ≤ x2 then fX4_read_81 N T Q R x2 else if x2 = 0 then fX4_read_68 N k36 T Q R x2 (nI 1) else fX4_read_68 N k36 T Q R x2 (nI 0) else fX4_read_81 N T Q R x2
def fX4_read_36 (N : Nat) : (Nat → Int32) → Rc → Rc → Int32 → Option (Int32 × (Rc × Rc)) := itn (fX4_read_36b N) (fun _ _ _ _ => none) N
def fX4_read (N : Nat) (T : Nat → Int32) (Q : Rc) (R : Rc) (x1 : Int32) : Option (Int32 × (Rc × Rc)) := nm (va_up R 2 (fun _ => (if (nI 440) < x1 then (nI 440) else x1))) (fun R1 => nm (va_up R1 5 (fun _ => (nI 0))) (fun R2 => nm (va_up R2 3 (fun _ => (nI 0))) (fun R3 => bnd (fX3_clear Q) (fun z4 => nm (nI 0) (fun v5 => bnd (fX4_readToken N T R3) (fun z6 => fX4_read_36 N T z4 z6 v5))))))

/-! CardLoopsModel.thrown()I -/
def fX6_thrown (M : Rc) (ML : RcL) : Option (Int32) := some (M 0 0)

/-! CardLoopsModel.refuse()I -/
def fX6_refuse (M : Rc) (ML : RcL) : Option (Int32 × (Rc)) := nm (va_up M 0 (fun _ => (nI 1))) (fun M1 => some ((nI 0), M1))

/-! CardLoopsModel.isIn(III)Z -/
def fX6_isIn_14 : Option (Int32) := some (nI 0)
def fX6_isIn (x0 : Int32) (x1 : Int32) (x2 : Int32) : Option (Int32) := if x0 < x1 then fX6_isIn_14 else if x2 < x0 then fX6_isIn_14 else some (nI 1)

/-! CardLoopsModel.lays(I)V -/
def fX6_lays_3b (N : Nat) (k3 : Rc → RcL → Int32 → Int32 → Option (Rc)) (M : Rc) (ML : RcL) (x1 : Int32) (x2 : Int32) : Option (Rc) := if x2 < 0 then some M else gdi (M 2 0) 440 (nm (va_up M 1 (upd (M 1) ((M 2 0).toNatClampNeg) (((x1.toUInt32 >>> (x2.toUInt32 &&& Int32.toUInt32 31)).toInt32) &&& (nI 255)))) (fun M1 => nm (va_up M1 2 (fun _ => ((M1 2 0) + (nI 1)))) (fun M2 => nm (x2 + (-8 : Int32)) (fun v3 => k3 M2 ML x1 v3))))
def fX6_lays_3 (N : Nat) : Rc → RcL → Int32 → Int32 → Option (Rc) := itn (fX6_lays_3b N) (fun _ _ _ _ => none) N
def fX6_lays (N : Nat) (M : Rc) (ML : RcL) (x1 : Int32) : Option (Rc) := nm (nI 24) (fun v1 => fX6_lays_3 N M ML x1 v1)

/-! CardLoopsModel.feed(IIIII)I -/
def fX6_feed (N : Nat) (M : Rc) (ML : RcL) (x1 : Int32) (x2 : Int32) (x3 : Int32) (x4 : Int32) (x5 : Int32) : Option (Int32 × (Rc)) := nm (va_up M 0 (fun _ => (nI 0))) (fun M1 => if ((M1 2 0) + (nI 20)) ≤ (nI 440) then bnd (fX6_lays N M1 ML x1) (fun z2 => bnd (fX6_lays N z2 ML x2) (fun z3 => bnd (fX6_lays N z3 ML x3) (fun z4 => bnd (fX6_lays N z4 ML x4) (fun z5 => bnd (fX6_lays N z5 ML x5) (fun z6 => some ((z6 2 0), z6)))))) else some ((-1 : Int32), M1))

/-! CardLoopsModel.end(I)Z -/
def fX6_end_17 (M : Rc) (ML : RcL) : Option (Int32 × (Rc)) := some ((nI 0), M)
def fX6_end (M : Rc) (ML : RcL) (x1 : Int32) : Option (Int32 × (Rc)) := nm (va_up M 0 (fun _ => (nI 0))) (fun M1 => if x1 < 0 then fX6_end_17 M1 ML else if x1 ≤ (M1 2 0) then nm (va_up M1 2 (fun _ => x1)) (fun M2 => some ((nI 1), M2)) else fX6_end_17 M1 ML)

/-! CardLoopsModel.tapeAt(I)I -/
def fX6_tapeAt (M : Rc) (ML : RcL) (x1 : Int32) : Option (Int32) := if (M 3 0) ≤ x1 then some (nI 0) else gdi x1 440 (some (M 1 x1.toNatClampNeg))

/-! CardLoopsModel.isDigit(I)Z -/
def fX6_isDigit_16 : Option (Int32) := some (nI 0)
def fX6_isDigit (x0 : Int32) : Option (Int32) := if x0 < (nI 48) then fX6_isDigit_16 else if (nI 57) < x0 then fX6_isDigit_16 else some (nI 1)

/-! CardLoopsModel.isLetter(I)Z -/
def fX6_isLetter_16 : Option (Int32) := some (nI 0)
def fX6_isLetter (x0 : Int32) : Option (Int32) := if x0 < (nI 97) then fX6_isLetter_16 else if (nI 122) < x0 then fX6_isLetter_16 else some (nI 1)

/-! CardLoopsModel.go()V -/
def fX6_go_347 (N : Nat) (M : Rc) (ML : RcL) (y1 : Int32) : Option (Rc × RcL) := nm (va_up M 6 (fun _ => y1)) (fun M1 => some (M1, ML))
def fX6_go_338 (N : Nat) (M : Rc) (ML : RcL) (x2 : Int32) : Option (Rc × RcL) := if x2 = 0 then fX6_go_347 N M ML (nI 3) else fX6_go_347 N M ML (nI 2)
def fX6_go_334 (N : Nat) (M : Rc) (ML : RcL) : Option (Rc × RcL) := fX6_go_347 N M ML (nI 1)
def fX6_go_299 (N : Nat) (k177 : Rc → RcL → Int32 → Int32 → Option (Rc × RcL)) (M : Rc) (ML : RcL) (x2 : Int32) (x3 : Int32) : Option (Rc × RcL) := nm (va_up M 4 (fun _ => ((M 4 0) + (nI 1)))) (fun M1 => k177 M1 ML x2 x3)
def fX6_go_269 (N : Nat) (k177 : Rc → RcL → Int32 → Int32 → Option (Rc × RcL)) (M : Rc) (ML : RcL) (x2 : Int32) (x3 : Int32) (x4 : Int32) : Option (Rc × RcL) := if (nI 2) ≤ ((M 4 0) - (M 5 0)) then fX6_go_299 N k177 M ML x2 x3 else nm (va_up M 7 (fun _ => ((((nI 10) * (M 7 0)) + x4) - (nI 48)))) (fun M1 => fX6_go_299 N k177 M1 ML x2 x3)
def fX6_go_234 (N : Nat) (k177 : Rc → RcL → Int32 → Int32 → Option (Rc × RcL)) (M : Rc) (ML : RcL) (x2 : Int32) (x4 : Int32) (y0 : Int32) : Option (Rc × RcL) := nm y0 (fun v1 => if (nI 8) ≤ ((M 4 0) - (M 5 0)) then fX6_go_269 N k177 M ML x2 v1 x4 else nm (va_up ML 10 (fun _ => ((((27 : Int64) * (ML 10 0)) + x4.toInt64) - (96 : Int64)))) (fun ML2 => fX6_go_269 N k177 M ML2 x2 v1 x4))
def fX6_go_233 (N : Nat) (k177 : Rc → RcL → Int32 → Int32 → Option (Rc × RcL)) (M : Rc) (ML : RcL) (x2 : Int32) (x4 : Int32) : Option (Rc × RcL) := fX6_go_234 N k177 M ML x2 x4 (nI 0)
def fX6_go_205 (N : Nat) (k177 : Rc → RcL → Int32 → Int32 → Option (Rc × RcL)) (M : Rc) (ML : RcL) (x2 : Int32) (x3 : Int32) : Option (Rc × RcL) := gdi (M 4 0) 440 (nm (M 1 (M 4 0).toNatClampNeg) (fun v1 => if x3 = 0 then fX6_go_233 N k177 M ML x2 v1 else bnd (fX6_isLetter v1) (fun z2 => if z2 = x2 then fX6_go_234 N k177 M ML x2 v1 (nI 1) else fX6_go_233 N k177 M ML x2 v1)))
def fX6_go_177b (N : Nat) (k177 : Rc → RcL → Int32 → Int32 → Option (Rc × RcL)) (M : Rc) (ML : RcL) (x2 : Int32) (x3 : Int32) : Option (Rc × RcL) := bnd (fX6_tapeAt M ML (M 4 0)) (fun z1 => bnd (fX6_isLetter z1) (fun z2 => if z2 = 0 then bnd (fX6_tapeAt M ML (M 4 0)) (fun z3 => bnd (fX6_isDigit z3) (fun z4 => if z4 = 0 then if x3 = 0 then fX6_go_334 N M ML else if x2 = 0 then if ((M 4 0) - (M 5 0)) ≤ (nI 2) then fX6_go_338 N M ML x2 else fX6_go_334 N M ML else fX6_go_338 N M ML x2 else fX6_go_205 N k177 M ML x2 x3)) else fX6_go_205 N k177 M ML x2 x3))
def fX6_go_177 (N : Nat) : Rc → RcL → Int32 → Int32 → Option (Rc × RcL) := itn (fX6_go_177b N) (fun _ _ _ _ => none) N
def fX6_go_160 (N : Nat) (M : Rc) (ML : RcL) (x1 : Int32) : Option (Rc × RcL) := bnd (fX6_isLetter x1) (fun z1 => nm z1 (fun v2 => nm (nI 1) (fun v3 => nm (va_up ML 10 (fun _ => (0 : Int64))) (fun ML4 => nm (va_up M 7 (fun _ => (nI 0))) (fun M5 => fX6_go_177 N M5 ML4 v2 v3)))))
def fX6_go_146 (N : Nat) (M : Rc) (ML : RcL) (y1 : Int32) : Option (Rc × RcL) := nm (va_up M 6 (fun _ => y1)) (fun M1 => nm (va_up M1 4 (fun _ => ((M1 4 0) + (nI 1)))) (fun M2 => some (M2, ML)))
def fX6_go_93 (N : Nat) (M : Rc) (ML : RcL) : Option (Rc × RcL) := if (M 4 0) < (M 3 0) then gdi (M 4 0) 440 (nm (M 1 (M 4 0).toNatClampNeg) (fun v1 => bnd (fX6_isLetter v1) (fun z2 => if z2 = 0 then bnd (fX6_isDigit v1) (fun z3 => if z3 = 0 then if v1 = (nI 59) then fX6_go_146 N M ML (nI 4) else fX6_go_146 N M ML (nI 1) else fX6_go_160 N M ML v1) else fX6_go_160 N M ML v1))) else nm (va_up M 6 (fun _ => (nI 0))) (fun M4 => some (M4, ML))
def fX6_go_52 (N : Nat) (M : Rc) (ML : RcL) : Option (Rc × RcL) := nm (va_up M 5 (fun _ => (M 4 0))) (fun M1 => if (M1 3 0) ≤ (nI 400) then fX6_go_93 N M1 ML else if (M1 5 0) < (nI 400) then fX6_go_93 N M1 ML else nm (va_up M1 5 (fun _ => (nI 400))) (fun M2 => nm (va_up M2 6 (fun _ => (nI 1))) (fun M3 => some (M3, ML))))
def fX6_go_39 (N : Nat) (k0 : Rc → RcL → Option (Rc × RcL)) (M : Rc) (ML : RcL) : Option (Rc × RcL) := nm (va_up M 4 (fun _ => ((M 4 0) + (nI 1)))) (fun M1 => k0 M1 ML)
def fX6_gob (N : Nat) (k0 : Rc → RcL → Option (Rc × RcL)) (M : Rc) (ML : RcL) : Option (Rc × RcL) := if (M 3 0) ≤ (M 4 0) then fX6_go_52 N M ML else gdi (M 4 0) 440 (if (M 1 (M 4 0).toNatClampNeg) = (nI 32) then fX6_go_39 N k0 M ML else gdi (M 4 0) 440 (if (M 1 (M 4 0).toNatClampNeg) = (nI 10) then fX6_go_39 N k0 M ML else fX6_go_52 N M ML))
def fX6_go (N : Nat) : Rc → RcL → Option (Rc × RcL) := itn (fX6_gob N) (fun _ _ => none) N

/-! CardLoopsModel.four(IIII)J -/
def fX6_four (x0 : Int32) (x1 : Int32) (x2 : Int32) (x3 : Int32) : Option (Int64) := some ((((27 : Int64) * ((((27 : Int64) * ((((27 : Int64) * (x0.toInt64 - (96 : Int64))) + x1.toInt64) - (96 : Int64))) + x2.toInt64) - (96 : Int64))) + x3.toInt64) - (96 : Int64))

/-! CardLoopsModel.isWord(J)Z -/
def fX6_isWord_21 (M : Rc) (ML : RcL) : Option (Int32) := some (nI 0)
def fX6_isWord (M : Rc) (ML : RcL) (x1 : Int64) : Option (Int32) := if (M 6 0) = (nI 2) then if (lg_cmp (ML 10 0) x1) = 0 then some (nI 1) else fX6_isWord_21 M ML else fX6_isWord_21 M ML

/-! CardLoopsModel.isWorks()Z -/
def fX6_isWorks (M : Rc) (ML : RcL) : Option (Int32) := bnd (fX6_four (nI 119) (nI 111) (nI 114) (nI 107)) (fun z1 => bnd (fX6_isWord M ML (((27 : Int64) * z1) + (19 : Int64))) (fun z2 => gdb z2 (some z2)))

/-! CardLoopsModel.isStationWord()Z -/
def fX6_isStationWord (M : Rc) (ML : RcL) : Option (Int32) := bnd (fX6_four (nI 115) (nI 116) (nI 97) (nI 116)) (fun z1 => bnd (fX6_isWord M ML (((27 : Int64) * (((27 : Int64) * (((27 : Int64) * z1) + (9 : Int64))) + (15 : Int64))) + (14 : Int64))) (fun z2 => gdb z2 (some z2)))

/-! CardLoopsModel.bad(I)Z -/
def fX6_bad_14 (M : Rc) (ML : RcL) (y1 : Int32) : Option (Int32 × (Rc)) := nm (va_up M 8 (fun _ => y1)) (fun M1 => nm (va_up M1 9 (fun _ => (M1 5 0))) (fun M2 => some ((nI 0), M2)))
def fX6_bad (M : Rc) (ML : RcL) (x1 : Int32) : Option (Int32 × (Rc)) := if (M 6 0) = (nI 1) then fX6_bad_14 M ML (nI 1) else fX6_bad_14 M ML x1

/-! CardLoopsModel.told(III)Z -/
def fX6_told (N : Nat) (M : Rc) (ML : RcL) (x1 : Int32) (x2 : Int32) (x3 : Int32) : Option (Int32 × (Rc × RcL)) := if (M 6 0) = (nI 3) then bnd (fX6_isIn (M 7 0) x2 x3) (fun z1 => if z1 = 0 then bnd (fX6_bad M ML (nI 2)) (fun z4 => gdb z4.1 (some (z4.1, (z4.2, ML)))) else gdi x1 353 (nm (va_up M 12 (upd (M 12) (x1.toNatClampNeg) (M 7 0))) (fun M2 => bnd (fX6_go N M2 ML) (fun z3 => some ((nI 1), (z3.1, z3.2)))))) else bnd (fX6_bad M ML (nI 1)) (fun z5 => gdb z5.1 (some (z5.1, (z5.2, ML))))

/-! CardLoopsModel.readWorks()Z -/
def fX6_readWorks (N : Nat) (M : Rc) (ML : RcL) : Option (Int32 × (Rc × RcL)) := bnd (fX6_go N M ML) (fun z1 => bnd (fX6_told N z1.1 z1.2 (nI 17) (nI 1) (nI 20)) (fun z2 => if z2.1 = 0 then some ((nI 0), (z2.2.1, z2.2.2)) else nm (va_up z2.2.1 12 (upd (z2.2.1 12) 0 (nI 1))) (fun M3 => nm (va_up M3 12 (upd (M3 12) 14 (nI 1))) (fun M4 => some ((nI 1), (M4, z2.2.2))))))

/-! CardLoopsModel.readStation()Z -/
def fX6_readStation_50 (N : Nat) (M : Rc) (ML : RcL) : Option (Int32 × (Rc × RcL)) := some ((nI 0), (M, ML))
def fX6_readStation (N : Nat) (M : Rc) (ML : RcL) : Option (Int32 × (Rc × RcL)) := nm (M 12 1) (fun v1 => if v1 = (nI 6) then bnd (fX6_bad M ML (nI 3)) (fun z6 => gdb z6.1 (some (z6.1, (z6.2, ML)))) else bnd (fX6_go N M ML) (fun z2 => bnd (fX6_told N z2.1 z2.2 ((nI 2) + v1) (nI 1) (nI 60)) (fun z3 => if z3.1 = 0 then fX6_readStation_50 N z3.2.1 z3.2.2 else bnd (fX6_told N z3.2.1 z3.2.2 ((nI 8) + v1) (nI 0) (nI 60)) (fun z4 => if z4.1 = 0 then fX6_readStation_50 N z4.2.1 z4.2.2 else nm (va_up z4.2.1 12 (upd (z4.2.1 12) 1 ((z4.2.1 12 1) + (nI 1)))) (fun M5 => some ((nI 1), (M5, z4.2.2)))))))

/-! CardLoopsModel.readLoop()Z -/
def fX6_readLoop_88 (N : Nat) (M : Rc) (ML : RcL) : Option (Int32 × (Rc × RcL)) := some ((nI 0), (M, ML))
def fX6_readLoop (N : Nat) (M : Rc) (ML : RcL) : Option (Int32 × (Rc × RcL)) := if (M 12 14) = (nI 5) then bnd (fX6_bad M ML (nI 3)) (fun z7 => gdb z7.1 (some (z7.1, (z7.2, ML)))) else bnd (fX6_go N M ML) (fun z1 => nm ((nI 15) + ((nI 4) * (z1.1 12 14))) (fun v2 => bnd (fX6_told N z1.1 z1.2 v2 (nI 0) ((z1.1 12 1) - (nI 1))) (fun z3 => if z3.1 = 0 then fX6_readLoop_88 N z3.2.1 z3.2.2 else gdi v2 353 (bnd (fX6_told N z3.2.1 z3.2.2 (v2 + (nI 1)) (z3.2.1 12 v2.toNatClampNeg) ((z3.2.1 12 1) - (nI 1))) (fun z4 => if z4.1 = 0 then fX6_readLoop_88 N z4.2.1 z4.2.2 else bnd (fX6_told N z4.2.1 z4.2.2 (v2 + (nI 2)) (nI 1) (nI 20)) (fun z5 => if z5.1 = 0 then fX6_readLoop_88 N z5.2.1 z5.2.2 else nm (va_up z5.2.1 12 (upd (z5.2.1 12) 14 ((z5.2.1 12 14) + (nI 1)))) (fun M6 => some ((nI 1), (M6, z5.2.2)))))))))

/-! CardLoopsModel.readRun()Z -/
def fX6_readRun_58 (N : Nat) (M : Rc) (ML : RcL) : Option (Int32 × (Rc × RcL)) := some ((nI 0), (M, ML))
def fX6_readRun (N : Nat) (M : Rc) (ML : RcL) : Option (Int32 × (Rc × RcL)) := if (M 12 35) = (nI 6) then bnd (fX6_bad M ML (nI 3)) (fun z6 => gdb z6.1 (some (z6.1, (z6.2, ML)))) else bnd (fX6_go N M ML) (fun z1 => nm ((nI 36) + ((nI 2) * (z1.1 12 35))) (fun v2 => bnd (fX6_told N z1.1 z1.2 v2 (nI 0) (nI 3)) (fun z3 => if z3.1 = 0 then fX6_readRun_58 N z3.2.1 z3.2.2 else bnd (fX6_told N z3.2.1 z3.2.2 (v2 + (nI 1)) (nI 1) (nI 20)) (fun z4 => if z4.1 = 0 then fX6_readRun_58 N z4.2.1 z4.2.2 else nm (va_up z4.2.1 12 (upd (z4.2.1 12) 35 ((z4.2.1 12 35) + (nI 1)))) (fun M5 => some ((nI 1), (M5, z4.2.2)))))))

/-! CardLoopsModel.readLine()Z -/
def fX6_readLine (N : Nat) (M : Rc) (ML : RcL) : Option (Int32 × (Rc × RcL)) := if (M 12 0) = 0 then bnd (fX6_isWorks M ML) (fun z9 => if z9 = 0 then bnd (fX6_bad M ML (nI 1)) (fun z10 => gdb z10.1 (some (z10.1, (z10.2, ML)))) else bnd (fX6_readWorks N M ML) (fun z11 => gdb z11.1 (some (z11.1, (z11.2.1, z11.2.2))))) else bnd (fX6_isStationWord M ML) (fun z1 => if z1 = 0 then bnd (fX6_four (nI 108) (nI 111) (nI 111) (nI 112)) (fun z2 => bnd (fX6_isWord M ML z2) (fun z3 => if z3 = 0 then bnd (fX6_isWord M ML (13703 : Int64)) (fun z4 => if z4 = 0 then bnd (fX6_bad M ML (nI 1)) (fun z5 => gdb z5.1 (some (z5.1, (z5.2, ML)))) else bnd (fX6_readRun N M ML) (fun z6 => gdb z6.1 (some (z6.1, (z6.2.1, z6.2.2))))) else bnd (fX6_readLoop N M ML) (fun z7 => gdb z7.1 (some (z7.1, (z7.2.1, z7.2.2)))))) else bnd (fX6_readStation N M ML) (fun z8 => gdb z8.1 (some (z8.1, (z8.2.1, z8.2.2)))))

/-! CardLoopsModel.readEnd()Z -/
def fX6_readEnd (N : Nat) (M : Rc) (ML : RcL) : Option (Int32 × (Rc × RcL)) := if (M 6 0) = (nI 4) then bnd (fX6_go N M ML) (fun z1 => some ((nI 1), (z1.1, z1.2))) else bnd (fX6_bad M ML (nI 1)) (fun z2 => gdb z2.1 (some (z2.1, (z2.2, ML))))

/-! CardLoopsModel.copy([II[II)V -/
def fX6_copy_3b (nU : Nat) (nV : Nat) (N : Nat) (k3 : (Nat → Int32) → (Nat → Int32) → Int32 → Int32 → Int32 → Option ((Nat → Int32))) (U : Nat → Int32) (V : Nat → Int32) (x1 : Int32) (x3 : Int32) (x4 : Int32) : Option ((Nat → Int32)) := if (nI 353) ≤ x4 then some V else gdi (x1 + x4) nU (gdi (x3 + x4) nV (nm (upd V ((x3 + x4).toNatClampNeg) (U (x1 + x4).toNatClampNeg)) (fun V1 => nm (x4 + (nI 1)) (fun v2 => k3 U V1 x1 x3 v2))))
def fX6_copy_3 (nU : Nat) (nV : Nat) (N : Nat) : (Nat → Int32) → (Nat → Int32) → Int32 → Int32 → Int32 → Option ((Nat → Int32)) := itn (fX6_copy_3b nU nV N) (fun _ _ _ _ _ => none) N
def fX6_copy (nU : Nat) (nV : Nat) (N : Nat) (U : Nat → Int32) (V : Nat → Int32) (x1 : Int32) (x3 : Int32) : Option ((Nat → Int32)) := nm (nI 0) (fun v1 => fX6_copy_3 nU nV N U V x1 x3 v1)

/-! CardLoopsModel.clears([I)V -/
def fX6_clears_70b (N : Nat) (k70 : (Nat → Int32) → Int32 → Option ((Nat → Int32))) (S : Nat → Int32) (x1 : Int32) : Option ((Nat → Int32)) := if (S 14) ≤ x1 then some S else gdi (((nI 15) + ((nI 4) * x1)) + (nI 2)) 353 (gdi (((nI 15) + ((nI 4) * x1)) + (nI 3)) 353 (nm (upd S ((((nI 15) + ((nI 4) * x1)) + (nI 3)).toNatClampNeg) (S (((nI 15) + ((nI 4) * x1)) + (nI 2)).toNatClampNeg)) (fun S1 => nm (x1 + (nI 1)) (fun v2 => k70 S1 v2))))
def fX6_clears_70 (N : Nat) : (Nat → Int32) → Int32 → Option ((Nat → Int32)) := itn (fX6_clears_70b N) (fun _ _ => none) N
def fX6_clears_32b (N : Nat) (k32 : (Nat → Int32) → Int32 → Option ((Nat → Int32))) (S : Nat → Int32) (x1 : Int32) : Option ((Nat → Int32)) := if (nI 6) ≤ x1 then nm (nI 0) (fun v1 => fX6_clears_70 N S v1) else gdi (((nI 53) + ((nI 9) * x1)) + (nI 0)) 353 (nm (upd S ((((nI 53) + ((nI 9) * x1)) + (nI 0)).toNatClampNeg) (-1 : Int32)) (fun S2 => gdi (((nI 53) + ((nI 9) * x1)) + (nI 1)) 353 (nm (upd S2 ((((nI 53) + ((nI 9) * x1)) + (nI 1)).toNatClampNeg) (-1 : Int32)) (fun S3 => nm (x1 + (nI 1)) (fun v4 => k32 S3 v4)))))
def fX6_clears_32 (N : Nat) : (Nat → Int32) → Int32 → Option ((Nat → Int32)) := itn (fX6_clears_32b N) (fun _ _ => none) N
def fX6_clears_3b (N : Nat) (k3 : (Nat → Int32) → Int32 → Option ((Nat → Int32))) (S : Nat → Int32) (x1 : Int32) : Option ((Nat → Int32)) := if (nI 353) ≤ x1 then nm (upd S 51 (-1 : Int32)) (fun S1 => nm (upd S1 52 (-1 : Int32)) (fun S2 => nm (nI 0) (fun v3 => fX6_clears_32 N S2 v3))) else gdi x1 353 (nm (upd S (x1.toNatClampNeg) (nI 0)) (fun S4 => nm (x1 + (nI 1)) (fun v5 => k3 S4 v5)))
def fX6_clears_3 (N : Nat) : (Nat → Int32) → Int32 → Option ((Nat → Int32)) := itn (fX6_clears_3b N) (fun _ _ => none) N
def fX6_clears (N : Nat) (S : Nat → Int32) : Option ((Nat → Int32)) := nm (nI 48) (fun v1 => fX6_clears_3 N S v1)

/-! CardLoopsModel.perRound([I)I -/
def fX6_perRound_4b (N : Nat) (k4 : (Nat → Int32) → Int32 → Int32 → Option (Int32)) (S : Nat → Int32) (x1 : Int32) (x2 : Int32) : Option (Int32) := if (S 35) ≤ x2 then some x1 else gdi (((nI 36) + ((nI 2) * x2)) + (nI 1)) 353 (nm (x1 + (S (((nI 36) + ((nI 2) * x2)) + (nI 1)).toNatClampNeg)) (fun v1 => nm (x2 + (nI 1)) (fun v2 => k4 S v1 v2)))
def fX6_perRound_4 (N : Nat) : (Nat → Int32) → Int32 → Int32 → Option (Int32) := itn (fX6_perRound_4b N) (fun _ _ _ => none) N
def fX6_perRound (N : Nat) (S : Nat → Int32) : Option (Int32) := nm (nI 0) (fun v1 => nm (nI 0) (fun v2 => fX6_perRound_4 N S v1 v2))

/-! CardLoopsModel.kindOf([II)I -/
def fX6_kindOf_18b (N : Nat) (k18 : (Nat → Int32) → Int32 → Int32 → Option (Int32)) (S : Nat → Int32) (x2 : Int32) (x3 : Int32) : Option (Int32) := gdi (((nI 36) + ((nI 2) * x3)) + (nI 1)) 353 (if x2 < (S (((nI 36) + ((nI 2) * x3)) + (nI 1)).toNatClampNeg) then gdi ((nI 36) + ((nI 2) * x3)) 353 (some (S ((nI 36) + ((nI 2) * x3)).toNatClampNeg)) else gdi (((nI 36) + ((nI 2) * x3)) + (nI 1)) 353 (nm (x2 - (S (((nI 36) + ((nI 2) * x3)) + (nI 1)).toNatClampNeg)) (fun v1 => nm (x3 + (nI 1)) (fun v2 => k18 S v1 v2))))
def fX6_kindOf_18 (N : Nat) : (Nat → Int32) → Int32 → Int32 → Option (Int32) := itn (fX6_kindOf_18b N) (fun _ _ _ => none) N
def fX6_kindOf (N : Nat) (S : Nat → Int32) (x1 : Int32) : Option (Int32) := if (S 35) = 0 then some (nI 0) else bnd (fX6_perRound N S) (fun z1 => gdz z1 (nm (x1 - x1 / z1 * z1) (fun v2 => nm (nI 0) (fun v3 => fX6_kindOf_18 N S v2 v3))))

/-! CardLoopsModel.its([III)I -/
def fX6_its (S : Nat → Int32) (x1 : Int32) (x2 : Int32) : Option (Int32) := gdi (((nI 53) + ((nI 9) * x1)) + x2) 353 (some (S (((nI 53) + ((nI 9) * x1)) + x2).toNatClampNeg))

/-! CardLoopsModel.isIdle([II)Z -/
def fX6_isIdle (S : Nat → Int32) (x1 : Int32) : Option (Int32) := bnd (fX6_its S x1 (nI 0)) (fun z1 => if z1 = (-1 : Int32) then some (nI 1) else some (nI 0))

/-! CardLoopsModel.waiting([II)I -/
def fX6_waiting (S : Nat → Int32) (x1 : Int32) : Option (Int32) := gdi ((nI 107) + ((nI 41) * x1)) 353 (some (S ((nI 107) + ((nI 41) * x1)).toNatClampNeg))

/-! CardLoopsModel.goesOn([II)I -/
def fX6_goesOn_181 (N : Nat) (S : Nat → Int32) : Option (Int32 × ((Nat → Int32))) := some ((nI 1), S)
def fX6_goesOn_80 (N : Nat) (k41 : (Nat → Int32) → Int32 → Int32 → Int32 → Int32 → Option (Int32 × ((Nat → Int32)))) (S : Nat → Int32) (x1 : Int32) (x2 : Int32) (x3 : Int32) (x4 : Int32) : Option (Int32 × ((Nat → Int32))) := nm (x4 + (nI 1)) (fun v1 => k41 S x1 x2 x3 v1)
def fX6_goesOn_41b (N : Nat) (k41 : (Nat → Int32) → Int32 → Int32 → Int32 → Int32 → Option (Int32 × ((Nat → Int32)))) (S : Nat → Int32) (x1 : Int32) (x2 : Int32) (x3 : Int32) (x4 : Int32) : Option (Int32 × ((Nat → Int32))) := if (S 14) ≤ x4 then if (S 1) ≤ (x1 + (nI 1)) then nm (upd S 49 ((S 49) + (nI 1))) (fun S1 => nm (upd S1 51 ((S1 48) - x3)) (fun S2 => if (S2 51) ≤ (S2 52) then fX6_goesOn_181 N S2 else nm (upd S2 52 (S2 51)) (fun S3 => fX6_goesOn_181 N S3))) else nm ((nI 107) + ((nI 41) * (x1 + (nI 1)))) (fun v4 => gdi v4 353 (gdi ((v4 + (nI 1)) + ((nI 2) * (S v4.toNatClampNeg))) 353 (nm (upd S (((v4 + (nI 1)) + ((nI 2) * (S v4.toNatClampNeg))).toNatClampNeg) x2) (fun S5 => gdi v4 353 (gdi ((v4 + (nI 2)) + ((nI 2) * (S5 v4.toNatClampNeg))) 353 (nm (upd S5 (((v4 + (nI 2)) + ((nI 2) * (S5 v4.toNatClampNeg))).toNatClampNeg) x3) (fun S6 => gdi v4 353 (gdi v4 353 (nm (upd S6 (v4.toNatClampNeg) ((S6 v4.toNatClampNeg) + (nI 1))) (fun S7 => some ((nI 0), S7))))))))))) else gdi (((nI 15) + ((nI 4) * x4)) + (nI 1)) 353 (if (S (((nI 15) + ((nI 4) * x4)) + (nI 1)).toNatClampNeg) = x1 then gdi (((nI 15) + ((nI 4) * x4)) + (nI 3)) 353 (gdi (((nI 15) + ((nI 4) * x4)) + (nI 3)) 353 (nm (upd S ((((nI 15) + ((nI 4) * x4)) + (nI 3)).toNatClampNeg) ((S (((nI 15) + ((nI 4) * x4)) + (nI 3)).toNatClampNeg) + (nI 1))) (fun S8 => fX6_goesOn_80 N k41 S8 x1 x2 x3 x4))) else fX6_goesOn_80 N k41 S x1 x2 x3 x4)
def fX6_goesOn_41 (N : Nat) : (Nat → Int32) → Int32 → Int32 → Int32 → Int32 → Option (Int32 × ((Nat → Int32))) := itn (fX6_goesOn_41b N) (fun _ _ _ _ _ => none) N
def fX6_goesOn (N : Nat) (S : Nat → Int32) (x1 : Int32) : Option (Int32 × ((Nat → Int32))) := bnd (fX6_its S x1 (nI 0)) (fun z1 => nm z1 (fun v2 => bnd (fX6_its S x1 (nI 4)) (fun z3 => nm z3 (fun v4 => gdi (((nI 53) + ((nI 9) * x1)) + (nI 1)) 353 (nm (upd S ((((nI 53) + ((nI 9) * x1)) + (nI 1)).toNatClampNeg) v2) (fun S5 => gdi (((nI 53) + ((nI 9) * x1)) + (nI 0)) 353 (nm (upd S5 ((((nI 53) + ((nI 9) * x1)) + (nI 0)).toNatClampNeg) (-1 : Int32)) (fun S6 => nm (nI 0) (fun v7 => fX6_goesOn_41 N S6 x1 v2 v4 v7)))))))))

/-! CardLoopsModel.hasCards([II)Z -/
def fX6_hasCards_37 (N : Nat) (k2 : (Nat → Int32) → Int32 → Int32 → Option (Int32)) (S : Nat → Int32) (x1 : Int32) (x2 : Int32) : Option (Int32) := nm (x2 + (nI 1)) (fun v1 => k2 S x1 v1)
def fX6_hasCards_2b (N : Nat) (k2 : (Nat → Int32) → Int32 → Int32 → Option (Int32)) (S : Nat → Int32) (x1 : Int32) (x2 : Int32) : Option (Int32) := if (S 14) ≤ x2 then some (nI 1) else gdi ((nI 15) + ((nI 4) * x2)) 353 (if (S ((nI 15) + ((nI 4) * x2)).toNatClampNeg) = x1 then gdi (((nI 15) + ((nI 4) * x2)) + (nI 3)) 353 (if (S (((nI 15) + ((nI 4) * x2)) + (nI 3)).toNatClampNeg) = 0 then some (nI 0) else fX6_hasCards_37 N k2 S x1 x2) else fX6_hasCards_37 N k2 S x1 x2)
def fX6_hasCards_2 (N : Nat) : (Nat → Int32) → Int32 → Int32 → Option (Int32) := itn (fX6_hasCards_2b N) (fun _ _ _ => none) N
def fX6_hasCards (N : Nat) (S : Nat → Int32) (x1 : Int32) : Option (Int32) := nm (nI 0) (fun v1 => fX6_hasCards_2 N S x1 v1)

/-! CardLoopsModel.tries([II)V -/
def fX6_tries_257 (N : Nat) (S : Nat → Int32) (x1 : Int32) (x3 : Int32) (y1 : Int32) (y2 : Int32) (y3 : Int32) : Option ((Nat → Int32)) := gdi y1 353 (nm (upd S (y1.toNatClampNeg) (y2 + y3)) (fun S1 => bnd (fX6_its S1 x1 (nI 2)) (fun z2 => gdi ((nI 2) + x1) 353 (gdi (((nI 53) + ((nI 9) * x1)) + (nI 3)) 353 (nm (upd S1 ((((nI 53) + ((nI 9) * x1)) + (nI 3)).toNatClampNeg) (z2 + (S1 ((nI 2) + x1).toNatClampNeg))) (fun S3 => gdi (((nI 53) + ((nI 9) * x1)) + (nI 4)) 353 (nm (upd S3 ((((nI 53) + ((nI 9) * x1)) + (nI 4)).toNatClampNeg) x3) (fun S4 => some S4))))))))
def fX6_tries_256 (N : Nat) (S : Nat → Int32) (x1 : Int32) (x3 : Int32) (y1 : Int32) (y2 : Int32) : Option ((Nat → Int32)) := fX6_tries_257 N S x1 x3 y1 y2 (nI 0)
def fX6_tries_195 (N : Nat) (k158 : (Nat → Int32) → Int32 → Int32 → Int32 → Int32 → Option ((Nat → Int32))) (S : Nat → Int32) (x1 : Int32) (x2 : Int32) (x3 : Int32) (x4 : Int32) : Option ((Nat → Int32)) := nm (x4 + (nI 1)) (fun v1 => k158 S x1 x2 x3 v1)
def fX6_tries_158b (N : Nat) (k158 : (Nat → Int32) → Int32 → Int32 → Int32 → Int32 → Option ((Nat → Int32))) (S : Nat → Int32) (x1 : Int32) (x2 : Int32) (x3 : Int32) (x4 : Int32) : Option ((Nat → Int32)) := if (S 14) ≤ x4 then bnd (fX6_its S x1 (nI 1)) (fun z1 => nm z1 (fun v2 => gdi (((nI 53) + ((nI 9) * x1)) + (nI 0)) 353 (nm (upd S ((((nI 53) + ((nI 9) * x1)) + (nI 0)).toNatClampNeg) x2) (fun S3 => if v2 = (-1 : Int32) then fX6_tries_256 N S3 x1 x3 (((nI 53) + ((nI 9) * x1)) + (nI 2)) (S3 48) else if v2 = x2 then fX6_tries_256 N S3 x1 x3 (((nI 53) + ((nI 9) * x1)) + (nI 2)) (S3 48) else gdi ((nI 8) + x1) 353 (fX6_tries_257 N S3 x1 x3 (((nI 53) + ((nI 9) * x1)) + (nI 2)) (S3 48) (S3 ((nI 8) + x1).toNatClampNeg)))))) else gdi ((nI 15) + ((nI 4) * x4)) 353 (if (S ((nI 15) + ((nI 4) * x4)).toNatClampNeg) = x1 then gdi (((nI 15) + ((nI 4) * x4)) + (nI 3)) 353 (gdi (((nI 15) + ((nI 4) * x4)) + (nI 3)) 353 (nm (upd S ((((nI 15) + ((nI 4) * x4)) + (nI 3)).toNatClampNeg) ((S (((nI 15) + ((nI 4) * x4)) + (nI 3)).toNatClampNeg) - (nI 1))) (fun S4 => fX6_tries_195 N k158 S4 x1 x2 x3 x4))) else fX6_tries_195 N k158 S x1 x2 x3 x4)
def fX6_tries_158 (N : Nat) : (Nat → Int32) → Int32 → Int32 → Int32 → Int32 → Option ((Nat → Int32)) := itn (fX6_tries_158b N) (fun _ _ _ _ _ => none) N
def fX6_tries_155 (N : Nat) (S : Nat → Int32) (x1 : Int32) (x2 : Int32) (x3 : Int32) : Option ((Nat → Int32)) := nm (nI 0) (fun v1 => fX6_tries_158 N S x1 x2 x3 v1)
def fX6_tries_92b (N : Nat) (k92 : (Nat → Int32) → Int32 → Int32 → Int32 → Int32 → Int32 → Option ((Nat → Int32))) (S : Nat → Int32) (x1 : Int32) (x2 : Int32) (x3 : Int32) (x4 : Int32) (x5 : Int32) : Option ((Nat → Int32)) := gdi x4 353 (if ((nI 2) * (S x4.toNatClampNeg)) ≤ x5 then gdi x4 353 (gdi ((x4 + (nI 1)) + ((nI 2) * (S x4.toNatClampNeg))) 353 (nm (upd S (((x4 + (nI 1)) + ((nI 2) * (S x4.toNatClampNeg))).toNatClampNeg) (nI 0)) (fun S1 => gdi x4 353 (gdi ((x4 + (nI 2)) + ((nI 2) * (S1 x4.toNatClampNeg))) 353 (nm (upd S1 (((x4 + (nI 2)) + ((nI 2) * (S1 x4.toNatClampNeg))).toNatClampNeg) (nI 0)) (fun S2 => fX6_tries_155 N S2 x1 x2 x3)))))) else gdi ((x4 + (nI 3)) + x5) 353 (gdi ((x4 + (nI 1)) + x5) 353 (nm (upd S (((x4 + (nI 1)) + x5).toNatClampNeg) (S ((x4 + (nI 3)) + x5).toNatClampNeg)) (fun S3 => nm (x5 + (nI 1)) (fun v4 => k92 S3 x1 x2 x3 x4 v4)))))
def fX6_tries_92 (N : Nat) : (Nat → Int32) → Int32 → Int32 → Int32 → Int32 → Int32 → Option ((Nat → Int32)) := itn (fX6_tries_92b N) (fun _ _ _ _ _ _ => none) N
def fX6_tries_20 (N : Nat) (S : Nat → Int32) (x1 : Int32) : Option ((Nat → Int32)) := bnd (fX6_hasCards N S x1) (fun z1 => if z1 = 0 then some S else nm (S 48) (fun v2 => if x1 = 0 then bnd (fX6_kindOf N S (S 50)) (fun z8 => nm z8 (fun v9 => nm (upd S 50 ((S 50) + (nI 1))) (fun S10 => fX6_tries_155 N S10 x1 v9 v2))) else nm ((nI 107) + ((nI 41) * x1)) (fun v3 => gdi (v3 + (nI 1)) 353 (nm (S (v3 + (nI 1)).toNatClampNeg) (fun v4 => gdi (v3 + (nI 2)) 353 (nm (S (v3 + (nI 2)).toNatClampNeg) (fun v5 => gdi v3 353 (gdi v3 353 (nm (upd S (v3.toNatClampNeg) ((S v3.toNatClampNeg) - (nI 1))) (fun S6 => nm (nI 0) (fun v7 => fX6_tries_92 N S6 x1 v4 v5 v3 v7)))))))))))
def fX6_tries (N : Nat) (S : Nat → Int32) (x1 : Int32) : Option ((Nat → Int32)) := bnd (fX6_isIdle S x1) (fun z1 => if z1 = 0 then some S else if x1 ≤ 0 then fX6_tries_20 N S x1 else bnd (fX6_waiting S x1) (fun z2 => if z2 = 0 then some S else fX6_tries_20 N S x1))

/-! CardLoopsModel.rounds([I)I -/
def fX6_rounds_53b (N : Nat) (k53 : (Nat → Int32) → Int32 → Int32 → Option (Int32 × ((Nat → Int32)))) (S : Nat → Int32) (x1 : Int32) (x2 : Int32) : Option (Int32 × ((Nat → Int32))) := if x2 < 0 then some (x1, S) else bnd (fX6_tries N S x2) (fun z1 => nm (x2 + (-1 : Int32)) (fun v2 => k53 z1 x1 v2))
def fX6_rounds_53 (N : Nat) : (Nat → Int32) → Int32 → Int32 → Option (Int32 × ((Nat → Int32))) := itn (fX6_rounds_53b N) (fun _ _ _ => none) N
def fX6_rounds_41 (N : Nat) (k8 : (Nat → Int32) → Int32 → Int32 → Option (Int32 × ((Nat → Int32)))) (S : Nat → Int32) (x1 : Int32) (x2 : Int32) : Option (Int32 × ((Nat → Int32))) := nm (x2 + (-1 : Int32)) (fun v1 => k8 S x1 v1)
def fX6_rounds_8b (N : Nat) (k8 : (Nat → Int32) → Int32 → Int32 → Option (Int32 × ((Nat → Int32)))) (S : Nat → Int32) (x1 : Int32) (x2 : Int32) : Option (Int32 × ((Nat → Int32))) := if x2 < 0 then nm ((S 1) - (nI 1)) (fun v1 => fX6_rounds_53 N S x1 v1) else bnd (fX6_isIdle S x2) (fun z2 => if z2 = 0 then bnd (fX6_its S x2 (nI 3)) (fun z3 => if z3 = (S 48) then bnd (fX6_goesOn N S x2) (fun z4 => nm (x1 + z4.1) (fun v5 => fX6_rounds_41 N k8 z4.2 v5 x2)) else fX6_rounds_41 N k8 S x1 x2) else fX6_rounds_41 N k8 S x1 x2)
def fX6_rounds_8 (N : Nat) : (Nat → Int32) → Int32 → Int32 → Option (Int32 × ((Nat → Int32))) := itn (fX6_rounds_8b N) (fun _ _ _ => none) N
def fX6_rounds (N : Nat) (S : Nat → Int32) : Option (Int32 × ((Nat → Int32))) := nm (nI 0) (fun v1 => nm ((S 1) - (nI 1)) (fun v2 => fX6_rounds_8 N S v1 v2))

/-! CardLoopsModel.begins([I)V -/
def fX6_begins (N : Nat) (S : Nat → Int32) : Option ((Nat → Int32)) := bnd (fX6_clears N S) (fun z1 => bnd (fX6_rounds N z1) (fun z2 => some z2.2))

/-! CardLoopsModel.doing([II)I -/
def fX6_doing_24 (S : Nat → Int32) : Option (Int32) := some (nI 1)
def fX6_doing (S : Nat → Int32) (x1 : Int32) : Option (Int32) := bnd (fX6_isIdle S x1) (fun z1 => if z1 = 0 then bnd (fX6_its S x1 (nI 2)) (fun z2 => if z2 ≤ (S 48) then some (nI 3) else some (nI 2)) else if x1 ≤ 0 then fX6_doing_24 S else bnd (fX6_waiting S x1) (fun z3 => if z3 = 0 then some (nI 0) else fX6_doing_24 S))

/-! CardLoopsModel.waits([II)V -/
def fX6_waits_50 (N : Nat) (k2 : (Nat → Int32) → Int32 → Int32 → Option ((Nat → Int32))) (S : Nat → Int32) (x1 : Int32) (x2 : Int32) (x3 : Int32) (y0 : Int32) : Option ((Nat → Int32)) := nm y0 (fun v1 => gdi ((((nI 53) + ((nI 9) * x2)) + (nI 5)) + x3) 353 (gdi ((((nI 53) + ((nI 9) * x2)) + (nI 5)) + x3) 353 (nm (upd S (((((nI 53) + ((nI 9) * x2)) + (nI 5)) + x3).toNatClampNeg) ((S ((((nI 53) + ((nI 9) * x2)) + (nI 5)) + x3).toNatClampNeg) + v1)) (fun S2 => gdi ((((nI 53) + ((nI 9) * x2)) + (nI 5)) + (nI 3)) 353 (gdi ((((nI 53) + ((nI 9) * x2)) + (nI 5)) + (nI 3)) 353 (nm (upd S2 (((((nI 53) + ((nI 9) * x2)) + (nI 5)) + (nI 3)).toNatClampNeg) ((S2 ((((nI 53) + ((nI 9) * x2)) + (nI 5)) + (nI 3)).toNatClampNeg) + (x1 - v1))) (fun S3 => nm (x2 + (nI 1)) (fun v4 => k2 S3 x1 v4))))))))
def fX6_waits_49 (N : Nat) (k2 : (Nat → Int32) → Int32 → Int32 → Option ((Nat → Int32))) (S : Nat → Int32) (x1 : Int32) (x2 : Int32) (x3 : Int32) : Option ((Nat → Int32)) := fX6_waits_50 N k2 S x1 x2 x3 x1
def fX6_waits_2b (N : Nat) (k2 : (Nat → Int32) → Int32 → Int32 → Option ((Nat → Int32))) (S : Nat → Int32) (x1 : Int32) (x2 : Int32) : Option ((Nat → Int32)) := if (S 1) ≤ x2 then nm (upd S 48 ((S 48) + x1)) (fun S1 => some S1) else bnd (fX6_doing S x2) (fun z2 => nm z2 (fun v3 => if v3 = (nI 2) then bnd (fX6_its S x2 (nI 2)) (fun z4 => if x1 ≤ (z4 - (S 48)) then fX6_waits_49 N k2 S x1 x2 v3 else bnd (fX6_its S x2 (nI 2)) (fun z5 => fX6_waits_50 N k2 S x1 x2 v3 (z5 - (S 48)))) else fX6_waits_49 N k2 S x1 x2 v3))
def fX6_waits_2 (N : Nat) : (Nat → Int32) → Int32 → Int32 → Option ((Nat → Int32)) := itn (fX6_waits_2b N) (fun _ _ _ => none) N
def fX6_waits (N : Nat) (S : Nat → Int32) (x1 : Int32) : Option ((Nat → Int32)) := nm (nI 0) (fun v1 => fX6_waits_2 N S x1 v1)

/-! CardLoopsModel.nextTime([I)I -/
def fX6_nextTime_41 (N : Nat) (k4 : (Nat → Int32) → Int32 → Int32 → Option (Int32)) (S : Nat → Int32) (x1 : Int32) (x2 : Int32) : Option (Int32) := nm (x2 + (nI 1)) (fun v1 => k4 S x1 v1)
def fX6_nextTime_34 (N : Nat) (k4 : (Nat → Int32) → Int32 → Int32 → Option (Int32)) (S : Nat → Int32) (x2 : Int32) : Option (Int32) := bnd (fX6_its S x2 (nI 3)) (fun z1 => nm z1 (fun v2 => fX6_nextTime_41 N k4 S v2 x2))
def fX6_nextTime_4b (N : Nat) (k4 : (Nat → Int32) → Int32 → Int32 → Option (Int32)) (S : Nat → Int32) (x1 : Int32) (x2 : Int32) : Option (Int32) := if (S 1) ≤ x2 then some x1 else bnd (fX6_isIdle S x2) (fun z1 => if z1 = 0 then if x1 = (-1 : Int32) then fX6_nextTime_34 N k4 S x2 else bnd (fX6_its S x2 (nI 3)) (fun z2 => if x1 ≤ z2 then fX6_nextTime_41 N k4 S x1 x2 else fX6_nextTime_34 N k4 S x2) else fX6_nextTime_41 N k4 S x1 x2)
def fX6_nextTime_4 (N : Nat) : (Nat → Int32) → Int32 → Int32 → Option (Int32) := itn (fX6_nextTime_4b N) (fun _ _ _ => none) N
def fX6_nextTime (N : Nat) (S : Nat → Int32) : Option (Int32) := nm (-1 : Int32) (fun v1 => nm (nI 0) (fun v2 => fX6_nextTime_4 N S v1 v2))

/-! CardLoopsModel.steps([I)I -/
def fX6_steps (N : Nat) (S : Nat → Int32) : Option (Int32 × ((Nat → Int32))) := bnd (fX6_nextTime N S) (fun z1 => bnd (fX6_waits N S (z1 - (S 48))) (fun z2 => bnd (fX6_rounds N z2) (fun z3 => some (z3.1, z3.2))))

def fX6_divisorN : Nat → Int32 → Int32 → Option Int32
  | 0, _, _ => none
  | n + 1, a, b => if b = 0 then some a else gdz b (bnd (fX6_divisorN n b (a - a / b * b)) (fun z => some z))
def fX6_divisor (p0 p1 : Int32) : Option Int32 := fX6_divisorN 1600 p0 p1

/-! CardLoopsModel.text()I -/
def fX6_text_116 (N : Nat) (M : Rc) (ML : RcL) (x1 : Int32) : Option (Int32 × (Rc × RcL)) := nm (va_up M 12 (upd (M 12) 16 ((M 12 1) - (nI 1)))) (fun M1 => bnd (fX6_begins N (M1 12)) (fun z2 => nm (va_up M1 12 z2) (fun M3 => bnd (fX6_copy 353 353 N (M3 12) (M3 11) (nI 0) (nI 0)) (fun z4 => nm (va_up M3 11 z4) (fun M5 => nm (va_up M5 15 (fun _ => (nI 0))) (fun M6 => some (x1, (M6, ML))))))))
def fX6_text_77 (N : Nat) (M : Rc) (ML : RcL) : Option (Int32 × (Rc × RcL)) := some (((-1 : Int32) - (M 9 0)), (M, ML))
def fX6_text_56b (N : Nat) (k56 : Rc → RcL → Int32 → Option (Int32 × (Rc × RcL))) (M : Rc) (ML : RcL) (x1 : Int32) : Option (Int32 × (Rc × RcL)) := if (M 6 0) = 0 then if x1 ≤ 0 then fX6_text_116 N M ML x1 else if (M 12 1) = 0 then bnd (fX6_bad M ML (nI 1)) (fun z1 => some (((-1 : Int32) - (z1.2 9 0)), (z1.2, ML))) else fX6_text_116 N M ML x1 else bnd (fX6_readLine N M ML) (fun z2 => if z2.1 = 0 then fX6_text_77 N z2.2.1 z2.2.2 else bnd (fX6_readEnd N z2.2.1 z2.2.2) (fun z3 => if z3.1 = 0 then fX6_text_77 N z3.2.1 z3.2.2 else nm (x1 + (nI 1)) (fun v4 => k56 z3.2.1 z3.2.2 v4)))
def fX6_text_56 (N : Nat) : Rc → RcL → Int32 → Option (Int32 × (Rc × RcL)) := itn (fX6_text_56b N) (fun _ _ _ => none) N
def fX6_text_32b (N : Nat) (k32 : Rc → RcL → Int32 → Int32 → Option (Int32 × (Rc × RcL))) (M : Rc) (ML : RcL) (x1 : Int32) (x2 : Int32) : Option (Int32 × (Rc × RcL)) := if (nI 353) ≤ x2 then bnd (fX6_go N M ML) (fun z1 => fX6_text_56 N z1.1 z1.2 x1) else gdi x2 353 (nm (va_up M 12 (upd (M 12) (x2.toNatClampNeg) (nI 0))) (fun M2 => nm (x2 + (nI 1)) (fun v3 => k32 M2 ML x1 v3)))
def fX6_text_32 (N : Nat) : Rc → RcL → Int32 → Int32 → Option (Int32 × (Rc × RcL)) := itn (fX6_text_32b N) (fun _ _ _ _ => none) N
def fX6_text (N : Nat) (M : Rc) (ML : RcL) : Option (Int32 × (Rc × RcL)) := nm (va_up M 0 (fun _ => (nI 0))) (fun M1 => nm (va_up M1 3 (fun _ => (M1 2 0))) (fun M2 => nm (va_up M2 2 (fun _ => (nI 0))) (fun M3 => nm (va_up M3 8 (fun _ => (nI 0))) (fun M4 => nm (va_up M4 4 (fun _ => (nI 0))) (fun M5 => nm (nI 0) (fun v6 => nm (nI 0) (fun v7 => fX6_text_32 N M5 ML v6 v7)))))))

/-! CardLoopsModel.fault()I -/
def fX6_fault (M : Rc) (ML : RcL) : Option (Int32 × (Rc)) := nm (va_up M 0 (fun _ => (nI 0))) (fun M1 => some ((M1 8 0), M1))

/-! CardLoopsModel.isThere()Z -/
def fX6_isThere (M : Rc) (ML : RcL) : Option (Int32) := if (M 11 0) = (nI 1) then some (nI 1) else some (nI 0)

/-! CardLoopsModel.isLoop(I)Z -/
def fX6_isLoop (M : Rc) (ML : RcL) (x1 : Int32) : Option (Int32) := bnd (fX6_isIn x1 (nI 0) ((M 11 14) - (nI 1))) (fun z1 => gdb z1 (some z1))

/-! CardLoopsModel.now(I)I -/
def fX6_now (M : Rc) (ML : RcL) (x1 : Int32) : Option (Int32 × (Rc)) := nm (va_up M 0 (fun _ => (nI 0))) (fun M1 => if x1 = (nI 0) then some ((M1 11 1), M1) else if x1 = (nI 1) then some ((M1 11 14), M1) else if x1 = (nI 2) then some ((M1 11 35), M1) else if x1 = (nI 3) then some ((M1 11 48), M1) else if x1 = (nI 4) then some ((M1 11 49), M1) else if x1 = (nI 5) then some (((M1 11 50) - (M1 11 49)), M1) else if x1 = (nI 6) then some ((M1 11 51), M1) else if x1 = (nI 7) then some ((M1 11 52), M1) else if x1 = (nI 8) then some ((M1 15 0), M1) else if x1 = (nI 9) then some ((M1 2 0), M1) else some ((-1 : Int32), M1))

/-! CardLoopsModel.station(II)I -/
def fX6_station_31 (M : Rc) (ML : RcL) : Option (Int32 × (Rc)) := bnd (fX6_refuse M ML) (fun z1 => some (z1.1, z1.2))
def fX6_station (M : Rc) (ML : RcL) (x1 : Int32) (x2 : Int32) : Option (Int32 × (Rc)) := nm (va_up M 0 (fun _ => (nI 0))) (fun M1 => bnd (fX6_isIn x1 (nI 0) ((M1 11 1) - (nI 1))) (fun z2 => if z2 = 0 then fX6_station_31 M1 ML else bnd (fX6_isIn x2 (nI 0) (nI 9)) (fun z3 => if z3 = 0 then fX6_station_31 M1 ML else if x2 = (nI 0) then gdi ((nI 2) + x1) 353 (some ((M1 11 ((nI 2) + x1).toNatClampNeg), M1)) else if x2 = (nI 1) then gdi ((nI 8) + x1) 353 (some ((M1 11 ((nI 8) + x1).toNatClampNeg), M1)) else if x2 = (nI 2) then bnd (fX6_doing (M1 11) x1) (fun z4 => some (z4, M1)) else if x2 = (nI 3) then bnd (fX6_its (M1 11) x1 (nI 0)) (fun z5 => some (z5, M1)) else if x2 = (nI 4) then bnd (fX6_waiting (M1 11) x1) (fun z6 => some (z6, M1)) else if x2 = (nI 5) then bnd (fX6_isIdle (M1 11) x1) (fun z7 => if z7 = 0 then bnd (fX6_its (M1 11) x1 (nI 3)) (fun z8 => some (z8, M1)) else some ((-1 : Int32), M1)) else bnd (fX6_its (M1 11) x1 (((nI 5) + x2) - (nI 6))) (fun z9 => some (z9, M1)))))

/-! CardLoopsModel.waits(II)I -/
def fX6_waits__60 (M : Rc) (ML : RcL) : Option (Int32 × (Rc)) := some ((-1 : Int32), M)
def fX6_waits_ (M : Rc) (ML : RcL) (x1 : Int32) (x2 : Int32) : Option (Int32 × (Rc)) := nm (va_up M 0 (fun _ => (nI 0))) (fun M1 => bnd (fX6_isIn x1 (nI 0) ((M1 11 1) - (nI 1))) (fun z2 => if z2 = 0 then fX6_waits__60 M1 ML else bnd (fX6_waiting (M1 11) x1) (fun z3 => bnd (fX6_isIn x2 (nI 0) (z3 - (nI 1))) (fun z4 => if z4 = 0 then fX6_waits__60 M1 ML else gdi ((((nI 107) + ((nI 41) * x1)) + (nI 1)) + ((nI 2) * x2)) 353 (some ((M1 11 ((((nI 107) + ((nI 41) * x1)) + (nI 1)) + ((nI 2) * x2)).toNatClampNeg), M1))))))

/-! CardLoopsModel.loop(II)I -/
def fX6_loop_38 (M : Rc) (ML : RcL) : Option (Int32 × (Rc)) := some ((-1 : Int32), M)
def fX6_loop (M : Rc) (ML : RcL) (x1 : Int32) (x2 : Int32) : Option (Int32 × (Rc)) := nm (va_up M 0 (fun _ => (nI 0))) (fun M1 => bnd (fX6_isLoop M1 ML x1) (fun z2 => if z2 = 0 then fX6_loop_38 M1 ML else bnd (fX6_isIn x2 (nI 0) (nI 3)) (fun z3 => if z3 = 0 then fX6_loop_38 M1 ML else gdi (((nI 15) + ((nI 4) * x1)) + x2) 353 (some ((M1 11 (((nI 15) + ((nI 4) * x1)) + x2).toNatClampNeg), M1)))))

/-! CardLoopsModel.next(I)I -/
def fX6_next_42 (N : Nat) (M : Rc) (ML : RcL) : Option (Int32 × (Rc)) := some ((-1 : Int32), M)
def fX6_next (N : Nat) (M : Rc) (ML : RcL) (x1 : Int32) : Option (Int32 × (Rc)) := nm (va_up M 0 (fun _ => (nI 0))) (fun M1 => bnd (fX6_isThere M1 ML) (fun z2 => if z2 = 0 then fX6_next_42 N M1 ML else bnd (fX6_isIn x1 (nI 0) (nI 999)) (fun z3 => if z3 = 0 then fX6_next_42 N M1 ML else bnd (fX6_kindOf N (M1 11) ((M1 11 50) + x1)) (fun z4 => some (z4, M1)))))

/-! CardLoopsModel.when(II)I -/
def fX6_when_47b (N : Nat) (k47 : Rc → RcL → Int32 → Int32 → Option (Int32 × (Rc))) (M : Rc) (ML : RcL) (x1 : Int32) (x2 : Int32) : Option (Int32 × (Rc)) := if ((M 11 49) + x1) ≤ (M 13 49) then if x2 = 0 then some ((M 13 48), M) else some ((M 13 51), M) else bnd (fX6_steps N (M 13)) (fun z1 => nm (va_up M 13 z1.2) (fun M2 => k47 M2 ML x1 x2))
def fX6_when_47 (N : Nat) : Rc → RcL → Int32 → Int32 → Option (Int32 × (Rc)) := itn (fX6_when_47b N) (fun _ _ _ _ => none) N
def fX6_when_32 (N : Nat) (M : Rc) (ML : RcL) : Option (Int32 × (Rc)) := some ((-1 : Int32), M)
def fX6_when (N : Nat) (M : Rc) (ML : RcL) (x1 : Int32) (x2 : Int32) : Option (Int32 × (Rc)) := nm (va_up M 0 (fun _ => (nI 0))) (fun M1 => bnd (fX6_isThere M1 ML) (fun z2 => if z2 = 0 then fX6_when_32 N M1 ML else bnd (fX6_isIn x1 (nI 1) (nI 200)) (fun z3 => if z3 = 0 then fX6_when_32 N M1 ML else bnd (fX6_isIn x2 (nI 0) (nI 1)) (fun z4 => if z4 = 0 then fX6_when_32 N M1 ML else bnd (fX6_copy 353 353 N (M1 11) (M1 13) (nI 0) (nI 0)) (fun z5 => nm (va_up M1 13 z5) (fun M6 => fX6_when_47 N M6 ML x1 x2))))))

/-! CardLoopsModel.lays(II)V -/
def fX6_lays_ (M : Rc) (ML : RcL) (x1 : Int32) (x2 : Int32) : Option (Rc) := gdi (x1 + (M 21 0)) 87000 (nm (va_up M 16 (upd (M 16) ((x1 + (M 21 0)).toNatClampNeg) x2)) (fun M1 => nm (va_up M1 21 (fun _ => ((M1 21 0) + (nI 1)))) (fun M2 => some M2)))

/-! CardLoopsModel.meets([II)V -/
def fX6_meets_263b (N : Nat) (k263 : Rc → RcL → Int32 → Int32 → Int64 → Int32 → Option (Rc × RcL)) (M : Rc) (ML : RcL) (x2 : Int32) (x3 : Int32) (x4 : Int64) (x6 : Int32) : Option (Rc × RcL) := if (nI 58) ≤ x6 then gdi x2 1500 (nm (va_up ML 18 (vp_updL (ML 18) (x2.toNatClampNeg) x4)) (fun ML1 => gdi x2 1500 (nm (va_up M 17 (upd (M 17) (x2.toNatClampNeg) (M 13 48))) (fun M2 => some (M2, ML1))))) else gdi (x3 + x6) 87000 (nm (((31 : Int64) * x4) + (M 16 (x3 + x6).toNatClampNeg).toInt64) (fun v3 => nm (x6 + (nI 1)) (fun v4 => k263 M ML x2 x3 v3 v4)))
def fX6_meets_263 (N : Nat) : Rc → RcL → Int32 → Int32 → Int64 → Int32 → Option (Rc × RcL) := itn (fX6_meets_263b N) (fun _ _ _ _ _ _ => none) N
def fX6_meets_237b (N : Nat) (k237 : Rc → RcL → Int32 → Int32 → Option (Rc × RcL)) (M : Rc) (ML : RcL) (x2 : Int32) (x3 : Int32) : Option (Rc × RcL) := if (nI 58) ≤ (M 21 0) then nm (7 : Int64) (fun v1 => nm (nI 0) (fun v2 => fX6_meets_263 N M ML x2 x3 v1 v2)) else bnd (fX6_lays_ M ML x3 (nI 0)) (fun z3 => k237 z3 ML x2 x3)
def fX6_meets_237 (N : Nat) : Rc → RcL → Int32 → Int32 → Option (Rc × RcL) := itn (fX6_meets_237b N) (fun _ _ _ _ => none) N
def fX6_meets_234 (N : Nat) (M : Rc) (ML : RcL) (x2 : Int32) (x3 : Int32) (y1 : Int32) (y2 : Int32) : Option (Rc × RcL) := bnd (fX6_lays_ M ML y1 y2) (fun z1 => fX6_meets_237 N z1 ML x2 x3)
def fX6_meets_181b (N : Nat) (k181 : Rc → RcL → Int32 → Int32 → Int32 → Option (Rc × RcL)) (M : Rc) (ML : RcL) (x2 : Int32) (x3 : Int32) (x4 : Int32) : Option (Rc × RcL) := if (M 13 14) ≤ x4 then if (M 13 35) = 0 then fX6_meets_234 N M ML x2 x3 x3 (nI 0) else bnd (fX6_perRound N (M 13)) (fun z1 => gdz z1 (fX6_meets_234 N M ML x2 x3 x3 ((M 13 50) - (M 13 50) / z1 * z1))) else gdi (((nI 15) + ((nI 4) * x4)) + (nI 3)) 353 (bnd (fX6_lays_ M ML x3 (M 13 (((nI 15) + ((nI 4) * x4)) + (nI 3)).toNatClampNeg)) (fun z2 => nm (x4 + (nI 1)) (fun v3 => k181 z2 ML x2 x3 v3)))
def fX6_meets_181 (N : Nat) : Rc → RcL → Int32 → Int32 → Int32 → Option (Rc × RcL) := itn (fX6_meets_181b N) (fun _ _ _ _ _ => none) N
def fX6_meets_133b (N : Nat) (k13 : Rc → RcL → Int32 → Int32 → Int32 → Option (Rc × RcL)) (k133 : Rc → RcL → Int32 → Int32 → Int32 → Int32 → Option (Rc × RcL)) (M : Rc) (ML : RcL) (x2 : Int32) (x3 : Int32) (x4 : Int32) (x6 : Int32) : Option (Rc × RcL) := bnd (fX6_waiting (M 13) x4) (fun z1 => if z1 ≤ x6 then nm (x4 + (nI 1)) (fun v2 => k13 M ML x2 x3 v2) else gdi ((((nI 107) + ((nI 41) * x4)) + (nI 1)) + ((nI 2) * x6)) 353 (bnd (fX6_lays_ M ML x3 (M 13 ((((nI 107) + ((nI 41) * x4)) + (nI 1)) + ((nI 2) * x6)).toNatClampNeg)) (fun z3 => nm (x6 + (nI 1)) (fun v4 => k133 z3 ML x2 x3 x4 v4))))
def fX6_meets_133 (N : Nat) (k13 : Rc → RcL → Int32 → Int32 → Int32 → Option (Rc × RcL)) : Rc → RcL → Int32 → Int32 → Int32 → Int32 → Option (Rc × RcL) := itn (fX6_meets_133b N k13) (fun _ _ _ _ _ _ => none) N
def fX6_meets_92 (N : Nat) (k13 : Rc → RcL → Int32 → Int32 → Int32 → Option (Rc × RcL)) (M : Rc) (ML : RcL) (x2 : Int32) (x3 : Int32) (x4 : Int32) (y1 : Int32) (y2 : Int32) : Option (Rc × RcL) := bnd (fX6_lays_ M ML y1 y2) (fun z1 => bnd (fX6_its (z1 13) x4 (nI 0)) (fun z2 => bnd (fX6_lays_ z1 ML x3 z2) (fun z3 => bnd (fX6_its (z3 13) x4 (nI 1)) (fun z4 => bnd (fX6_lays_ z3 ML x3 z4) (fun z5 => bnd (fX6_waiting (z5 13) x4) (fun z6 => bnd (fX6_lays_ z5 ML x3 z6) (fun z7 => nm (nI 0) (fun v8 => fX6_meets_133 N k13 z7 ML x2 x3 x4 v8))))))))
def fX6_meets_76 (N : Nat) (k13 : Rc → RcL → Int32 → Int32 → Int32 → Option (Rc × RcL)) (M : Rc) (ML : RcL) (x2 : Int32) (x3 : Int32) (x4 : Int32) (y1 : Int32) : Option (Rc × RcL) := fX6_meets_92 N k13 M ML x2 x3 x4 y1 (nI 0)
def fX6_meets_52 (N : Nat) (k13 : Rc → RcL → Int32 → Int32 → Int32 → Option (Rc × RcL)) (M : Rc) (ML : RcL) (x2 : Int32) (x3 : Int32) (x4 : Int32) (x5 : Int32) (y1 : Int32) (y2 : Int32) : Option (Rc × RcL) := bnd (fX6_lays_ M ML y1 y2) (fun z1 => if x5 = 0 then bnd (fX6_its (z1 13) x4 (nI 2)) (fun z2 => if (z1 13 48) ≤ z2 then bnd (fX6_its (z1 13) x4 (nI 2)) (fun z3 => fX6_meets_92 N k13 z1 ML x2 x3 x4 x3 (z3 - (z1 13 48))) else fX6_meets_76 N k13 z1 ML x2 x3 x4 x3) else fX6_meets_76 N k13 z1 ML x2 x3 x4 x3)
def fX6_meets_13b (N : Nat) (k13 : Rc → RcL → Int32 → Int32 → Int32 → Option (Rc × RcL)) (M : Rc) (ML : RcL) (x2 : Int32) (x3 : Int32) (x4 : Int32) : Option (Rc × RcL) := if (M 13 1) ≤ x4 then nm (nI 0) (fun v1 => fX6_meets_181 N M ML x2 x3 v1) else bnd (fX6_isIdle (M 13) x4) (fun z2 => nm z2 (fun v3 => if v3 = 0 then bnd (fX6_its (M 13) x4 (nI 3)) (fun z4 => fX6_meets_52 N k13 M ML x2 x3 x4 v3 x3 (z4 - (M 13 48))) else fX6_meets_52 N k13 M ML x2 x3 x4 v3 x3 (-1 : Int32)))
def fX6_meets_13 (N : Nat) : Rc → RcL → Int32 → Int32 → Int32 → Option (Rc × RcL) := itn (fX6_meets_13b N) (fun _ _ _ _ _ => none) N
def fX6_meets (N : Nat) (M : Rc) (ML : RcL) (x2 : Int32) : Option (Rc × RcL) := nm ((nI 58) * x2) (fun v1 => nm (va_up M 21 (fun _ => (nI 0))) (fun M2 => nm (nI 0) (fun v3 => fX6_meets_13 N M2 ML x2 v1 v3)))

/-! CardLoopsModel.isMet(II)Z -/
def fX6_isMet_20b (N : Nat) (k20 : Rc → RcL → Int32 → Int32 → Int32 → Option (Int32)) (M : Rc) (ML : RcL) (x1 : Int32) (x2 : Int32) (x3 : Int32) : Option (Int32) := if (nI 58) ≤ x3 then some (nI 1) else gdi (((nI 58) * x1) + x3) 87000 (gdi (((nI 58) * x2) + x3) 87000 (if (M 16 (((nI 58) * x1) + x3).toNatClampNeg) = (M 16 (((nI 58) * x2) + x3).toNatClampNeg) then nm (x3 + (nI 1)) (fun v1 => k20 M ML x1 x2 v1) else some (nI 0)))
def fX6_isMet_20 (N : Nat) : Rc → RcL → Int32 → Int32 → Int32 → Option (Int32) := itn (fX6_isMet_20b N) (fun _ _ _ _ _ => none) N
def fX6_isMet (N : Nat) (M : Rc) (ML : RcL) (x1 : Int32) (x2 : Int32) : Option (Int32) := gdi x1 1500 (gdi x2 1500 (if (lg_cmp (ML 18 x1.toNatClampNeg) (ML 18 x2.toNatClampNeg)) = 0 then nm (nI 0) (fun v1 => fX6_isMet_20 N M ML x1 x2 v1) else some (nI 0)))

/-! CardLoopsModel.laysPace()Z -/
def fX6_laysPace_51b (N : Nat) (k9 : Rc → RcL → Int32 → Option (Int32 × (Rc × RcL))) (k51 : Rc → RcL → Int32 → Int32 → Option (Int32 × (Rc × RcL))) (M : Rc) (ML : RcL) (x1 : Int32) (x2 : Int32) : Option (Int32 × (Rc × RcL)) := if x2 < 0 then nm (x1 + (nI 1)) (fun v1 => k9 M ML v1) else bnd (fX6_isMet N M ML x2 x1) (fun z2 => if z2 = 0 then nm (x2 + (-1 : Int32)) (fun v7 => k51 M ML x1 v7) else gdi x1 1500 (gdi x2 1500 (bnd (fX6_divisor (x1 - x2) ((M 17 x1.toNatClampNeg) - (M 17 x2.toNatClampNeg))) (fun z3 => nm z3 (fun v4 => gdz v4 (nm (va_up M 19 (fun _ => ((x1 - x2) / v4))) (fun M5 => gdi x1 1500 (gdi x2 1500 (gdz v4 (nm (va_up M5 20 (fun _ => (((M5 17 x1.toNatClampNeg) - (M5 17 x2.toNatClampNeg)) / v4))) (fun M6 => some ((nI 1), (M6, ML)))))))))))))
def fX6_laysPace_51 (N : Nat) (k9 : Rc → RcL → Int32 → Option (Int32 × (Rc × RcL))) : Rc → RcL → Int32 → Int32 → Option (Int32 × (Rc × RcL)) := itn (fX6_laysPace_51b N k9) (fun _ _ _ _ => none) N
def fX6_laysPace_16b (N : Nat) (k9 : Rc → RcL → Int32 → Option (Int32 × (Rc × RcL))) (k16 : Rc → RcL → Int32 → Option (Int32 × (Rc × RcL))) (M : Rc) (ML : RcL) (x1 : Int32) : Option (Int32 × (Rc × RcL)) := if x1 < (M 13 49) then bnd (fX6_meets N M ML x1) (fun z1 => nm (x1 - (nI 1)) (fun v2 => fX6_laysPace_51 N k9 z1.1 z1.2 x1 v2)) else bnd (fX6_steps N (M 13)) (fun z3 => nm (va_up M 13 z3.2) (fun M4 => k16 M4 ML x1))
def fX6_laysPace_16 (N : Nat) (k9 : Rc → RcL → Int32 → Option (Int32 × (Rc × RcL))) : Rc → RcL → Int32 → Option (Int32 × (Rc × RcL)) := itn (fX6_laysPace_16b N k9) (fun _ _ _ => none) N
def fX6_laysPace_9b (N : Nat) (k9 : Rc → RcL → Int32 → Option (Int32 × (Rc × RcL))) (M : Rc) (ML : RcL) (x1 : Int32) : Option (Int32 × (Rc × RcL)) := if (nI 1500) ≤ x1 then some ((nI 0), (M, ML)) else fX6_laysPace_16 N k9 M ML x1
def fX6_laysPace_9 (N : Nat) : Rc → RcL → Int32 → Option (Int32 × (Rc × RcL)) := itn (fX6_laysPace_9b N) (fun _ _ _ => none) N
def fX6_laysPace (N : Nat) (M : Rc) (ML : RcL) : Option (Int32 × (Rc × RcL)) := bnd (fX6_begins N (M 13)) (fun z1 => nm (va_up M 13 z1) (fun M2 => nm (nI 0) (fun v3 => fX6_laysPace_9 N M2 ML v3)))

/-! CardLoopsModel.pace(I)I -/
def fX6_pace_21 (N : Nat) (M : Rc) (ML : RcL) : Option (Int32 × (Rc × RcL)) := some ((-1 : Int32), (M, ML))
def fX6_pace (N : Nat) (M : Rc) (ML : RcL) (x1 : Int32) : Option (Int32 × (Rc × RcL)) := nm (va_up M 0 (fun _ => (nI 0))) (fun M1 => bnd (fX6_isThere M1 ML) (fun z2 => if z2 = 0 then fX6_pace_21 N M1 ML else bnd (fX6_isIn x1 (nI 0) (nI 1)) (fun z3 => if z3 = 0 then fX6_pace_21 N M1 ML else bnd (fX6_copy 353 353 N (M1 11) (M1 13) (nI 0) (nI 0)) (fun z4 => nm (va_up M1 13 z4) (fun M5 => bnd (fX6_laysPace N M5 ML) (fun z6 => if z6.1 = 0 then some ((-1 : Int32), (z6.2.1, z6.2.2)) else if x1 = 0 then some ((z6.2.1 19 0), (z6.2.1, z6.2.2)) else some ((z6.2.1 20 0), (z6.2.1, z6.2.2))))))))

/-! CardLoopsModel.ringOf(I)I -/
def fX6_ringOf_14b (N : Nat) (k14 : Rc → RcL → Int32 → Int32 → Int32 → Option (Int32)) (M : Rc) (ML : RcL) (x1 : Int32) (x2 : Int32) (x3 : Int32) : Option (Int32) := gdi (((nI 15) + ((nI 4) * x1)) + (nI 1)) 353 (if (M 11 (((nI 15) + ((nI 4) * x1)) + (nI 1)).toNatClampNeg) < x3 then some x2 else gdi ((nI 2) + x3) 353 (nm (x2 + (M 11 ((nI 2) + x3).toNatClampNeg)) (fun v1 => nm (x3 + (nI 1)) (fun v2 => k14 M ML x1 v1 v2))))
def fX6_ringOf_14 (N : Nat) : Rc → RcL → Int32 → Int32 → Int32 → Option (Int32) := itn (fX6_ringOf_14b N) (fun _ _ _ _ _ => none) N
def fX6_ringOf (N : Nat) (M : Rc) (ML : RcL) (x1 : Int32) : Option (Int32) := nm (nI 0) (fun v1 => gdi ((nI 15) + ((nI 4) * x1)) 353 (nm (M 11 ((nI 15) + ((nI 4) * x1)).toNatClampNeg) (fun v2 => fX6_ringOf_14 N M ML x1 v1 v2)))

/-! CardLoopsModel.bound(I)I -/
def fX6_bound_185 (N : Nat) (k43 : Rc → RcL → Int32 → Int32 → Int32 → Int32 → Int32 → Option (Int32 × (Rc))) (M : Rc) (ML : RcL) (x1 : Int32) (x2 : Int32) (x3 : Int32) (x4 : Int32) (x5 : Int32) : Option (Int32 × (Rc)) := nm (x5 + (nI 1)) (fun v1 => k43 M ML x1 x2 x3 x4 v1)
def fX6_bound_177 (N : Nat) (k43 : Rc → RcL → Int32 → Int32 → Int32 → Int32 → Int32 → Option (Int32 × (Rc))) (M : Rc) (ML : RcL) (x1 : Int32) (x5 : Int32) (x7 : Int32) (x8 : Int32) (y0 : Int32) : Option (Int32 × (Rc)) := nm y0 (fun v1 => nm x7 (fun v2 => nm x8 (fun v3 => fX6_bound_185 N k43 M ML x1 v1 v2 v3 x5)))
def fX6_bound_137 (N : Nat) (k43 : Rc → RcL → Int32 → Int32 → Int32 → Int32 → Int32 → Option (Int32 × (Rc))) (M : Rc) (ML : RcL) (x1 : Int32) (x2 : Int32) (x3 : Int32) (x4 : Int32) (x5 : Int32) (x6 : Int32) (x7 : Int32) (y0 : Int32) : Option (Int32 × (Rc)) := nm y0 (fun v1 => if (x3 * v1) < (x7 * x4) then if x6 = 0 then fX6_bound_177 N k43 M ML x1 x5 x7 v1 (((nI 100) + x5) - (M 11 14)) else fX6_bound_177 N k43 M ML x1 x5 x7 v1 x5 else fX6_bound_185 N k43 M ML x1 x2 x3 x4 x5)
def fX6_bound_112 (N : Nat) (k43 : Rc → RcL → Int32 → Int32 → Int32 → Int32 → Int32 → Option (Int32 × (Rc))) (M : Rc) (ML : RcL) (x1 : Int32) (x2 : Int32) (x3 : Int32) (x4 : Int32) (x5 : Int32) (x6 : Int32) (y0 : Int32) : Option (Int32 × (Rc)) := nm y0 (fun v1 => if x6 = 0 then fX6_bound_137 N k43 M ML x1 x2 x3 x4 x5 x6 v1 (nI 1) else gdi (((nI 15) + ((nI 4) * x5)) + (nI 2)) 353 (fX6_bound_137 N k43 M ML x1 x2 x3 x4 x5 x6 v1 (M 11 (((nI 15) + ((nI 4) * x5)) + (nI 2)).toNatClampNeg)))
def fX6_bound_79 (N : Nat) (k43 : Rc → RcL → Int32 → Int32 → Int32 → Int32 → Int32 → Option (Int32 × (Rc))) (M : Rc) (ML : RcL) (x1 : Int32) (x2 : Int32) (x3 : Int32) (x4 : Int32) (x5 : Int32) (y0 : Int32) : Option (Int32 × (Rc)) := nm y0 (fun v1 => if v1 = 0 then gdi (((nI 2) + x5) - (M 11 14)) 353 (fX6_bound_112 N k43 M ML x1 x2 x3 x4 x5 v1 (M 11 (((nI 2) + x5) - (M 11 14)).toNatClampNeg)) else bnd (fX6_ringOf N M ML x5) (fun z2 => fX6_bound_112 N k43 M ML x1 x2 x3 x4 x5 v1 z2))
def fX6_bound_43b (N : Nat) (k43 : Rc → RcL → Int32 → Int32 → Int32 → Int32 → Int32 → Option (Int32 × (Rc))) (M : Rc) (ML : RcL) (x1 : Int32) (x2 : Int32) (x3 : Int32) (x4 : Int32) (x5 : Int32) : Option (Int32 × (Rc)) := if ((M 11 14) + (M 11 1)) ≤ x5 then bnd (fX6_divisor x4 x3) (fun z1 => nm z1 (fun v2 => if x1 = 0 then gdz v2 (some ((x4 / v2), M)) else if x1 = (nI 1) then gdz v2 (some ((x3 / v2), M)) else some (x2, M))) else if (M 11 14) ≤ x5 then fX6_bound_79 N k43 M ML x1 x2 x3 x4 x5 (nI 0) else fX6_bound_79 N k43 M ML x1 x2 x3 x4 x5 (nI 1)
def fX6_bound_43 (N : Nat) : Rc → RcL → Int32 → Int32 → Int32 → Int32 → Int32 → Option (Int32 × (Rc)) := itn (fX6_bound_43b N) (fun _ _ _ _ _ _ _ => none) N
def fX6_bound_21 (N : Nat) (M : Rc) (ML : RcL) : Option (Int32 × (Rc)) := some ((-1 : Int32), M)
def fX6_bound (N : Nat) (M : Rc) (ML : RcL) (x1 : Int32) : Option (Int32 × (Rc)) := nm (va_up M 0 (fun _ => (nI 0))) (fun M1 => bnd (fX6_isThere M1 ML) (fun z2 => if z2 = 0 then fX6_bound_21 N M1 ML else bnd (fX6_isIn x1 (nI 0) (nI 2)) (fun z3 => if z3 = 0 then fX6_bound_21 N M1 ML else nm (nI 0) (fun v4 => bnd (fX6_ringOf N M1 ML (nI 0)) (fun z5 => nm z5 (fun v6 => nm (M1 11 17) (fun v7 => nm (nI 1) (fun v8 => fX6_bound_43 N M1 ML x1 v4 v6 v7 v8))))))))

/-! CardLoopsModel.needs(III)I -/
def fX6_needs_38b (N : Nat) (k38 : Rc → RcL → Int32 → Int32 → Int32 → Int32 → Option (Int32 × (Rc))) (M : Rc) (ML : RcL) (x1 : Int32) (x2 : Int32) (x3 : Int32) (x4 : Int32) : Option (Int32 × (Rc)) := bnd (fX6_ringOf N M ML x1) (fun z1 => if (x2 * z1) ≤ (x4 * x3) then some (x4, M) else nm (x4 + (nI 1)) (fun v2 => k38 M ML x1 x2 x3 v2))
def fX6_needs_38 (N : Nat) : Rc → RcL → Int32 → Int32 → Int32 → Int32 → Option (Int32 × (Rc)) := itn (fX6_needs_38b N) (fun _ _ _ _ _ _ => none) N
def fX6_needs_33 (N : Nat) (M : Rc) (ML : RcL) : Option (Int32 × (Rc)) := some ((-1 : Int32), M)
def fX6_needs (N : Nat) (M : Rc) (ML : RcL) (x1 : Int32) (x2 : Int32) (x3 : Int32) : Option (Int32 × (Rc)) := nm (va_up M 0 (fun _ => (nI 0))) (fun M1 => bnd (fX6_isLoop M1 ML x1) (fun z2 => if z2 = 0 then fX6_needs_33 N M1 ML else bnd (fX6_isIn x2 (nI 1) (nI 99)) (fun z3 => if z3 = 0 then fX6_needs_33 N M1 ML else bnd (fX6_isIn x3 (nI 1) (nI 99)) (fun z4 => if z4 = 0 then fX6_needs_33 N M1 ML else nm (nI 1) (fun v5 => fX6_needs_38 N M1 ML x1 x2 x3 v5)))))

/-! CardLoopsModel.least(III)I -/
def fX6_least_98 (N : Nat) (k38 : Rc → RcL → Int32 → Int32 → Int32 → Int32 → Option (Int32 × (Rc × RcL))) (M : Rc) (ML : RcL) (x1 : Int32) (x2 : Int32) (x3 : Int32) (x4 : Int32) : Option (Int32 × (Rc × RcL)) := nm (x4 + (nI 1)) (fun v1 => k38 M ML x1 x2 x3 v1)
def fX6_least_38b (N : Nat) (k38 : Rc → RcL → Int32 → Int32 → Int32 → Int32 → Option (Int32 × (Rc × RcL))) (M : Rc) (ML : RcL) (x1 : Int32) (x2 : Int32) (x3 : Int32) (x4 : Int32) : Option (Int32 × (Rc × RcL)) := if (nI 20) < x4 then some ((-2 : Int32), (M, ML)) else bnd (fX6_copy 353 353 N (M 11) (M 13) (nI 0) (nI 0)) (fun z1 => nm (va_up M 13 z1) (fun M2 => gdi (((nI 15) + ((nI 4) * x1)) + (nI 2)) 353 (nm (va_up M2 13 (upd (M2 13) ((((nI 15) + ((nI 4) * x1)) + (nI 2)).toNatClampNeg) x4)) (fun M3 => bnd (fX6_laysPace N M3 ML) (fun z4 => if z4.1 = 0 then fX6_least_98 N k38 z4.2.1 z4.2.2 x1 x2 x3 x4 else if ((z4.2.1 19 0) * x3) < (x2 * (z4.2.1 20 0)) then fX6_least_98 N k38 z4.2.1 z4.2.2 x1 x2 x3 x4 else some (x4, (z4.2.1, z4.2.2)))))))
def fX6_least_38 (N : Nat) : Rc → RcL → Int32 → Int32 → Int32 → Int32 → Option (Int32 × (Rc × RcL)) := itn (fX6_least_38b N) (fun _ _ _ _ _ _ => none) N
def fX6_least_33 (N : Nat) (M : Rc) (ML : RcL) : Option (Int32 × (Rc × RcL)) := some ((-1 : Int32), (M, ML))
def fX6_least (N : Nat) (M : Rc) (ML : RcL) (x1 : Int32) (x2 : Int32) (x3 : Int32) : Option (Int32 × (Rc × RcL)) := nm (va_up M 0 (fun _ => (nI 0))) (fun M1 => bnd (fX6_isLoop M1 ML x1) (fun z2 => if z2 = 0 then fX6_least_33 N M1 ML else bnd (fX6_isIn x2 (nI 1) (nI 99)) (fun z3 => if z3 = 0 then fX6_least_33 N M1 ML else bnd (fX6_isIn x3 (nI 1) (nI 99)) (fun z4 => if z4 = 0 then fX6_least_33 N M1 ML else nm (nI 1) (fun v5 => fX6_least_38 N M1 ML x1 x2 x3 v5)))))

/-! CardLoopsModel.laysLonger(I)Z -/
def fX6_laysLonger_15b (N : Nat) (k15 : Rc → RcL → Int32 → Int32 → Option (Int32 × (Rc × RcL))) (M : Rc) (ML : RcL) (x1 : Int32) (x2 : Int32) : Option (Int32 × (Rc × RcL)) := if (M 13 35) ≤ x2 then bnd (fX6_laysPace N M ML) (fun z1 => gdb z1.1 (some (z1.1, (z1.2.1, z1.2.2)))) else gdi (((nI 36) + ((nI 2) * x2)) + (nI 1)) 353 (gdi (((nI 36) + ((nI 2) * x2)) + (nI 1)) 353 (nm (va_up M 13 (upd (M 13) ((((nI 36) + ((nI 2) * x2)) + (nI 1)).toNatClampNeg) ((M 13 (((nI 36) + ((nI 2) * x2)) + (nI 1)).toNatClampNeg) * x1))) (fun M2 => nm (x2 + (nI 1)) (fun v3 => k15 M2 ML x1 v3))))
def fX6_laysLonger_15 (N : Nat) : Rc → RcL → Int32 → Int32 → Option (Int32 × (Rc × RcL)) := itn (fX6_laysLonger_15b N) (fun _ _ _ _ => none) N
def fX6_laysLonger (N : Nat) (M : Rc) (ML : RcL) (x1 : Int32) : Option (Int32 × (Rc × RcL)) := bnd (fX6_copy 353 353 N (M 11) (M 13) (nI 0) (nI 0)) (fun z1 => nm (va_up M 13 z1) (fun M2 => nm (nI 0) (fun v3 => fX6_laysLonger_15 N M2 ML x1 v3)))

/-! CardLoopsModel.longer(II)I -/
def fX6_longer_38 (N : Nat) (M : Rc) (ML : RcL) : Option (Int32 × (Rc × RcL)) := some ((-1 : Int32), (M, ML))
def fX6_longer (N : Nat) (M : Rc) (ML : RcL) (x1 : Int32) (x2 : Int32) : Option (Int32 × (Rc × RcL)) := nm (va_up M 0 (fun _ => (nI 0))) (fun M1 => bnd (fX6_isThere M1 ML) (fun z2 => if z2 = 0 then fX6_longer_38 N M1 ML else bnd (fX6_isIn x1 (nI 1) (nI 5)) (fun z3 => if z3 = 0 then fX6_longer_38 N M1 ML else bnd (fX6_isIn x2 (nI 0) (nI 1)) (fun z4 => if z4 = 0 then fX6_longer_38 N M1 ML else bnd (fX6_laysLonger N M1 ML x1) (fun z5 => if z5.1 = 0 then fX6_longer_38 N z5.2.1 z5.2.2 else if x2 = 0 then some ((z5.2.1 19 0), (z5.2.1, z5.2.2)) else some ((z5.2.1 20 0), (z5.2.1, z5.2.2)))))))

/-! CardLoopsModel.longest()I -/
def fX6_longest_74 (N : Nat) (k23 : Rc → RcL → Int32 → Int32 → Int32 → Int32 → Option (Int32 × (Rc × RcL))) (M : Rc) (ML : RcL) (x1 : Int32) (x2 : Int32) (x3 : Int32) (x4 : Int32) : Option (Int32 × (Rc × RcL)) := nm (x4 + (nI 1)) (fun v1 => k23 M ML x1 x2 x3 v1)
def fX6_longest_23b (N : Nat) (k23 : Rc → RcL → Int32 → Int32 → Int32 → Int32 → Option (Int32 × (Rc × RcL))) (M : Rc) (ML : RcL) (x1 : Int32) (x2 : Int32) (x3 : Int32) (x4 : Int32) : Option (Int32 × (Rc × RcL)) := if (nI 5) < x4 then some (x1, (M, ML)) else bnd (fX6_laysLonger N M ML x4) (fun z1 => if z1.1 = 0 then fX6_longest_74 N k23 z1.2.1 z1.2.2 x1 x2 x3 x4 else if 0 < (lg_cmp ((z1.2.1 19 0).toInt64 * x3.toInt64) (x2.toInt64 * (z1.2.1 20 0).toInt64)) then nm x4 (fun v2 => nm (z1.2.1 19 0) (fun v3 => nm (z1.2.1 20 0) (fun v4 => fX6_longest_74 N k23 z1.2.1 z1.2.2 v2 v3 v4 x4))) else fX6_longest_74 N k23 z1.2.1 z1.2.2 x1 x2 x3 x4)
def fX6_longest_23 (N : Nat) : Rc → RcL → Int32 → Int32 → Int32 → Int32 → Option (Int32 × (Rc × RcL)) := itn (fX6_longest_23b N) (fun _ _ _ _ _ _ => none) N
def fX6_longest (N : Nat) (M : Rc) (ML : RcL) : Option (Int32 × (Rc × RcL)) := nm (va_up M 0 (fun _ => (nI 0))) (fun M1 => bnd (fX6_isThere M1 ML) (fun z2 => if z2 = 0 then some ((-1 : Int32), (M1, ML)) else nm (-1 : Int32) (fun v3 => nm (nI 0) (fun v4 => nm (nI 1) (fun v5 => nm (nI 1) (fun v6 => fX6_longest_23 N M1 ML v3 v4 v5 v6))))))

/-! CardLoopsModel.snap()V -/
def fX6_snap_50 (N : Nat) (M : Rc) (ML : RcL) : Option (Rc) := bnd (fX6_copy 353 2824 N (M 11) (M 14) (nI 0) ((nI 353) * (M 15 0))) (fun z1 => nm (va_up M 14 z1) (fun M2 => nm (va_up M2 15 (fun _ => ((M2 15 0) + (nI 1)))) (fun M3 => some M3)))
def fX6_snap_11b (N : Nat) (k11 : Rc → RcL → Int32 → Option (Rc)) (M : Rc) (ML : RcL) (x1 : Int32) : Option (Rc) := if (nI 2471) ≤ x1 then nm (va_up M 15 (fun _ => ((M 15 0) - (nI 1)))) (fun M1 => fX6_snap_50 N M1 ML) else gdi (x1 + (nI 353)) 2824 (gdi x1 2824 (nm (va_up M 14 (upd (M 14) (x1.toNatClampNeg) (M 14 (x1 + (nI 353)).toNatClampNeg))) (fun M2 => nm (x1 + (nI 1)) (fun v3 => k11 M2 ML v3))))
def fX6_snap_11 (N : Nat) : Rc → RcL → Int32 → Option (Rc) := itn (fX6_snap_11b N) (fun _ _ _ => none) N
def fX6_snap (N : Nat) (M : Rc) (ML : RcL) : Option (Rc) := if (M 15 0) = (nI 8) then nm (nI 0) (fun v1 => fX6_snap_11 N M ML v1) else fX6_snap_50 N M ML

/-! CardLoopsModel.pass(I)I -/
def fX6_pass_55b (N : Nat) (k55 : Rc → RcL → Int32 → Int32 → Option (Int32 × (Rc))) (M : Rc) (ML : RcL) (x2 : Int32) (x3 : Int32) : Option (Int32 × (Rc)) := bnd (fX6_nextTime N (M 11)) (fun z1 => if x2 < z1 then bnd (fX6_waits N (M 11) (x2 - (M 11 48))) (fun z2 => nm (va_up M 11 z2) (fun M3 => some (x3, M3))) else bnd (fX6_steps N (M 11)) (fun z4 => nm (va_up M 11 z4.2) (fun M5 => nm (x3 + z4.1) (fun v6 => k55 M5 ML x2 v6))))
def fX6_pass_55 (N : Nat) : Rc → RcL → Int32 → Int32 → Option (Int32 × (Rc)) := itn (fX6_pass_55b N) (fun _ _ _ _ => none) N
def fX6_pass_37 (N : Nat) (M : Rc) (ML : RcL) : Option (Int32 × (Rc)) := some ((-1 : Int32), M)
def fX6_pass (N : Nat) (M : Rc) (ML : RcL) (x1 : Int32) : Option (Int32 × (Rc)) := nm (va_up M 0 (fun _ => (nI 0))) (fun M1 => bnd (fX6_isThere M1 ML) (fun z2 => if z2 = 0 then fX6_pass_37 N M1 ML else bnd (fX6_isIn x1 (nI 1) (nI 999)) (fun z3 => if z3 = 0 then fX6_pass_37 N M1 ML else if ((M1 11 48) + x1) ≤ (nI 99999) then bnd (fX6_snap N M1 ML) (fun z4 => nm ((z4 11 48) + x1) (fun v5 => nm (nI 0) (fun v6 => fX6_pass_55 N z4 ML v5 v6))) else fX6_pass_37 N M1 ML)))

/-! CardLoopsModel.step()I -/
def fX6_step_24 (N : Nat) (M : Rc) (ML : RcL) : Option (Int32 × (Rc)) := some ((-1 : Int32), M)
def fX6_step (N : Nat) (M : Rc) (ML : RcL) : Option (Int32 × (Rc)) := nm (va_up M 0 (fun _ => (nI 0))) (fun M1 => bnd (fX6_isThere M1 ML) (fun z2 => if z2 = 0 then fX6_step_24 N M1 ML else bnd (fX6_nextTime N (M1 11)) (fun z3 => if z3 ≤ (nI 99999) then bnd (fX6_snap N M1 ML) (fun z4 => bnd (fX6_steps N (z4 11)) (fun z5 => nm (va_up z4 11 z5.2) (fun M6 => some ((M6 11 48), M6)))) else fX6_step_24 N M1 ML)))

/-! CardLoopsModel.cards(II)I -/
def fX6_cards_112 (N : Nat) (M : Rc) (ML : RcL) (x1 : Int32) : Option (Int32 × (Rc)) := gdi (((nI 15) + ((nI 4) * x1)) + (nI 3)) 353 (some ((M 11 (((nI 15) + ((nI 4) * x1)) + (nI 3)).toNatClampNeg), M))
def fX6_cards_63 (N : Nat) (M : Rc) (ML : RcL) : Option (Int32 × (Rc)) := some ((-1 : Int32), M)
def fX6_cards_23 (N : Nat) (M : Rc) (ML : RcL) : Option (Int32 × (Rc)) := some ((-1 : Int32), M)
def fX6_cards (N : Nat) (M : Rc) (ML : RcL) (x1 : Int32) (x2 : Int32) : Option (Int32 × (Rc)) := nm (va_up M 0 (fun _ => (nI 0))) (fun M1 => bnd (fX6_isLoop M1 ML x1) (fun z2 => if z2 = 0 then fX6_cards_23 N M1 ML else bnd (fX6_isIn x2 (nI 1) (nI 20)) (fun z3 => if z3 = 0 then fX6_cards_23 N M1 ML else gdi (((nI 15) + ((nI 4) * x1)) + (nI 2)) 353 (nm (x2 - (M1 11 (((nI 15) + ((nI 4) * x1)) + (nI 2)).toNatClampNeg)) (fun v4 => if v4 = 0 then fX6_cards_63 N M1 ML else gdi (((nI 15) + ((nI 4) * x1)) + (nI 3)) 353 (if 0 ≤ ((M1 11 (((nI 15) + ((nI 4) * x1)) + (nI 3)).toNatClampNeg) + v4) then bnd (fX6_snap N M1 ML) (fun z5 => gdi (((nI 15) + ((nI 4) * x1)) + (nI 2)) 353 (nm (va_up z5 11 (upd (z5 11) ((((nI 15) + ((nI 4) * x1)) + (nI 2)).toNatClampNeg) x2)) (fun M6 => gdi (((nI 15) + ((nI 4) * x1)) + (nI 3)) 353 (gdi (((nI 15) + ((nI 4) * x1)) + (nI 3)) 353 (nm (va_up M6 11 (upd (M6 11) ((((nI 15) + ((nI 4) * x1)) + (nI 3)).toNatClampNeg) ((M6 11 (((nI 15) + ((nI 4) * x1)) + (nI 3)).toNatClampNeg) + v4))) (fun M7 => if v4 ≤ 0 then fX6_cards_112 N M7 ML x1 else bnd (fX6_rounds N (M7 11)) (fun z8 => nm (va_up M7 11 z8.2) (fun M9 => fX6_cards_112 N M9 ML x1)))))))) else fX6_cards_63 N M1 ML))))))

/-! CardLoopsModel.anew()I -/
def fX6_anew (N : Nat) (M : Rc) (ML : RcL) : Option (Int32 × (Rc)) := nm (va_up M 0 (fun _ => (nI 0))) (fun M1 => bnd (fX6_isThere M1 ML) (fun z2 => if z2 = 0 then some ((-1 : Int32), M1) else bnd (fX6_snap N M1 ML) (fun z3 => bnd (fX6_begins N (z3 11)) (fun z4 => nm (va_up z3 11 z4) (fun M5 => some (((M5 11 50) - (M5 11 49)), M5))))))

/-! CardLoopsModel.undo()I -/
def fX6_undo (N : Nat) (M : Rc) (ML : RcL) : Option (Int32 × (Rc)) := nm (va_up M 0 (fun _ => (nI 0))) (fun M1 => if (M1 15 0) = 0 then some ((-1 : Int32), M1) else nm (va_up M1 15 (fun _ => ((M1 15 0) - (nI 1)))) (fun M2 => bnd (fX6_copy 2824 353 N (M2 14) (M2 11) ((nI 353) * (M2 15 0)) (nI 0)) (fun z3 => nm (va_up M2 11 z3) (fun M4 => some ((M4 15 0), M4)))))

/-! CardLoops.putBytes(I)V -/
def fX5_putBytes_3b (N : Nat) (k3 : Rc → (Nat → Int32) → Int32 → Int32 → Option (Rc × (Nat → Int32))) (X : Rc) (T : Nat → Int32) (x1 : Int32) (x2 : Int32) : Option (Rc × (Nat → Int32)) := if x2 < 0 then some (X, T) else if (nI 440) ≤ (X 1 0) then some (X, T) else gdi (X 1 0) 440 (nm (upd T ((X 1 0).toNatClampNeg) (((x1.toUInt32 >>> (x2.toUInt32 &&& Int32.toUInt32 31)).toInt32) &&& (nI 255))) (fun T1 => nm (va_up X 1 (fun _ => ((X 1 0) + (nI 1)))) (fun X2 => nm (x2 + (-8 : Int32)) (fun v3 => k3 X2 T1 x1 v3))))
def fX5_putBytes_3 (N : Nat) : Rc → (Nat → Int32) → Int32 → Int32 → Option (Rc × (Nat → Int32)) := itn (fX5_putBytes_3b N) (fun _ _ _ _ => none) N
def fX5_putBytes (N : Nat) (X : Rc) (T : Nat → Int32) (x1 : Int32) : Option (Rc × (Nat → Int32)) := nm (nI 24) (fun v1 => fX5_putBytes_3 N X T x1 v1)

/-! CardLoops.feed(IIIII)I -/
def fX5_feed (N : Nat) (X : Rc) (T : Nat → Int32) (x1 : Int32) (x2 : Int32) (x3 : Int32) (x4 : Int32) (x5 : Int32) : Option (Int32 × (Rc × (Nat → Int32))) := if (X 1 0) ≤ (nI 420) then bnd (fX5_putBytes N X T x1) (fun z1 => bnd (fX5_putBytes N z1.1 z1.2 x2) (fun z2 => bnd (fX5_putBytes N z2.1 z2.2 x3) (fun z3 => bnd (fX5_putBytes N z3.1 z3.2 x4) (fun z4 => bnd (fX5_putBytes N z4.1 z4.2 x5) (fun z5 => some ((z5.1 1 0), (z5.1, z5.2))))))) else some ((-1 : Int32), (X, T))

/-! CardLoops.end(I)Z -/
def fX5_end_12 (X : Rc) : Option (Int32 × (Rc)) := some ((nI 0), X)
def fX5_end (X : Rc) (x1 : Int32) : Option (Int32 × (Rc)) := if x1 < 0 then fX5_end_12 X else if x1 ≤ (X 1 0) then nm (va_up X 1 (fun _ => x1)) (fun X1 => some ((nI 1), X1)) else fX5_end_12 X

/-! CardLoops.fault()I -/
def fX5_fault (X : Rc) (R : Rc) : Option (Int32) := some (R 3 0)

/-! CardLoops.isEmpty()Z -/
def fX5_isEmpty (X : Rc) (P : Rc) : Option (Int32) := if (nI 1) ≤ (P 6 0) then some (nI 0) else some (nI 1)

/-! CardLoops.isLoop(I)Z -/
def fX5_isLoop_19 (X : Rc) (P : Rc) : Option (Int32) := some (nI 0)
def fX5_isLoop (X : Rc) (P : Rc) (x1 : Int32) : Option (Int32) := if x1 < 0 then fX5_isLoop_19 X P else if (P 7 0) ≤ x1 then fX5_isLoop_19 X P else some (nI 1)

/-! CardLoops.isPromise(II)Z -/
def fX5_isPromise_26 : Option (Int32) := some (nI 0)
def fX5_isPromise (x0 : Int32) (x1 : Int32) : Option (Int32) := if x0 < (nI 1) then fX5_isPromise_26 else if (nI 99) < x0 then fX5_isPromise_26 else if x1 < (nI 1) then fX5_isPromise_26 else if (nI 99) < x1 then fX5_isPromise_26 else some (nI 1)

/-! CardLoops.now(I)I -/
def fX5_now (X : Rc) (P : Rc) (L : Rc) (Y : Rc) (x1 : Int32) : Option (Int32) := if x1 = (nI 0) then some (P 6 0) else if x1 = (nI 1) then some (P 7 0) else if x1 = (nI 2) then some (P 8 0) else if x1 = (nI 3) then some (L 8 0) else if x1 = (nI 4) then bnd (fX1_out P L) (fun z1 => some z1) else if x1 = (nI 5) then bnd (fX1_onTheirWay P L) (fun z2 => some z2) else if x1 = (nI 6) then some (L 9 0) else if x1 = (nI 7) then some (L 10 0) else if x1 = (nI 8) then some (Y 1 0) else if x1 = (nI 9) then some (X 1 0) else some (-1 : Int32)

/-! CardLoops.waits(II)I -/
def fX5_waits_31 (X : Rc) (P : Rc) (L : Rc) : Option (Int32) := some (-1 : Int32)
def fX5_waits (X : Rc) (P : Rc) (L : Rc) (x1 : Int32) (x2 : Int32) : Option (Int32) := if x1 < 0 then fX5_waits_31 X P L else if (P 6 0) ≤ x1 then fX5_waits_31 X P L else if x2 < 0 then fX5_waits_31 X P L else bnd (fX1_waiting L x1) (fun z1 => if x2 < z1 then gdi x1 6 (bnd (fX1_kindOf P L ((L 1 x1.toNatClampNeg) + x2)) (fun z2 => some z2)) else fX5_waits_31 X P L)

/-! CardLoops.loop(II)I -/
def fX5_loop (X : Rc) (P : Rc) (L : Rc) (x1 : Int32) (x2 : Int32) : Option (Int32) := bnd (fX5_isLoop X P x1) (fun z1 => if z1 = 0 then some (-1 : Int32) else if x2 = (nI 0) then gdi x1 5 (some (P 2 x1.toNatClampNeg)) else if x2 = (nI 1) then gdi x1 5 (some (P 3 x1.toNatClampNeg)) else if x2 = (nI 2) then gdi x1 5 (some (L 4 x1.toNatClampNeg)) else if x2 = (nI 3) then bnd (fX1_free P L x1) (fun z2 => some z2) else some (-1 : Int32))

/-! CardLoops.next(I)I -/
def fX5_next_18 (X : Rc) (P : Rc) (L : Rc) : Option (Int32) := some (-1 : Int32)
def fX5_next (X : Rc) (P : Rc) (L : Rc) (x1 : Int32) : Option (Int32) := bnd (fX5_isEmpty X P) (fun z1 => if z1 = 0 then if x1 < 0 then fX5_next_18 X P L else if x1 ≤ (nI 999) then bnd (fX1_kindOf P L ((L 1 0) + x1)) (fun z2 => some z2) else fX5_next_18 X P L else fX5_next_18 X P L)

/-! CardLoops.when(II)I -/
def fX5_when_43b (N : Nat) (k43 : Rc → Rc → Rc → Rc → Int32 → Int32 → Int32 → Option (Int32 × (Rc))) (X : Rc) (P : Rc) (L : Rc) (J : Rc) (x1 : Int32) (x2 : Int32) (x3 : Int32) : Option (Int32 × (Rc)) := if x1 ≤ x3 then if x2 = 0 then some ((J 8 0), J) else some ((J 9 0), J) else bnd (fX1_leapTillOut N P J) (fun z1 => nm (x3 + (nI 1)) (fun v2 => k43 X P L z1 x1 x2 v2))
def fX5_when_43 (N : Nat) : Rc → Rc → Rc → Rc → Int32 → Int32 → Int32 → Option (Int32 × (Rc)) := itn (fX5_when_43b N) (fun _ _ _ _ _ _ _ => none) N
def fX5_when_28 (N : Nat) (X : Rc) (P : Rc) (L : Rc) (J : Rc) : Option (Int32 × (Rc)) := some ((-1 : Int32), J)
def fX5_when (N : Nat) (X : Rc) (P : Rc) (L : Rc) (J : Rc) (x1 : Int32) (x2 : Int32) : Option (Int32 × (Rc)) := bnd (fX5_isEmpty X P) (fun z1 => if z1 = 0 then if x1 < (nI 1) then fX5_when_28 N X P L J else if (nI 200) < x1 then fX5_when_28 N X P L J else if x2 < 0 then fX5_when_28 N X P L J else if x2 ≤ (nI 1) then bnd (fX1_copyFrom J L) (fun z2 => nm (nI 0) (fun v3 => fX5_when_43 N X P L z2 x1 x2 v3)) else fX5_when_28 N X P L J else fX5_when_28 N X P L J)

/-! CardLoops.forgetPaces()V -/
def fX5_forgetPaces (N : Nat) (X : Rc) : Option (Rc) := bnd (fJ7_fill_53178 6 N (X 9) (nI 0)) (fun z1 => nm (va_up X 9 z1) (fun X2 => some X2))

/-! CardLoops.learnPace(I)V -/
def fX5_learnPace (N : Nat) (X : Rc) (P : Rc) (L : Rc) (J : Rc) (F : Rc) (FL : RcL) (x1 : Int32) : Option (Rc × Rc × Rc × RcL) := gdi x1 6 (if (X 9 x1.toNatClampNeg) = 0 then bnd (fX2_search N P J F FL (L 4) x1) (fun z1 => gdi x1 6 (nm (va_up X 9 (upd (X 9) (x1.toNatClampNeg) (z1.2.1 6 0))) (fun X2 => gdi x1 6 (nm (va_up X2 10 (upd (X2 10) (x1.toNatClampNeg) (z1.2.1 7 0))) (fun X3 => some (X3, z1.1, z1.2.1, z1.2.2)))))) else some (X, J, F, FL))

/-! CardLoops.paceBy(II)I -/
def fX5_paceBy_26 (N : Nat) (X : Rc) (P : Rc) (L : Rc) (J : Rc) (F : Rc) (FL : RcL) : Option (Int32 × (Rc × Rc × Rc × RcL)) := some ((-1 : Int32), (X, J, F, FL))
def fX5_paceBy (N : Nat) (X : Rc) (P : Rc) (L : Rc) (J : Rc) (F : Rc) (FL : RcL) (x1 : Int32) (x2 : Int32) : Option (Int32 × (Rc × Rc × Rc × RcL)) := bnd (fX5_isEmpty X P) (fun z1 => if z1 = 0 then if x1 < (nI 1) then fX5_paceBy_26 N X P L J F FL else if (nI 5) < x1 then fX5_paceBy_26 N X P L J F FL else if x2 < 0 then fX5_paceBy_26 N X P L J F FL else if x2 ≤ (nI 1) then bnd (fX5_learnPace N X P L J F FL x1) (fun z2 => if x2 = 0 then gdi x1 6 (some ((z2.1 9 x1.toNatClampNeg), (z2.1, z2.2.1, z2.2.2.1, z2.2.2.2))) else gdi x1 6 (some ((z2.1 10 x1.toNatClampNeg), (z2.1, z2.2.1, z2.2.2.1, z2.2.2.2)))) else fX5_paceBy_26 N X P L J F FL else fX5_paceBy_26 N X P L J F FL)

/-! CardLoops.pace(I)I -/
def fX5_pace (N : Nat) (X : Rc) (P : Rc) (L : Rc) (J : Rc) (F : Rc) (FL : RcL) (x1 : Int32) : Option (Int32 × (Rc × Rc × Rc × RcL)) := bnd (fX5_paceBy N X P L J F FL (nI 1) x1) (fun z1 => some (z1.1, (z1.2.1, z1.2.2.1, z1.2.2.2.1, z1.2.2.2.2)))

/-! CardLoops.longer(II)I -/
def fX5_longer (N : Nat) (X : Rc) (P : Rc) (L : Rc) (J : Rc) (F : Rc) (FL : RcL) (x1 : Int32) (x2 : Int32) : Option (Int32 × (Rc × Rc × Rc × RcL)) := bnd (fX5_paceBy N X P L J F FL x1 x2) (fun z1 => some (z1.1, (z1.2.1, z1.2.2.1, z1.2.2.2.1, z1.2.2.2.2)))

/-! CardLoops.isQuicker(II)Z -/
def fX5_isQuicker (X : Rc) (x1 : Int32) (x2 : Int32) : Option (Int32) := gdi x1 6 (gdi x2 6 (gdi x2 6 (gdi x1 6 (if (lg_cmp ((X 9 x1.toNatClampNeg).toInt64 * (X 10 x2.toNatClampNeg).toInt64) ((X 9 x2.toNatClampNeg).toInt64 * (X 10 x1.toNatClampNeg).toInt64)) ≤ 0 then some (nI 0) else some (nI 1)))))

/-! CardLoops.longest()I -/
def fX5_longest_48 (N : Nat) (k13 : Rc → Rc → Rc → Rc → Rc → RcL → Int32 → Int32 → Option (Int32 × (Rc × Rc × Rc × RcL))) (X : Rc) (P : Rc) (L : Rc) (J : Rc) (F : Rc) (FL : RcL) (x1 : Int32) (x2 : Int32) : Option (Int32 × (Rc × Rc × Rc × RcL)) := nm (x2 + (nI 1)) (fun v1 => k13 X P L J F FL x1 v1)
def fX5_longest_46 (N : Nat) (k13 : Rc → Rc → Rc → Rc → Rc → RcL → Int32 → Int32 → Option (Int32 × (Rc × Rc × Rc × RcL))) (X : Rc) (P : Rc) (L : Rc) (J : Rc) (F : Rc) (FL : RcL) (x2 : Int32) : Option (Int32 × (Rc × Rc × Rc × RcL)) := nm x2 (fun v1 => fX5_longest_48 N k13 X P L J F FL v1 x2)
def fX5_longest_13b (N : Nat) (k13 : Rc → Rc → Rc → Rc → Rc → RcL → Int32 → Int32 → Option (Int32 × (Rc × Rc × Rc × RcL))) (X : Rc) (P : Rc) (L : Rc) (J : Rc) (F : Rc) (FL : RcL) (x1 : Int32) (x2 : Int32) : Option (Int32 × (Rc × Rc × Rc × RcL)) := if (nI 5) < x2 then some (x1, (X, J, F, FL)) else bnd (fX5_learnPace N X P L J F FL x2) (fun z1 => gdi x2 6 (if (z1.1 9 x2.toNatClampNeg) ≤ 0 then fX5_longest_48 N k13 z1.1 P L z1.2.1 z1.2.2.1 z1.2.2.2 x1 x2 else if x1 < (nI 1) then fX5_longest_46 N k13 z1.1 P L z1.2.1 z1.2.2.1 z1.2.2.2 x2 else bnd (fX5_isQuicker z1.1 x2 x1) (fun z2 => if z2 = 0 then fX5_longest_48 N k13 z1.1 P L z1.2.1 z1.2.2.1 z1.2.2.2 x1 x2 else fX5_longest_46 N k13 z1.1 P L z1.2.1 z1.2.2.1 z1.2.2.2 x2)))
def fX5_longest_13 (N : Nat) : Rc → Rc → Rc → Rc → Rc → RcL → Int32 → Int32 → Option (Int32 × (Rc × Rc × Rc × RcL)) := itn (fX5_longest_13b N) (fun _ _ _ _ _ _ _ _ => none) N
def fX5_longest (N : Nat) (X : Rc) (P : Rc) (L : Rc) (J : Rc) (F : Rc) (FL : RcL) : Option (Int32 × (Rc × Rc × Rc × RcL)) := bnd (fX5_isEmpty X P) (fun z1 => if z1 = 0 then nm (-1 : Int32) (fun v2 => nm (nI 1) (fun v3 => fX5_longest_13 N X P L J F FL v2 v3)) else some ((-1 : Int32), (X, J, F, FL)))

/-! CardLoops.ringMinutes(I)I -/
def fX5_ringMinutes_41b (N : Nat) (k41 : Rc → Rc → Int32 → Int32 → Int32 → Option (Int32)) (X : Rc) (P : Rc) (x1 : Int32) (x2 : Int32) (x3 : Int32) : Option (Int32) := gdi x1 5 (if (P 3 x1.toNatClampNeg) < x3 then some x2 else gdi x3 6 (nm (x2 + (P 0 x3.toNatClampNeg)) (fun v1 => nm (x3 + (nI 1)) (fun v2 => k41 X P x1 v1 v2))))
def fX5_ringMinutes_41 (N : Nat) : Rc → Rc → Int32 → Int32 → Int32 → Option (Int32) := itn (fX5_ringMinutes_41b N) (fun _ _ _ _ _ => none) N
def fX5_ringMinutes (N : Nat) (X : Rc) (P : Rc) (x1 : Int32) : Option (Int32) := if x1 < (P 7 0) then nm (nI 0) (fun v1 => gdi x1 5 (nm (P 2 x1.toNatClampNeg) (fun v2 => fX5_ringMinutes_41 N X P x1 v1 v2))) else gdi (x1 - (P 7 0)) 6 (some (P 0 (x1 - (P 7 0)).toNatClampNeg))

/-! CardLoops.ringCards(I[I)I -/
def fX5_ringCardsa (X : Rc) (P : Rc) (L : Rc) (x1 : Int32) : Option (Int32) := if (P 7 0) ≤ x1 then some (nI 1) else gdi x1 5 (some (L 4 x1.toNatClampNeg))

/-! CardLoops.ringCards(I[I)I -/
def fX5_ringCardsb (X : Rc) (P : Rc) (x1 : Int32) : Option (Int32) := if (P 7 0) ≤ x1 then some (nI 1) else gdi x1 5 (some (X 6 x1.toNatClampNeg))

/-! CardLoops.tightRing()I -/
def fX5_tightRing_66 (N : Nat) (k4 : Rc → Rc → Rc → Int32 → Int32 → Option (Int32)) (X : Rc) (P : Rc) (L : Rc) (x1 : Int32) (x2 : Int32) : Option (Int32) := nm (x2 + (nI 1)) (fun v1 => k4 X P L x1 v1)
def fX5_tightRing_4b (N : Nat) (k4 : Rc → Rc → Rc → Int32 → Int32 → Option (Int32)) (X : Rc) (P : Rc) (L : Rc) (x1 : Int32) (x2 : Int32) : Option (Int32) := if ((P 7 0) + (P 6 0)) ≤ x2 then some x1 else bnd (fX5_ringMinutes N X P x1) (fun z1 => bnd (fX5_ringCardsa X P L x2) (fun z2 => nm (z1 * z2) (fun v3 => bnd (fX5_ringMinutes N X P x2) (fun z4 => bnd (fX5_ringCardsa X P L x1) (fun z5 => if (z4 * z5) ≤ v3 then fX5_tightRing_66 N k4 X P L x1 x2 else nm x2 (fun v6 => fX5_tightRing_66 N k4 X P L v6 x2))))))
def fX5_tightRing_4 (N : Nat) : Rc → Rc → Rc → Int32 → Int32 → Option (Int32) := itn (fX5_tightRing_4b N) (fun _ _ _ _ _ => none) N
def fX5_tightRing (N : Nat) (X : Rc) (P : Rc) (L : Rc) : Option (Int32) := nm (nI 0) (fun v1 => nm (nI 1) (fun v2 => fX5_tightRing_4 N X P L v1 v2))

/-! CardLoops.bound(I)I -/
def fX5_bound_94 (N : Nat) (X : Rc) (P : Rc) (L : Rc) (x5 : Int32) (y0 : Int32) : Option (Int32) := gdz x5 (some (y0 / x5))
def fX5_bound_16 (N : Nat) (X : Rc) (P : Rc) (L : Rc) : Option (Int32) := some (-1 : Int32)
def fX5_bound (N : Nat) (X : Rc) (P : Rc) (L : Rc) (x1 : Int32) : Option (Int32) := bnd (fX5_isEmpty X P) (fun z1 => if z1 = 0 then if x1 < 0 then fX5_bound_16 N X P L else if x1 ≤ (nI 2) then bnd (fX5_tightRing N X P L) (fun z2 => nm z2 (fun v3 => if x1 = (nI 2) then if (P 7 0) ≤ v3 then some (((nI 100) + v3) - (P 7 0)) else some v3 else bnd (fX5_ringCardsa X P L v3) (fun z4 => nm z4 (fun v5 => bnd (fX5_ringMinutes N X P v3) (fun z6 => nm z6 (fun v7 => bnd (fX5_commonDivisor N v5 v7) (fun z8 => nm z8 (fun v9 => if x1 = 0 then fX5_bound_94 N X P L v9 v5 else fX5_bound_94 N X P L v9 v7)))))))) else fX5_bound_16 N X P L else fX5_bound_16 N X P L)

/-! CardLoops.needs(III)I -/
def fX5_needs_16 (N : Nat) (X : Rc) (P : Rc) : Option (Int32) := some (-1 : Int32)
def fX5_needs (N : Nat) (X : Rc) (P : Rc) (x1 : Int32) (x2 : Int32) (x3 : Int32) : Option (Int32) := bnd (fX5_isLoop X P x1) (fun z1 => if z1 = 0 then fX5_needs_16 N X P else bnd (fX5_isPromise x2 x3) (fun z2 => if z2 = 0 then fX5_needs_16 N X P else bnd (fX5_ringMinutes N X P x1) (fun z3 => gdz x3 (some ((((x2 * z3) + x3) - (nI 1)) / x3)))))

/-! CardLoops.isForbidden([III)Z -/
def fX5_isForbidden_3b (N : Nat) (k3 : Rc → Rc → Int32 → Int32 → Int32 → Option (Int32)) (X : Rc) (P : Rc) (x2 : Int32) (x3 : Int32) (x4 : Int32) : Option (Int32) := if ((P 7 0) + (P 6 0)) ≤ x4 then some (nI 0) else bnd (fX5_ringMinutes N X P x4) (fun z1 => bnd (fX5_ringCardsb X P x4) (fun z2 => if (x2 * z1) ≤ (x3 * z2) then nm (x4 + (nI 1)) (fun v3 => k3 X P x2 x3 v3) else some (nI 1)))
def fX5_isForbidden_3 (N : Nat) : Rc → Rc → Int32 → Int32 → Int32 → Option (Int32) := itn (fX5_isForbidden_3b N) (fun _ _ _ _ _ => none) N
def fX5_isForbidden (N : Nat) (X : Rc) (P : Rc) (x2 : Int32) (x3 : Int32) : Option (Int32) := nm (nI 0) (fun v1 => fX5_isForbidden_3 N X P x2 x3 v1)

/-! CardLoops.reaches([III)Z -/
def fX5_reaches_61 (N : Nat) (X : Rc) (P : Rc) (J : Rc) (F : Rc) (FL : RcL) : Option (Int32 × (Rc × Rc × RcL)) := some ((nI 0), (J, F, FL))
def fX5_reaches (N : Nat) (X : Rc) (P : Rc) (J : Rc) (F : Rc) (FL : RcL) (x2 : Int32) (x3 : Int32) : Option (Int32 × (Rc × Rc × RcL)) := bnd (fX5_isForbidden N X P x2 x3) (fun z1 => if z1 = 0 then bnd (fX2_search N P J F FL (X 6) (nI 1)) (fun z2 => if (z2.2.1 6 0) ≤ 0 then fX5_reaches_61 N X P z2.1 z2.2.1 z2.2.2 else if (lg_cmp ((z2.2.1 6 0).toInt64 * x3.toInt64) (x2.toInt64 * (z2.2.1 7 0).toInt64)) < 0 then fX5_reaches_61 N X P z2.1 z2.2.1 z2.2.2 else some ((nI 1), (z2.1, z2.2.1, z2.2.2))) else some ((nI 0), (J, F, FL)))

/-! CardLoops.least(III)I -/
def fX5_least_38b (N : Nat) (k38 : Rc → Rc → Rc → Rc → Rc → RcL → Int32 → Int32 → Int32 → Int32 → Option (Int32 × (Rc × Rc × Rc × RcL))) (X : Rc) (P : Rc) (L : Rc) (J : Rc) (F : Rc) (FL : RcL) (x1 : Int32) (x2 : Int32) (x3 : Int32) (x4 : Int32) : Option (Int32 × (Rc × Rc × Rc × RcL)) := if (nI 20) < x4 then some ((-2 : Int32), (X, J, F, FL)) else gdi x1 5 (nm (va_up X 6 (upd (X 6) (x1.toNatClampNeg) x4)) (fun X1 => bnd (fX5_reaches N X1 P J F FL x2 x3) (fun z2 => if z2.1 = 0 then nm (x4 + (nI 1)) (fun v3 => k38 X1 P L z2.2.1 z2.2.2.1 z2.2.2.2 x1 x2 x3 v3) else some (x4, (X1, z2.2.1, z2.2.2.1, z2.2.2.2)))))
def fX5_least_38 (N : Nat) : Rc → Rc → Rc → Rc → Rc → RcL → Int32 → Int32 → Int32 → Int32 → Option (Int32 × (Rc × Rc × Rc × RcL)) := itn (fX5_least_38b N) (fun _ _ _ _ _ _ _ _ _ _ => none) N
def fX5_least_16 (N : Nat) (X : Rc) (P : Rc) (L : Rc) (J : Rc) (F : Rc) (FL : RcL) : Option (Int32 × (Rc × Rc × Rc × RcL)) := some ((-1 : Int32), (X, J, F, FL))
def fX5_least (N : Nat) (X : Rc) (P : Rc) (L : Rc) (J : Rc) (F : Rc) (FL : RcL) (x1 : Int32) (x2 : Int32) (x3 : Int32) : Option (Int32 × (Rc × Rc × Rc × RcL)) := bnd (fX5_isLoop X P x1) (fun z1 => if z1 = 0 then fX5_least_16 N X P L J F FL else bnd (fX5_isPromise x2 x3) (fun z2 => if z2 = 0 then fX5_least_16 N X P L J F FL else nm (va_up X 6 (va_cpy (L 4) (X 6) 0 0 5)) (fun X3 => nm (nI 1) (fun v4 => fX5_least_38 N X3 P L J F FL x1 x2 x3 v4))))

/-! CardLoops.pass(I)I -/
def fX5_pass_33 (N : Nat) (X : Rc) (P : Rc) (L : Rc) (Y : Rc) (k0 : Rc) (k1 : Rc) (k2 : Rc) (k3 : Rc) (k4 : Rc) (k5 : Rc) (k6 : Rc) (k7 : Rc) : Option (Int32 × (Rc × Rc × Rc × Rc × Rc × Rc × Rc × Rc × Rc × Rc)) := some ((-1 : Int32), (L, Y, k0, k1, k2, k3, k4, k5, k6, k7))
def fX5_pass (N : Nat) (X : Rc) (P : Rc) (L : Rc) (Y : Rc) (k0 : Rc) (k1 : Rc) (k2 : Rc) (k3 : Rc) (k4 : Rc) (k5 : Rc) (k6 : Rc) (k7 : Rc) (x1 : Int32) : Option (Int32 × (Rc × Rc × Rc × Rc × Rc × Rc × Rc × Rc × Rc × Rc)) := bnd (fX5_isEmpty X P) (fun z1 => if z1 = 0 then if x1 < (nI 1) then fX5_pass_33 N X P L Y k0 k1 k2 k3 k4 k5 k6 k7 else if (nI 999) < x1 then fX5_pass_33 N X P L Y k0 k1 k2 k3 k4 k5 k6 k7 else if (L 8 0) ≤ ((nI 99999) - x1) then bnd (fX0_keep L Y k0 k1 k2 k3 k4 k5 k6 k7) (fun z2 => bnd (fX1_out P L) (fun z3 => nm z3 (fun v4 => bnd (fX1_moveTo N P L ((L 8 0) + x1)) (fun z5 => bnd (fX1_out P z5) (fun z6 => some ((z6 - v4), (z5, z2.1, z2.2.1, z2.2.2.1, z2.2.2.2.1, z2.2.2.2.2.1, z2.2.2.2.2.2.1, z2.2.2.2.2.2.2.1, z2.2.2.2.2.2.2.2.1, z2.2.2.2.2.2.2.2.2))))))) else fX5_pass_33 N X P L Y k0 k1 k2 k3 k4 k5 k6 k7 else fX5_pass_33 N X P L Y k0 k1 k2 k3 k4 k5 k6 k7)

/-! CardLoops.step()I -/
def fX5_step (N : Nat) (X : Rc) (P : Rc) (L : Rc) (Y : Rc) (k0 : Rc) (k1 : Rc) (k2 : Rc) (k3 : Rc) (k4 : Rc) (k5 : Rc) (k6 : Rc) (k7 : Rc) : Option (Int32 × (Rc × Rc × Rc × Rc × Rc × Rc × Rc × Rc × Rc × Rc)) := bnd (fX5_isEmpty X P) (fun z1 => if z1 = 0 then bnd (fX1_nextThrough N P L) (fun z2 => nm z2 (fun v3 => if v3 ≤ (nI 99999) then bnd (fX0_keep L Y k0 k1 k2 k3 k4 k5 k6 k7) (fun z4 => bnd (fX1_moveTo N P L v3) (fun z5 => some ((z5 8 0), (z5, z4.1, z4.2.1, z4.2.2.1, z4.2.2.2.1, z4.2.2.2.2.1, z4.2.2.2.2.2.1, z4.2.2.2.2.2.2.1, z4.2.2.2.2.2.2.2.1, z4.2.2.2.2.2.2.2.2)))) else some ((-1 : Int32), (L, Y, k0, k1, k2, k3, k4, k5, k6, k7)))) else some ((-1 : Int32), (L, Y, k0, k1, k2, k3, k4, k5, k6, k7)))

/-! CardLoops.cards(II)I -/
def fX5_cards_50 (N : Nat) (X : Rc) (P : Rc) (L : Rc) (Y : Rc) (k0 : Rc) (k1 : Rc) (k2 : Rc) (k3 : Rc) (k4 : Rc) (k5 : Rc) (k6 : Rc) (k7 : Rc) : Option (Int32 × (Rc × Rc × Rc × Rc × Rc × Rc × Rc × Rc × Rc × Rc × Rc)) := some ((-1 : Int32), (X, L, Y, k0, k1, k2, k3, k4, k5, k6, k7))
def fX5_cards_19 (N : Nat) (X : Rc) (P : Rc) (L : Rc) (Y : Rc) (k0 : Rc) (k1 : Rc) (k2 : Rc) (k3 : Rc) (k4 : Rc) (k5 : Rc) (k6 : Rc) (k7 : Rc) : Option (Int32 × (Rc × Rc × Rc × Rc × Rc × Rc × Rc × Rc × Rc × Rc × Rc)) := some ((-1 : Int32), (X, L, Y, k0, k1, k2, k3, k4, k5, k6, k7))
def fX5_cards (N : Nat) (X : Rc) (P : Rc) (L : Rc) (Y : Rc) (k0 : Rc) (k1 : Rc) (k2 : Rc) (k3 : Rc) (k4 : Rc) (k5 : Rc) (k6 : Rc) (k7 : Rc) (x1 : Int32) (x2 : Int32) : Option (Int32 × (Rc × Rc × Rc × Rc × Rc × Rc × Rc × Rc × Rc × Rc × Rc)) := bnd (fX5_isLoop X P x1) (fun z1 => if z1 = 0 then fX5_cards_19 N X P L Y k0 k1 k2 k3 k4 k5 k6 k7 else if x2 < (nI 1) then fX5_cards_19 N X P L Y k0 k1 k2 k3 k4 k5 k6 k7 else if x2 ≤ (nI 20) then gdi x1 5 (nm (x2 - (L 4 x1.toNatClampNeg)) (fun v2 => if v2 = 0 then fX5_cards_50 N X P L Y k0 k1 k2 k3 k4 k5 k6 k7 else bnd (fX1_free P L x1) (fun z3 => if 0 ≤ (z3 + v2) then bnd (fX0_keep L Y k0 k1 k2 k3 k4 k5 k6 k7) (fun z4 => gdi x1 5 (nm (va_up L 4 (upd (L 4) (x1.toNatClampNeg) x2)) (fun L5 => bnd (fX1_round N P L5) (fun z6 => bnd (fX5_forgetPaces N X) (fun z7 => bnd (fX1_free P z6 x1) (fun z8 => some (z8, (z7, z6, z4.1, z4.2.1, z4.2.2.1, z4.2.2.2.1, z4.2.2.2.2.1, z4.2.2.2.2.2.1, z4.2.2.2.2.2.2.1, z4.2.2.2.2.2.2.2.1, z4.2.2.2.2.2.2.2.2)))))))) else fX5_cards_50 N X P L Y k0 k1 k2 k3 k4 k5 k6 k7))) else fX5_cards_19 N X P L Y k0 k1 k2 k3 k4 k5 k6 k7)

/-! CardLoops.anew()I -/
def fX5_anew (N : Nat) (X : Rc) (P : Rc) (L : Rc) (Y : Rc) (k0 : Rc) (k1 : Rc) (k2 : Rc) (k3 : Rc) (k4 : Rc) (k5 : Rc) (k6 : Rc) (k7 : Rc) : Option (Int32 × (Rc × Rc × Rc × Rc × Rc × Rc × Rc × Rc × Rc × Rc)) := bnd (fX5_isEmpty X P) (fun z1 => if z1 = 0 then bnd (fX0_keep L Y k0 k1 k2 k3 k4 k5 k6 k7) (fun z2 => bnd (fX1_startAnewl N P L (nI 1)) (fun z3 => bnd (fX1_onTheirWay P z3) (fun z4 => some (z4, (z3, z2.1, z2.2.1, z2.2.2.1, z2.2.2.2.1, z2.2.2.2.2.1, z2.2.2.2.2.2.1, z2.2.2.2.2.2.2.1, z2.2.2.2.2.2.2.2.1, z2.2.2.2.2.2.2.2.2))))) else some ((-1 : Int32), (L, Y, k0, k1, k2, k3, k4, k5, k6, k7)))

/-! CardLoops.undo()I -/
def fX5_undo (N : Nat) (X : Rc) (L : Rc) (Y : Rc) (k0 : Rc) (k1 : Rc) (k2 : Rc) (k3 : Rc) (k4 : Rc) (k5 : Rc) (k6 : Rc) (k7 : Rc) : Option (Int32 × (Rc × Rc × Rc)) := if (nI 1) ≤ (Y 1 0) then bnd (fX0_giveBack L Y k0 k1 k2 k3 k4 k5 k6 k7) (fun z1 => bnd (fX5_forgetPaces N X) (fun z2 => some ((z1.2 1 0), (z2, z1.1, z1.2)))) else some ((-1 : Int32), (X, L, Y))

/-! CardLoops.text()I -/
def fX5_text (N : Nat) (X : Rc) (T : Nat → Int32) (P : Rc) (Q : Rc) (R : Rc) (L : Rc) (Y : Rc) : Option (Int32 × (Rc × Rc × Rc × Rc × Rc × Rc)) := bnd (fX4_read N T Q R (X 1 0)) (fun z1 => nm z1.1 (fun v2 => nm (va_up X 1 (fun _ => (nI 0))) (fun X3 => if 0 ≤ v2 then bnd (fX3_copyFrom P z1.2.1) (fun z4 => bnd (fX1_startAnewp N z4 L (nI 1)) (fun z5 => bnd (fX0_clear Y) (fun z6 => bnd (fX5_forgetPaces N X3) (fun z7 => some (v2, (z7, z4, z1.2.1, z1.2.2, z5, z6)))))) else some (v2, (X3, P, z1.2.1, z1.2.2, L, Y)))))

/-! CardLoops.station(II)I -/
def fX5_station (X : Rc) (P : Rc) (L : Rc) (x1 : Int32) (x2 : Int32) : Option (Option Int32) := if x1 < 0 then some none else if x1 < (P 6 0) then if x2 = (nI 0) then gdi x1 6 (some (some (P 0 x1.toNatClampNeg))) else if x2 = (nI 1) then gdi x1 6 (some (some (P 1 x1.toNatClampNeg))) else if x2 = (nI 2) then bnd (fX1_stateOf P L x1) (fun z1 => some (some z1)) else if x2 = (nI 3) then bnd (fX1_kindAt P L x1) (fun z2 => some (some z2)) else if x2 = (nI 4) then bnd (fX1_waiting L x1) (fun z3 => some (some z3)) else if x2 = (nI 5) then bnd (fX1_isIdle L x1) (fun z4 => if z4 = 0 then gdi x1 6 (some (some (L 3 x1.toNatClampNeg))) else some (some (-1 : Int32))) else if x2 = (nI 6) then gdi (((x1 * (nI 4)) + x2) - (nI 6)) 24 (some (some (L 6 (((x1 * (nI 4)) + x2) - (nI 6)).toNatClampNeg))) else if x2 = (nI 7) then gdi (((x1 * (nI 4)) + x2) - (nI 6)) 24 (some (some (L 6 (((x1 * (nI 4)) + x2) - (nI 6)).toNatClampNeg))) else if x2 = (nI 8) then gdi (((x1 * (nI 4)) + x2) - (nI 6)) 24 (some (some (L 6 (((x1 * (nI 4)) + x2) - (nI 6)).toNatClampNeg))) else if x2 = (nI 9) then gdi (((x1 * (nI 4)) + x2) - (nI 6)) 24 (some (some (L 6 (((x1 * (nI 4)) + x2) - (nI 6)).toNatClampNeg))) else some none else some none
end
section
/-! numbers: Int32 out of naturals -/
theorem gdi_nI {α : Type} {a n : Nat} {x : Option α} (h : a < n) (hn : n < 2 ^ 31) : gdi (nI a) n x = x := by
  unfold gdi
  rw [if_neg]
  rintro (h1 | h1)
  · exact nI_pos (by omega) h1
  · rw [nI_clamp (by omega)] at h1
    omega
theorem gdz_nI {α : Type} {a : Nat} {x : Option α} (h0 : 0 < a) (h : a < 2 ^ 31) : gdz (nI a) x = x := by
  unfold gdz
  rw [if_neg (nI_ne0 h0 h)]
theorem bnd_s {α β : Type} (v : α) (k : α → Option β) : bnd (some v) k = k v := rfl
theorem nm_s {α β : Type} (v : α) (k : α → Option β) : nm v k = k v := rfl
theorem gdb_0 {α : Type} {x : Option α} : gdb (nI 0) x = x := rfl
theorem gdb_1 {α : Type} {x : Option α} : gdb (nI 1) x = x := rfl
theorem nI_nat (x : Int32) : ∃ n, n < 2 ^ 32 ∧ x = nI n := by
  refine ⟨x.toBitVec.toNat, x.toBitVec.isLt, ?_⟩
  apply Int32.toBitVec_inj.mp
  show x.toBitVec = BitVec.ofNat 32 _
  simp
theorem nI_sub' {a b : Nat} (h : b ≤ a) : nI a - nI b = nI (a - b) := pk_sub h
theorem nI_subdiv (a d : Nat) : nI a - nI (a / d * d) = nI (a % d) := by
  rw [pk_sub (Nat.div_mul_le_self a d)]
  congr 1
  have := Nat.div_add_mod a d
  rw [Nat.mul_comm] at this
  omega
theorem nrem (a d : Nat) : a - a / d * d = a % d := by
  have := Nat.div_add_mod a d
  rw [Nat.mul_comm] at this
  omega
theorem nI_m1 {a : Nat} (h : 0 < a) : nI a + (-1 : Int32) = nI (a - 1) := by
  obtain ⟨b, rfl⟩ : ∃ b, a = b + 1 := ⟨a - 1, by omega⟩
  exact pk_m1 b
theorem nI_0m1 : nI 0 + (-1 : Int32) = -1 := by decide
theorem nI_ne_neg {a : Nat} (h : a < 2 ^ 31) : (nI a = (-1 : Int32)) = False := eq_false (fun e => nI_pos h (by rw [e]; decide))
theorem neg_ne_nI {a : Nat} (h : a < 2 ^ 31) : ((-1 : Int32) = nI a) = False := eq_false (fun e => nI_pos h (by rw [← e]; decide))
theorem nI_div {a d : Nat} (ha : a < 2 ^ 31) (h0 : 0 < d) (hd : d < 2 ^ 31) : nI a / nI d = nI (a / d) := pk_div ha h0 hd
theorem z0 : (0 : Int32) = nI 0 := by decide
theorem m1lt0 : ((-1 : Int32) < nI 0) = True := eq_true (by decide)
theorem m1lt {a : Nat} (h : a < 2 ^ 31) : ((-1 : Int32) < nI a) = True := by
  apply eq_true
  rw [Int32.lt_iff_toInt_lt, nI_toInt h]
  have : (-1 : Int32).toInt = -1 := by decide
  omega
theorem m1le {a : Nat} (h : a < 2 ^ 31) : (nI a ≤ (-1 : Int32)) = False := by
  apply eq_false
  rw [Int32.le_iff_toInt_le, nI_toInt h]
  have : (-1 : Int32).toInt = -1 := by decide
  omega
theorem leT {a b : Nat} (h : a ≤ b) : (a ≤ b) = True := eq_true h
theorem leF {a b : Nat} (h : b < a) : (a ≤ b) = False := eq_false (by omega)
theorem ltT {a b : Nat} (h : a < b) : (a < b) = True := eq_true h
theorem ltF {a b : Nat} (h : b ≤ a) : (a < b) = False := eq_false (by omega)
theorem eqT {a b : Nat} (h : a = b) : (a = b) = True := eq_true h
theorem eqF {a b : Nat} (h : a ≠ b) : (a = b) = False := eq_false h
theorem neT {a b : Nat} (h : a ≠ b) : (a ≠ b) = True := eq_true h
theorem neF {a b : Nat} (h : a = b) : (a ≠ b) = False := eq_false (fun c => c h)
/-- a loop's fuel -/
theorem itn_s {α : Type} (F : α → α) (b : α) (n : Nat) : itn F b (n + 1) = F (itn F b n) := rfl
theorem itn_u {α : Type} (F : α → α) (b : α) {n : Nat} (h : 0 < n) : itn F b n = F (itn F b (n - 1)) := by
  obtain ⟨m, rfl⟩ : ∃ m, n = m + 1 := ⟨n - 1, by omega⟩
  rfl
/-! booleans -/
def bI (b : Bool) : Int32 := if b then nI 1 else nI 0
theorem bI_eq0 (b : Bool) : (bI b = nI 0) = (b = false) := by cases b <;> decide
theorem bI_eq1 (b : Bool) : (bI b = nI 1) = (b = true) := by cases b <;> decide
theorem bI_t : bI true = nI 1 := rfl
theorem bI_f : bI false = nI 0 := rfl
/-! rows of naturals -/
abbrev Nx : Type := Nat → Nat → Nat
def up2 (x : Nx) (f j v : Nat) : Nx := fun a i => if a = f then (if i = j then v else x a i) else x a i
def up1 (x : Nx) (f v : Nat) : Nx := fun a i => if a = f then v else x a i
theorem up2_ne {x : Nx} {f j v a i : Nat} (h : a ≠ f) : up2 x f j v a i = x a i := if_neg h
theorem up2_at {x : Nx} {f j v : Nat} : up2 x f j v f j = v := by simp [up2]
theorem up2_o {x : Nx} {f j v i : Nat} (h : i ≠ j) : up2 x f j v f i = x f i := by simp [up2, h]
theorem up2_if {x : Nx} {f j v i : Nat} : up2 x f j v f i = if i = j then v else x f i := by simp [up2]
theorem up1_ne {x : Nx} {f v a i : Nat} (h : a ≠ f) : up1 x f v a i = x a i := if_neg h
theorem up1_at {x : Nx} {f v i : Nat} : up1 x f v f i = v := by simp [up1]
def embP (p : Nx) : Rc := fun a i => nI (p a i)
def embL (x : Nx) : Rc := fun a i => if a = 9 ∨ a = 10 then nI (x a i) - nI 1 else nI (x a i)
theorem embP_a (p : Nx) (a i : Nat) : embP p a i = nI (p a i) := rfl
theorem embL_a {x : Nx} {a i : Nat} (h : a ≠ 9 ∧ a ≠ 10) : embL x a i = nI (x a i) := if_neg (by omega)
theorem embL_9 (x : Nx) (i : Nat) : embL x 9 i = nI (x 9 i) - nI 1 := rfl
theorem embL_10 (x : Nx) (i : Nat) : embL x 10 i = nI (x 10 i) - nI 1 := rfl
theorem embL_up {x : Nx} {f j v : Nat} (h : f ≠ 9 ∧ f ≠ 10) : va_up (embL x) f (upd (embL x f) j (nI v)) = embL (up2 x f j v) := by
  funext a i
  by_cases ha : a = f
  · subst ha
    rw [va_up_self]
    by_cases hi : i = j
    · subst hi
      rw [pk_us, embL_a h, up2_at]
    · rw [pk_un hi, embL_a h, embL_a h, up2_o hi]
  · rw [va_up_ne _ _ ha]
    unfold embL
    rw [up2_ne ha]
theorem embL_up1 {x : Nx} {f v : Nat} (h : f ≠ 9 ∧ f ≠ 10) : va_up (embL x) f (fun _ => nI v) = embL (up1 x f v) := by
  funext a i
  by_cases ha : a = f
  · subst ha
    rw [va_up_self, embL_a h, up1_at]
  · rw [va_up_ne _ _ ha]
    unfold embL
    rw [up1_ne ha]
theorem embL_upl {x : Nx} {f v : Nat} (h : f = 9 ∨ f = 10) : va_up (embL x) f (fun _ => nI v - nI 1) = embL (up1 x f v) := by
  funext a i
  by_cases ha : a = f
  · subst ha
    rw [va_up_self]
    unfold embL
    rw [if_pos h, up1_at]
  · rw [va_up_ne _ _ ha]
    unfold embL
    rw [up1_ne ha]
/-- every row is one of naturals -/
theorem embL_all (L : Rc) : ∃ x : Nx, L = embL x := by
  refine ⟨fun a i => if a = 9 ∨ a = 10 then (L a i + nI 1).toBitVec.toNat else (L a i).toBitVec.toNat, ?_⟩
  have key : ∀ y : Int32, nI y.toBitVec.toNat = y := by
    intro y
    apply Int32.toBitVec_inj.mp
    show BitVec.ofNat 32 _ = y.toBitVec
    simp
  funext a i
  unfold embL
  by_cases h : a = 9 ∨ a = 10
  · simp only [h, if_true, key]
    rw [Int32.add_sub_cancel]
  · simp only [h, if_false, key]
theorem embP_all (L : Rc) : ∃ x : Nx, L = embP x := by
  refine ⟨fun a i => (L a i).toBitVec.toNat, ?_⟩
  funext a i
  apply Int32.toBitVec_inj.mp
  show _ = BitVec.ofNat 32 _
  simp
theorem upd_eq {f : Nat → Int32} {k j : Nat} {x : Int32} (h : j = k) : upd f k x j = x := if_pos h
theorem upd_ne {f : Nat → Int32} {k j : Nat} {x : Int32} (h : j ≠ k) : upd f k x j = f j := if_neg h
end
section
/-! the works in naturals: plan p (0 times, 1 setups, 2 from, 3 to, 4 told cards, 5 kinds, 6 stations, 7 loops, 8 runs, 9 places), line x (1 begun, 2 through, 3 ends, 4 cards, 5 births, 6 minutes, 7 factor, 8 time, 9 lead + 1, 10 longest lead + 1) -/
def sKind (p : Nx) (f m : Nat) : Nat := if p 9 0 = 0 then 0 else p 5 (m / f % p 9 0)
def sSet (p x : Nx) (k : Nat) : Nat := if x 1 k = 0 then 0 else if sKind p (x 7 0) (x 1 k - 1) = sKind p (x 7 0) (x 1 k) then 0 else p 1 k
def sWait (x : Nx) (k : Nat) : Nat := if k = 0 then 0 else x 2 (k - 1) - x 1 k
def sFree (p x : Nx) (l : Nat) : Nat := x 4 l + x 2 (p 3 l) - x 1 (p 2 l)
def hasC (p x : Nx) (k : Nat) : Nat → Nat → Bool
  | _, 0 => true
  | l, n + 1 => if p 2 l = k ∧ sFree p x l = 0 then false else hasC p x k (l + 1) n
def canB (p x : Nx) (k : Nat) : Bool := if k ≠ 0 ∧ sWait x k = 0 then false else hasC p x k 0 (p 7 0)
def sFin (p x : Nx) (k : Nat) : Nx := if k + 1 = p 6 0 then up1 (up1 (up2 x 2 k (x 2 k + 1)) 9 (x 8 0 - x 5 (x 2 k % 20) + 1)) 10 (max (x 10 0) (x 8 0 - x 5 (x 2 k % 20) + 1)) else up2 x 2 k (x 2 k + 1)
def sBeg (p x : Nx) (k : Nat) : Nx := if k = 0 then up2 (up2 (up2 x 1 k (x 1 k + 1)) 3 k (x 8 0 + sSet p x k + p 0 k)) 5 (x 1 k % 20) (x 8 0) else up2 (up2 x 1 k (x 1 k + 1)) 3 k (x 8 0 + sSet p x k + p 0 k)
def sFinIf (p x : Nx) (k : Nat) : Nx := if x 1 k = x 2 k then x else if x 8 0 < x 3 k then x else sFin p x k
def sBegIf (p x : Nx) (k : Nat) : Nx := if x 1 k = x 2 k then (if canB p x k = true then sBeg p x k else x) else x
def down (f : Nx → Nat → Nx) : Nat → Nx → Nx
  | 0, x => x
  | n + 1, x => down f n (f x n)
def sRound (p x : Nx) : Nx := down (sBegIf p) (p 6 0) (down (sFinIf p) (p 6 0) x)
/-- what a plan keeps to -/
def PI (p : Nx) : Prop := (1 ≤ p 6 0 ∧ p 6 0 ≤ 6) ∧ (1 ≤ p 7 0 ∧ p 7 0 ≤ 5) ∧ (p 2 0 = 0 ∧ p 3 0 + 1 = p 6 0) ∧ (∀ l, l < p 7 0 → p 2 l ≤ p 3 l ∧ p 3 l < p 6 0) ∧ (∀ k, k < p 6 0 → 1 ≤ p 0 k ∧ p 0 k ≤ 60 ∧ p 1 k ≤ 60) ∧ p 9 0 ≤ 120 ∧ ∀ i, p 5 i < 2 ^ 31
theorem PI.n {p : Nx} (h : PI p) : 1 ≤ p 6 0 ∧ p 6 0 ≤ 6 := h.1
theorem PI.q {p : Nx} (h : PI p) : 1 ≤ p 7 0 ∧ p 7 0 ≤ 5 := h.2.1
theorem PI.l0 {p : Nx} (h : PI p) : p 2 0 = 0 ∧ p 3 0 + 1 = p 6 0 := h.2.2.1
theorem PI.l {p : Nx} (h : PI p) {l : Nat} (hl : l < p 7 0) : p 2 l ≤ p 3 l ∧ p 3 l < p 6 0 := h.2.2.2.1 l hl
theorem PI.k {p : Nx} (h : PI p) {k : Nat} (hk : k < p 6 0) : 1 ≤ p 0 k ∧ p 0 k ≤ 60 ∧ p 1 k ≤ 60 := h.2.2.2.2.1 k hk
theorem PI.pl {p : Nx} (h : PI p) : p 9 0 ≤ 120 := h.2.2.2.2.2.1
theorem PI.kd {p : Nx} (h : PI p) (i : Nat) : p 5 i < 2 ^ 31 := h.2.2.2.2.2.2 i
/-- what a line keeps to, at any moment of a round -/
def LI (p x : Nx) : Prop := (1 ≤ x 7 0 ∧ x 7 0 ≤ 5) ∧ (∀ l, l < p 7 0 → 1 ≤ x 4 l ∧ x 4 l ≤ 20 ∧ x 1 (p 2 l) ≤ x 4 l + x 2 (p 3 l)) ∧ (∀ k, k < p 6 0 → x 2 k ≤ x 1 k ∧ x 1 k ≤ x 2 k + 1 ∧ x 2 k ≤ x 8 0) ∧ (∀ k, k + 1 < p 6 0 → x 1 (k + 1) ≤ x 2 k) ∧ (∀ k, k < p 6 0 → x 1 k ≠ x 2 k → x 8 0 ≤ x 3 k ∧ x 3 k ≤ x 8 0 + 120 ∧ p 0 k + x 2 k ≤ x 3 k) ∧ (∀ j, x 2 (p 6 0 - 1) ≤ j → j < x 1 0 → x 5 (j % 20) ≤ x 8 0) ∧ (x 9 0 ≤ x 8 0 + 1 ∧ x 10 0 ≤ x 8 0 + 1)
theorem LI.f {p x : Nx} (h : LI p x) : 1 ≤ x 7 0 ∧ x 7 0 ≤ 5 := h.1
theorem LI.l {p x : Nx} (h : LI p x) {l : Nat} (hl : l < p 7 0) : 1 ≤ x 4 l ∧ x 4 l ≤ 20 ∧ x 1 (p 2 l) ≤ x 4 l + x 2 (p 3 l) := h.2.1 l hl
theorem LI.k {p x : Nx} (h : LI p x) {k : Nat} (hk : k < p 6 0) : x 2 k ≤ x 1 k ∧ x 1 k ≤ x 2 k + 1 ∧ x 2 k ≤ x 8 0 := h.2.2.1 k hk
theorem LI.s {p x : Nx} (h : LI p x) {k : Nat} (hk : k + 1 < p 6 0) : x 1 (k + 1) ≤ x 2 k := h.2.2.2.1 k hk
theorem LI.e {p x : Nx} (h : LI p x) {k : Nat} (hk : k < p 6 0) (hb : x 1 k ≠ x 2 k) : x 8 0 ≤ x 3 k ∧ x 3 k ≤ x 8 0 + 120 ∧ p 0 k + x 2 k ≤ x 3 k := h.2.2.2.2.1 k hk hb
theorem LI.b {p x : Nx} (h : LI p x) {j : Nat} (h1 : x 2 (p 6 0 - 1) ≤ j) (h2 : j < x 1 0) : x 5 (j % 20) ≤ x 8 0 := h.2.2.2.2.2.1 j h1 h2
theorem LI.d {p x : Nx} (h : LI p x) : x 9 0 ≤ x 8 0 + 1 ∧ x 10 0 ≤ x 8 0 + 1 := h.2.2.2.2.2.2
/-- the order of the counts -/
theorem LI.mono {p x : Nx} (h : LI p x) : ∀ {d k : Nat}, k + d < p 6 0 → x 2 (k + d) ≤ x 2 k ∧ x 1 (k + d) ≤ x 1 k
  | 0, k, hk => ⟨Nat.le_refl _, Nat.le_refl _⟩
  | d + 1, k, hk => by
    have i := LI.mono h (d := d) (k := k) (by omega)
    have a := h.k (k := k + d) (by omega)
    have b := h.k (k := k + (d + 1)) (by omega)
    have c := h.s (k := k + d) (by omega)
    have e : k + d + 1 = k + (d + 1) := by omega
    rw [e] at c
    omega
theorem LI.mono' {p x : Nx} (h : LI p x) {j k : Nat} (hj : k ≤ j) (hk : j < p 6 0) : x 2 j ≤ x 2 k ∧ x 1 j ≤ x 1 k := by
  have := h.mono (d := j - k) (k := k) (by omega)
  rwa [show k + (j - k) = j from by omega] at this
/-- LOOP 0 bounds what is on its way -/
theorem LI.way {p x : Nx} (h : LI p x) (hp : PI p) : x 1 0 ≤ x 2 (p 6 0 - 1) + 20 := by
  have a := h.l (l := 0) (by have := hp.q; omega)
  have b := hp.l0
  rw [b.1, show p 3 0 = p 6 0 - 1 from by omega] at a
  omega
/-! the class's line -/
theorem s_isIdle {x : Nx} {k : Nat} (hk : k < 6) (h1 : x 1 k < 2 ^ 31) (h2 : x 2 k < 2 ^ 31) : fX1_isIdle (embL x) (nI k) = some (bI (decide (x 1 k = x 2 k))) := by
  unfold fX1_isIdle
  by_cases h : x 1 k = x 2 k
  · simp (disch := omega) only [↓nm_s, ↓bnd_s, ↓reduceIte, nI_add, pk_mul, nI_subdiv, nI_sub', nI_m1, nI_0m1, nI_clamp, gdi_nI, gdz_nI, nI_div, nrem, nI_ltI, nI_leI, nI_eq, leT, leF, ltT, ltF, eqT, eqF, neT, neF, z0, m1lt0, m1lt, m1le, nI_ne_neg, neg_ne_nI, embP_a, embL_a, embL_up, embL_up1, up2_ne, up2_at, up2_o, up1_ne, up1_at, bI_eq0, bI_eq1, or_true, true_or, and_true, true_and, or_false, false_or, and_false, false_and, not_true_eq_false, not_false_eq_true, if_true, if_false,  decide_true, decide_false, bI_t, bI_f, Nat.add_sub_cancel, Nat.zero_add, Nat.add_zero, Nat.mul_zero, upd_eq, upd_ne]
  · simp (disch := omega) only [↓nm_s, ↓bnd_s, ↓reduceIte, nI_add, pk_mul, nI_subdiv, nI_sub', nI_m1, nI_0m1, nI_clamp, gdi_nI, gdz_nI, nI_div, nrem, nI_ltI, nI_leI, nI_eq, leT, leF, ltT, ltF, eqT, eqF, neT, neF, z0, m1lt0, m1lt, m1le, nI_ne_neg, neg_ne_nI, embP_a, embL_a, embL_up, embL_up1, up2_ne, up2_at, up2_o, up1_ne, up1_at, bI_eq0, bI_eq1, or_true, true_or, and_true, true_and, or_false, false_or, and_false, false_and, not_true_eq_false, not_false_eq_true, if_true, if_false,  decide_true, decide_false, bI_t, bI_f, Nat.add_sub_cancel, Nat.zero_add, Nat.add_zero, Nat.mul_zero, upd_eq, upd_ne]
theorem s_waiting {x : Nx} {k : Nat} (hk : k < 6) (h1 : k ≠ 0 → x 1 k ≤ x 2 (k - 1)) (h2 : x 2 (k - 1) < 2 ^ 31) : fX1_waiting (embL x) (nI k) = some (nI (sWait x k)) := by
  unfold fX1_waiting sWait
  by_cases h : k = 0
  · simp (disch := omega) only [↓nm_s, ↓bnd_s, ↓reduceIte, nI_add, pk_mul, nI_subdiv, nI_sub', nI_m1, nI_0m1, nI_clamp, gdi_nI, gdz_nI, nI_div, nrem, nI_ltI, nI_leI, nI_eq, leT, leF, ltT, ltF, eqT, eqF, neT, neF, z0, m1lt0, m1lt, m1le, nI_ne_neg, neg_ne_nI, embP_a, embL_a, embL_up, embL_up1, up2_ne, up2_at, up2_o, up1_ne, up1_at, bI_eq0, bI_eq1, or_true, true_or, and_true, true_and, or_false, false_or, and_false, false_and, not_true_eq_false, not_false_eq_true, if_true, if_false,  decide_true, decide_false, bI_t, bI_f, Nat.add_sub_cancel, Nat.zero_add, Nat.add_zero, Nat.mul_zero, upd_eq, upd_ne]
  · have := h1 h
    simp (disch := omega) only [↓nm_s, ↓bnd_s, ↓reduceIte, nI_add, pk_mul, nI_subdiv, nI_sub', nI_m1, nI_0m1, nI_clamp, gdi_nI, gdz_nI, nI_div, nrem, nI_ltI, nI_leI, nI_eq, leT, leF, ltT, ltF, eqT, eqF, neT, neF, z0, m1lt0, m1lt, m1le, nI_ne_neg, neg_ne_nI, embP_a, embL_a, embL_up, embL_up1, up2_ne, up2_at, up2_o, up1_ne, up1_at, bI_eq0, bI_eq1, or_true, true_or, and_true, true_and, or_false, false_or, and_false, false_and, not_true_eq_false, not_false_eq_true, if_true, if_false,  decide_true, decide_false, bI_t, bI_f, Nat.add_sub_cancel, Nat.zero_add, Nat.add_zero, Nat.mul_zero, upd_eq, upd_ne]
theorem s_out {p x : Nx} (hp : PI p) : fX1_out (embP p) (embL x) = some (nI (x 2 (p 6 0 - 1))) := by
  have := hp.n
  unfold fX1_out
  simp (disch := omega) only [↓nm_s, ↓bnd_s, ↓reduceIte, nI_add, pk_mul, nI_subdiv, nI_sub', nI_m1, nI_0m1, nI_clamp, gdi_nI, gdz_nI, nI_div, nrem, nI_ltI, nI_leI, nI_eq, leT, leF, ltT, ltF, eqT, eqF, neT, neF, z0, m1lt0, m1lt, m1le, nI_ne_neg, neg_ne_nI, embP_a, embL_a, embL_up, embL_up1, up2_ne, up2_at, up2_o, up1_ne, up1_at, bI_eq0, bI_eq1, or_true, true_or, and_true, true_and, or_false, false_or, and_false, false_and, not_true_eq_false, not_false_eq_true, if_true, if_false,  decide_true, decide_false, bI_t, bI_f, Nat.add_sub_cancel, Nat.zero_add, Nat.add_zero, Nat.mul_zero, upd_eq, upd_ne]
theorem s_free {p x : Nx} (hp : PI p) (hx : LI p x) (hT : x 8 0 < 2 ^ 30) {l : Nat} (hl : l < p 7 0) : fX1_free (embP p) (embL x) (nI l) = some (nI (sFree p x l)) := by
  have h1 := hp.n
  have h2 := hp.q
  have h3 := hp.l hl
  have h4 := hx.l hl
  have h5 := hx.k (k := p 2 l) (by omega)
  have h6 := hx.k (k := p 3 l) (by omega)
  have h7 := hx.mono' h3.1 h3.2
  unfold fX1_free sFree
  simp (disch := omega) only [↓nm_s, ↓bnd_s, ↓reduceIte, nI_add, pk_mul, nI_subdiv, nI_sub', nI_m1, nI_0m1, nI_clamp, gdi_nI, gdz_nI, nI_div, nrem, nI_ltI, nI_leI, nI_eq, leT, leF, ltT, ltF, eqT, eqF, neT, neF, z0, m1lt0, m1lt, m1le, nI_ne_neg, neg_ne_nI, embP_a, embL_a, embL_up, embL_up1, up2_ne, up2_at, up2_o, up1_ne, up1_at, bI_eq0, bI_eq1, or_true, true_or, and_true, true_and, or_false, false_or, and_false, false_and, not_true_eq_false, not_false_eq_true, if_true, if_false,  decide_true, decide_false, bI_t, bI_f, Nat.add_sub_cancel, Nat.zero_add, Nat.add_zero, Nat.mul_zero, upd_eq, upd_ne]
  rw [show x 4 l - (x 1 (p 2 l) - x 2 (p 3 l)) = x 4 l + x 2 (p 3 l) - x 1 (p 2 l) from by omega]
theorem s_kindOf {p x : Nx} (hp : PI p) (hx : LI p x) {m : Nat} (hm : m < 2 ^ 31) : fX1_kindOf (embP p) (embL x) (nI m) = some (nI (sKind p (x 7 0) m)) := by
  have h1 := hx.f
  have h2 := hp.pl
  unfold fX1_kindOf sKind
  by_cases h : p 9 0 = 0
  · simp (disch := omega) only [↓nm_s, ↓bnd_s, ↓reduceIte, nI_add, pk_mul, nI_subdiv, nI_sub', nI_m1, nI_0m1, nI_clamp, gdi_nI, gdz_nI, nI_div, nrem, nI_ltI, nI_leI, nI_eq, leT, leF, ltT, ltF, eqT, eqF, neT, neF, z0, m1lt0, m1lt, m1le, nI_ne_neg, neg_ne_nI, embP_a, embL_a, embL_up, embL_up1, up2_ne, up2_at, up2_o, up1_ne, up1_at, bI_eq0, bI_eq1, or_true, true_or, and_true, true_and, or_false, false_or, and_false, false_and, not_true_eq_false, not_false_eq_true, if_true, if_false,  decide_true, decide_false, bI_t, bI_f, Nat.add_sub_cancel, Nat.zero_add, Nat.add_zero, Nat.mul_zero, upd_eq, upd_ne, fX1_kindOf_23]
  · have h3 : m / x 7 0 < 2 ^ 31 := Nat.lt_of_le_of_lt (Nat.div_le_self _ _) hm
    have h4 : m / x 7 0 % p 9 0 < p 9 0 := Nat.mod_lt _ (by omega)
    simp (disch := omega) only [↓nm_s, ↓bnd_s, ↓reduceIte, nI_add, pk_mul, nI_subdiv, nI_sub', nI_m1, nI_0m1, nI_clamp, gdi_nI, gdz_nI, nI_div, nrem, nI_ltI, nI_leI, nI_eq, leT, leF, ltT, ltF, eqT, eqF, neT, neF, z0, m1lt0, m1lt, m1le, nI_ne_neg, neg_ne_nI, embP_a, embL_a, embL_up, embL_up1, up2_ne, up2_at, up2_o, up1_ne, up1_at, bI_eq0, bI_eq1, or_true, true_or, and_true, true_and, or_false, false_or, and_false, false_and, not_true_eq_false, not_false_eq_true, if_true, if_false,  decide_true, decide_false, bI_t, bI_f, Nat.add_sub_cancel, Nat.zero_add, Nat.add_zero, Nat.mul_zero, upd_eq, upd_ne]

theorem hasC_iff {p x : Nx} {k : Nat} : ∀ {n l : Nat}, hasC p x k l n = true ↔ ∀ j, l ≤ j → j < l + n → p 2 j = k → sFree p x j ≠ 0
  | 0, l => ⟨fun _ j h1 h2 => by omega, fun _ => rfl⟩
  | n + 1, l => by
    have i := hasC_iff (p := p) (x := x) (k := k) (n := n) (l := l + 1)
    unfold hasC
    by_cases c : p 2 l = k ∧ sFree p x l = 0
    · rw [if_pos c]
      refine ⟨fun h => (by cases h), fun h => absurd c.2 (h l (Nat.le_refl _) (by omega) c.1)⟩
    · rw [if_neg c, i]
      constructor
      · intro h j h1 h2 h3
        by_cases e : j = l
        · subst e
          exact fun z => c ⟨h3, z⟩
        · exact h j (by omega) (by omega) h3
      · intro h j h1 h2 h3
        exact h j (by omega) (by omega) h3
theorem s_canB17 {p x : Nx} (hp : PI p) (hx : LI p x) (hT : x 8 0 < 2 ^ 30) {k : Nat} (hk : k < p 6 0) (N : Nat) : ∀ {f d l : Nat}, d < f → l + d = p 7 0 → itn (fX1_canBegin_17b N) (fun _ _ _ _ => none) f (embP p) (embL x) (nI k) (nI l) = some (bI (hasC p x k l d))
  | 0, d, l, h, _ => by omega
  | f + 1, 0, l, h, e => by
    have h1 := hp.q
    rw [itn_s]
    unfold fX1_canBegin_17b hasC
    simp (disch := omega) only [↓nm_s, ↓bnd_s, ↓reduceIte, nI_add, pk_mul, nI_subdiv, nI_sub', nI_m1, nI_0m1, nI_clamp, gdi_nI, gdz_nI, nI_div, nrem, nI_ltI, nI_leI, nI_eq, leT, leF, ltT, ltF, eqT, eqF, neT, neF, z0, m1lt0, m1lt, m1le, nI_ne_neg, neg_ne_nI, embP_a, embL_a, embL_up, embL_up1, up2_ne, up2_at, up2_o, up1_ne, up1_at, bI_eq0, bI_eq1, or_true, true_or, and_true, true_and, or_false, false_or, and_false, false_and, not_true_eq_false, not_false_eq_true, if_true, if_false,  decide_true, decide_false, bI_t, bI_f, Nat.add_sub_cancel, Nat.zero_add, Nat.add_zero, Nat.mul_zero, upd_eq, upd_ne]
  | f + 1, d + 1, l, h, e => by
    have h1 := hp.q
    have h2 := hp.n
    have h3 := hp.l (l := l) (by omega)
    have h4 := hx.l (l := l) (by omega)
    have h5 := hx.k (k := p 2 l) (by omega)
    have h6 := hx.k (k := p 3 l) (by omega)
    have i := s_canB17 hp hx hT hk N (f := f) (d := d) (l := l + 1) (by omega) (by omega)
    have g := s_free hp hx hT (l := l) (by omega)
    have b : sFree p x l < 2 ^ 31 := by unfold sFree; omega
    rw [itn_s]
    generalize itn (fX1_canBegin_17b N) (fun _ _ _ _ => none) f = K at i ⊢
    unfold fX1_canBegin_17b hasC
    by_cases c : p 2 l = k
    · by_cases z : sFree p x l = 0
      · simp (disch := omega) only [↓nm_s, ↓bnd_s, ↓reduceIte, nI_add, pk_mul, nI_subdiv, nI_sub', nI_m1, nI_0m1, nI_clamp, gdi_nI, gdz_nI, nI_div, nrem, nI_ltI, nI_leI, nI_eq, leT, leF, ltT, ltF, eqT, eqF, neT, neF, z0, m1lt0, m1lt, m1le, nI_ne_neg, neg_ne_nI, embP_a, embL_a, embL_up, embL_up1, up2_ne, up2_at, up2_o, up1_ne, up1_at, bI_eq0, bI_eq1, or_true, true_or, and_true, true_and, or_false, false_or, and_false, false_and, not_true_eq_false, not_false_eq_true, if_true, if_false,  decide_true, decide_false, bI_t, bI_f, Nat.add_sub_cancel, Nat.zero_add, Nat.add_zero, Nat.mul_zero, upd_eq, upd_ne, g]
      · simp (disch := omega) only [↓nm_s, ↓bnd_s, ↓reduceIte, nI_add, pk_mul, nI_subdiv, nI_sub', nI_m1, nI_0m1, nI_clamp, gdi_nI, gdz_nI, nI_div, nrem, nI_ltI, nI_leI, nI_eq, leT, leF, ltT, ltF, eqT, eqF, neT, neF, z0, m1lt0, m1lt, m1le, nI_ne_neg, neg_ne_nI, embP_a, embL_a, embL_up, embL_up1, up2_ne, up2_at, up2_o, up1_ne, up1_at, bI_eq0, bI_eq1, or_true, true_or, and_true, true_and, or_false, false_or, and_false, false_and, not_true_eq_false, not_false_eq_true, if_true, if_false,  decide_true, decide_false, bI_t, bI_f, Nat.add_sub_cancel, Nat.zero_add, Nat.add_zero, Nat.mul_zero, upd_eq, upd_ne, g, fX1_canBegin_52, i]
    · simp (disch := omega) only [↓nm_s, ↓bnd_s, ↓reduceIte, nI_add, pk_mul, nI_subdiv, nI_sub', nI_m1, nI_0m1, nI_clamp, gdi_nI, gdz_nI, nI_div, nrem, nI_ltI, nI_leI, nI_eq, leT, leF, ltT, ltF, eqT, eqF, neT, neF, z0, m1lt0, m1lt, m1le, nI_ne_neg, neg_ne_nI, embP_a, embL_a, embL_up, embL_up1, up2_ne, up2_at, up2_o, up1_ne, up1_at, bI_eq0, bI_eq1, or_true, true_or, and_true, true_and, or_false, false_or, and_false, false_and, not_true_eq_false, not_false_eq_true, if_true, if_false,  decide_true, decide_false, bI_t, bI_f, Nat.add_sub_cancel, Nat.zero_add, Nat.add_zero, Nat.mul_zero, upd_eq, upd_ne, g, fX1_canBegin_52, i]
theorem s_canB {p x : Nx} (hp : PI p) (hx : LI p x) (hT : x 8 0 < 2 ^ 30) {k N : Nat} (hN : 5 < N) (hk : k < p 6 0) : fX1_canBegin N (embP p) (embL x) (nI k) = some (bI (canB p x k)) := by
  have h1 := hp.q
  have h2 := hp.n
  have i := s_canB17 hp hx hT hk N (f := N) (d := p 7 0) (l := 0) (by omega) (by omega)
  unfold fX1_canBegin canB
  by_cases c : k = 0
  · subst c
    simp (disch := omega) only [↓nm_s, ↓bnd_s, ↓reduceIte, nI_add, pk_mul, nI_subdiv, nI_sub', nI_m1, nI_0m1, nI_clamp, gdi_nI, gdz_nI, nI_div, nrem, nI_ltI, nI_leI, nI_eq, leT, leF, ltT, ltF, eqT, eqF, neT, neF, z0, m1lt0, m1lt, m1le, nI_ne_neg, neg_ne_nI, embP_a, embL_a, embL_up, embL_up1, up2_ne, up2_at, up2_o, up1_ne, up1_at, bI_eq0, bI_eq1, or_true, true_or, and_true, true_and, or_false, false_or, and_false, false_and, not_true_eq_false, not_false_eq_true, if_true, if_false,  decide_true, decide_false, bI_t, bI_f, Nat.add_sub_cancel, Nat.zero_add, Nat.add_zero, Nat.mul_zero, upd_eq, upd_ne, fX1_canBegin_15, fX1_canBegin_17, i]
  · have h3 := hx.k (k := k) hk
    have h4 := hx.k (k := k - 1) (by omega)
    have h5 := hx.s (k := k - 1) (by omega)
    rw [show k - 1 + 1 = k from by omega] at h5
    have w := s_waiting (x := x) (k := k) (by omega) (fun _ => h5) (by omega)
    have e : sWait x k = x 2 (k - 1) - x 1 k := by unfold sWait; rw [if_neg c]
    have e' : sWait x k < 2 ^ 31 := by omega
    by_cases z : sWait x k = 0
    · simp (disch := omega) only [↓nm_s, ↓bnd_s, ↓reduceIte, nI_add, pk_mul, nI_subdiv, nI_sub', nI_m1, nI_0m1, nI_clamp, gdi_nI, gdz_nI, nI_div, nrem, nI_ltI, nI_leI, nI_eq, leT, leF, ltT, ltF, eqT, eqF, neT, neF, z0, m1lt0, m1lt, m1le, nI_ne_neg, neg_ne_nI, embP_a, embL_a, embL_up, embL_up1, up2_ne, up2_at, up2_o, up1_ne, up1_at, bI_eq0, bI_eq1, or_true, true_or, and_true, true_and, or_false, false_or, and_false, false_and, not_true_eq_false, not_false_eq_true, if_true, if_false,  decide_true, decide_false, bI_t, bI_f, Nat.add_sub_cancel, Nat.zero_add, Nat.add_zero, Nat.mul_zero, upd_eq, upd_ne, w]
    · simp (disch := omega) only [↓nm_s, ↓bnd_s, ↓reduceIte, nI_add, pk_mul, nI_subdiv, nI_sub', nI_m1, nI_0m1, nI_clamp, gdi_nI, gdz_nI, nI_div, nrem, nI_ltI, nI_leI, nI_eq, leT, leF, ltT, ltF, eqT, eqF, neT, neF, z0, m1lt0, m1lt, m1le, nI_ne_neg, neg_ne_nI, embP_a, embL_a, embL_up, embL_up1, up2_ne, up2_at, up2_o, up1_ne, up1_at, bI_eq0, bI_eq1, or_true, true_or, and_true, true_and, or_false, false_or, and_false, false_and, not_true_eq_false, not_false_eq_true, if_true, if_false,  decide_true, decide_false, bI_t, bI_f, Nat.add_sub_cancel, Nat.zero_add, Nat.add_zero, Nat.mul_zero, upd_eq, upd_ne, w, fX1_canBegin_15, fX1_canBegin_17, i]
theorem s_finish {p x : Nx} (hp : PI p) (hx : LI p x) (hT : x 8 0 < 2 ^ 30) {k : Nat} (hk : k < p 6 0) (hb : x 1 k ≠ x 2 k) : fX1_finish (embP p) (embL x) (nI k) = some (embL (sFin p x k)) := by
  have h2 := hp.n
  have h3 := hx.k (k := k) hk
  have h4 := hx.d
  unfold fX1_finish sFin
  by_cases c : k + 1 = p 6 0
  · have h5 := hx.b (j := x 2 k) (by rw [show p 6 0 - 1 = k from by omega]; omega) (by have := hx.mono' (j := k) (k := 0) (by omega) hk; omega)
    have h6 : x 2 k % 20 < 20 := Nat.mod_lt _ (by omega)
    simp (disch := omega) only [↓nm_s, ↓bnd_s, ↓reduceIte, nI_add, pk_mul, nI_subdiv, nI_sub', nI_m1, nI_0m1, nI_clamp, gdi_nI, gdz_nI, nI_div, nrem, nI_ltI, nI_leI, nI_eq, leT, leF, ltT, ltF, eqT, eqF, neT, neF, z0, m1lt0, m1lt, m1le, nI_ne_neg, neg_ne_nI, embP_a, embL_a, embL_up, embL_up1, up2_ne, up2_at, up2_o, up1_ne, up1_at, bI_eq0, bI_eq1, or_true, true_or, and_true, true_and, or_false, false_or, and_false, false_and, not_true_eq_false, not_false_eq_true, if_true, if_false,  decide_true, decide_false, bI_t, bI_f, Nat.add_sub_cancel, Nat.zero_add, Nat.add_zero, Nat.mul_zero, upd_eq, upd_ne]
    rw [show nI (x 8 0 - x 5 (x 2 k % 20)) = nI (x 8 0 - x 5 (x 2 k % 20) + 1) - nI 1 from by rw [nI_sub' (by omega)]; rfl, embL_upl (Or.inl rfl), embL_9, embL_10]
    simp (disch := omega) only [↓nm_s, ↓bnd_s, ↓reduceIte, nI_add, pk_mul, nI_subdiv, nI_sub', nI_m1, nI_0m1, nI_clamp, gdi_nI, gdz_nI, nI_div, nrem, nI_ltI, nI_leI, nI_eq, leT, leF, ltT, ltF, eqT, eqF, neT, neF, z0, m1lt0, m1lt, m1le, nI_ne_neg, neg_ne_nI, embP_a, embL_a, embL_up, embL_up1, up2_ne, up2_at, up2_o, up1_ne, up1_at, bI_eq0, bI_eq1, or_true, true_or, and_true, true_and, or_false, false_or, and_false, false_and, not_true_eq_false, not_false_eq_true, if_true, if_false,  decide_true, decide_false, bI_t, bI_f, Nat.add_sub_cancel, Nat.zero_add, Nat.add_zero, Nat.mul_zero, upd_eq, upd_ne]
    by_cases z : x 10 0 = 0
    · rw [show nI (x 10 0) - nI 1 = -1 from by rw [z]; rfl]
      simp (disch := omega) only [↓nm_s, ↓bnd_s, ↓reduceIte, nI_add, pk_mul, nI_subdiv, nI_sub', nI_m1, nI_0m1, nI_clamp, gdi_nI, gdz_nI, nI_div, nrem, nI_ltI, nI_leI, nI_eq, leT, leF, ltT, ltF, eqT, eqF, neT, neF, z0, m1lt0, m1lt, m1le, nI_ne_neg, neg_ne_nI, embP_a, embL_a, embL_up, embL_up1, up2_ne, up2_at, up2_o, up1_ne, up1_at, bI_eq0, bI_eq1, or_true, true_or, and_true, true_and, or_false, false_or, and_false, false_and, not_true_eq_false, not_false_eq_true, if_true, if_false,  decide_true, decide_false, bI_t, bI_f, Nat.add_sub_cancel, Nat.zero_add, Nat.add_zero, Nat.mul_zero, upd_eq, upd_ne]
      rw [show nI (x 8 0 - x 5 (x 2 k % 20)) = nI (x 8 0 - x 5 (x 2 k % 20) + 1) - nI 1 from by rw [nI_sub' (by omega)]; rfl, embL_upl (Or.inr rfl), Nat.max_eq_right (by omega)]
    · by_cases y : x 10 0 < x 8 0 - x 5 (x 2 k % 20) + 1
      · simp (disch := omega) only [↓nm_s, ↓bnd_s, ↓reduceIte, nI_add, pk_mul, nI_subdiv, nI_sub', nI_m1, nI_0m1, nI_clamp, gdi_nI, gdz_nI, nI_div, nrem, nI_ltI, nI_leI, nI_eq, leT, leF, ltT, ltF, eqT, eqF, neT, neF, z0, m1lt0, m1lt, m1le, nI_ne_neg, neg_ne_nI, embP_a, embL_a, embL_up, embL_up1, up2_ne, up2_at, up2_o, up1_ne, up1_at, bI_eq0, bI_eq1, or_true, true_or, and_true, true_and, or_false, false_or, and_false, false_and, not_true_eq_false, not_false_eq_true, if_true, if_false,  decide_true, decide_false, bI_t, bI_f, Nat.add_sub_cancel, Nat.zero_add, Nat.add_zero, Nat.mul_zero, upd_eq, upd_ne]
        rw [show nI (x 8 0 - x 5 (x 2 k % 20)) = nI (x 8 0 - x 5 (x 2 k % 20) + 1) - nI 1 from by rw [nI_sub' (by omega)]; rfl, embL_upl (Or.inr rfl), Nat.max_eq_right (by omega)]
      · simp (disch := omega) only [↓nm_s, ↓bnd_s, ↓reduceIte, nI_add, pk_mul, nI_subdiv, nI_sub', nI_m1, nI_0m1, nI_clamp, gdi_nI, gdz_nI, nI_div, nrem, nI_ltI, nI_leI, nI_eq, leT, leF, ltT, ltF, eqT, eqF, neT, neF, z0, m1lt0, m1lt, m1le, nI_ne_neg, neg_ne_nI, embP_a, embL_a, embL_up, embL_up1, up2_ne, up2_at, up2_o, up1_ne, up1_at, bI_eq0, bI_eq1, or_true, true_or, and_true, true_and, or_false, false_or, and_false, false_and, not_true_eq_false, not_false_eq_true, if_true, if_false,  decide_true, decide_false, bI_t, bI_f, Nat.add_sub_cancel, Nat.zero_add, Nat.add_zero, Nat.mul_zero, upd_eq, upd_ne]
        rw [show nI (x 10 0 - 1) = nI (x 10 0) - nI 1 from by rw [nI_sub' (by omega)], embL_upl (Or.inr rfl), Nat.max_eq_left (by omega)]
  · simp (disch := omega) only [↓nm_s, ↓bnd_s, ↓reduceIte, nI_add, pk_mul, nI_subdiv, nI_sub', nI_m1, nI_0m1, nI_clamp, gdi_nI, gdz_nI, nI_div, nrem, nI_ltI, nI_leI, nI_eq, leT, leF, ltT, ltF, eqT, eqF, neT, neF, z0, m1lt0, m1lt, m1le, nI_ne_neg, neg_ne_nI, embP_a, embL_a, embL_up, embL_up1, up2_ne, up2_at, up2_o, up1_ne, up1_at, bI_eq0, bI_eq1, or_true, true_or, and_true, true_and, or_false, false_or, and_false, false_and, not_true_eq_false, not_false_eq_true, if_true, if_false,  decide_true, decide_false, bI_t, bI_f, Nat.add_sub_cancel, Nat.zero_add, Nat.add_zero, Nat.mul_zero, upd_eq, upd_ne]
theorem s_begin49 {p x : Nx} (hp : PI p) {k m v : Nat} (hk : k < p 6 0) (hm : m < 2 ^ 31) : fX1_begin_49 (embP p) (embL x) (nI k) (nI m) (nI v) = some (embL (if k = 0 then up2 (up2 x 3 k (x 8 0 + v + p 0 k)) 5 (m % 20) (x 8 0) else up2 x 3 k (x 8 0 + v + p 0 k))) := by
  have h2 := hp.n
  have h6 : m % 20 < 20 := Nat.mod_lt _ (by omega)
  unfold fX1_begin_49
  by_cases c : k = 0
  · simp (disch := omega) only [↓nm_s, ↓bnd_s, ↓reduceIte, nI_add, pk_mul, nI_subdiv, nI_sub', nI_m1, nI_0m1, nI_clamp, gdi_nI, gdz_nI, nI_div, nrem, nI_ltI, nI_leI, nI_eq, leT, leF, ltT, ltF, eqT, eqF, neT, neF, z0, m1lt0, m1lt, m1le, nI_ne_neg, neg_ne_nI, embP_a, embL_a, embL_up, embL_up1, up2_ne, up2_at, up2_o, up1_ne, up1_at, bI_eq0, bI_eq1, or_true, true_or, and_true, true_and, or_false, false_or, and_false, false_and, not_true_eq_false, not_false_eq_true, if_true, if_false,  decide_true, decide_false, bI_t, bI_f, Nat.add_sub_cancel, Nat.zero_add, Nat.add_zero, Nat.mul_zero, upd_eq, upd_ne]
  · simp (disch := omega) only [↓nm_s, ↓bnd_s, ↓reduceIte, nI_add, pk_mul, nI_subdiv, nI_sub', nI_m1, nI_0m1, nI_clamp, gdi_nI, gdz_nI, nI_div, nrem, nI_ltI, nI_leI, nI_eq, leT, leF, ltT, ltF, eqT, eqF, neT, neF, z0, m1lt0, m1lt, m1le, nI_ne_neg, neg_ne_nI, embP_a, embL_a, embL_up, embL_up1, up2_ne, up2_at, up2_o, up1_ne, up1_at, bI_eq0, bI_eq1, or_true, true_or, and_true, true_and, or_false, false_or, and_false, false_and, not_true_eq_false, not_false_eq_true, if_true, if_false,  decide_true, decide_false, bI_t, bI_f, Nat.add_sub_cancel, Nat.zero_add, Nat.add_zero, Nat.mul_zero, upd_eq, upd_ne]
theorem LI.up1k {p x : Nx} {k v : Nat} (hx : LI p x) (hT : x 8 0 < 2 ^ 30) : 1 ≤ (up2 x 1 k v) 7 0 ∧ (up2 x 1 k v) 7 0 ≤ 5 := by
  rw [up2_ne (by omega)]
  exact hx.f
theorem s_kindOf' {p x : Nx} (hp : PI p) (h1 : 1 ≤ x 7 0 ∧ x 7 0 ≤ 5) {m : Nat} (hm : m < 2 ^ 31) : fX1_kindOf (embP p) (embL x) (nI m) = some (nI (sKind p (x 7 0) m)) := by
  have h2 := hp.pl
  unfold fX1_kindOf sKind
  by_cases h : p 9 0 = 0
  · simp (disch := omega) only [↓nm_s, ↓bnd_s, ↓reduceIte, nI_add, pk_mul, nI_subdiv, nI_sub', nI_m1, nI_0m1, nI_clamp, gdi_nI, gdz_nI, nI_div, nrem, nI_ltI, nI_leI, nI_eq, leT, leF, ltT, ltF, eqT, eqF, neT, neF, z0, m1lt0, m1lt, m1le, nI_ne_neg, neg_ne_nI, embP_a, embL_a, embL_up, embL_up1, up2_ne, up2_at, up2_o, up1_ne, up1_at, bI_eq0, bI_eq1, or_true, true_or, and_true, true_and, or_false, false_or, and_false, false_and, not_true_eq_false, not_false_eq_true, if_true, if_false,  decide_true, decide_false, bI_t, bI_f, Nat.add_sub_cancel, Nat.zero_add, Nat.add_zero, Nat.mul_zero, upd_eq, upd_ne, fX1_kindOf_23]
  · have h3 : m / x 7 0 < 2 ^ 31 := Nat.lt_of_le_of_lt (Nat.div_le_self _ _) hm
    have h4 : m / x 7 0 % p 9 0 < p 9 0 := Nat.mod_lt _ (by omega)
    simp (disch := omega) only [↓nm_s, ↓bnd_s, ↓reduceIte, nI_add, pk_mul, nI_subdiv, nI_sub', nI_m1, nI_0m1, nI_clamp, gdi_nI, gdz_nI, nI_div, nrem, nI_ltI, nI_leI, nI_eq, leT, leF, ltT, ltF, eqT, eqF, neT, neF, z0, m1lt0, m1lt, m1le, nI_ne_neg, neg_ne_nI, embP_a, embL_a, embL_up, embL_up1, up2_ne, up2_at, up2_o, up1_ne, up1_at, bI_eq0, bI_eq1, or_true, true_or, and_true, true_and, or_false, false_or, and_false, false_and, not_true_eq_false, not_false_eq_true, if_true, if_false,  decide_true, decide_false, bI_t, bI_f, Nat.add_sub_cancel, Nat.zero_add, Nat.add_zero, Nat.mul_zero, upd_eq, upd_ne]
theorem sKind_lt {p : Nx} (hp : PI p) (f m : Nat) : sKind p f m < 2 ^ 31 := by
  unfold sKind
  by_cases h : p 9 0 = 0
  · rw [if_pos h]; omega
  · rw [if_neg h]; exact hp.kd _
theorem s_begin {p x : Nx} (hp : PI p) (hx : LI p x) (hT : x 8 0 < 2 ^ 30) {k : Nat} (hk : k < p 6 0) : fX1_begin (embP p) (embL x) (nI k) = some (embL (sBeg p x k)) := by
  have h2 := hp.n
  have h3 := hx.k (k := k) hk
  have h7 := LI.up1k (k := k) (v := x 1 k + 1) hx hT
  have ka := s_kindOf' hp h7 (m := x 1 k - 1) (by omega)
  have kb := s_kindOf' hp h7 (m := x 1 k) (by omega)
  have b4 := fun v => s_begin49 (p := p) (x := up2 x 1 k (x 1 k + 1)) hp (m := x 1 k) (v := v) hk (by omega)
  rw [up2_ne (by omega)] at ka kb
  simp only [up2_ne (show (8 : Nat) ≠ 1 from by omega)] at b4
  have t1 := sKind_lt hp (x 7 0) (x 1 k - 1)
  have t2 := sKind_lt hp (x 7 0) (x 1 k)
  unfold fX1_begin sBeg sSet
  by_cases z : x 1 k = 0
  · by_cases c : k = 0
    · simp (disch := omega) only [↓nm_s, ↓bnd_s, ↓reduceIte, nI_add, pk_mul, nI_subdiv, nI_sub', nI_m1, nI_0m1, nI_clamp, gdi_nI, gdz_nI, nI_div, nrem, nI_ltI, nI_leI, nI_eq, leT, leF, ltT, ltF, eqT, eqF, neT, neF, z0, m1lt0, m1lt, m1le, nI_ne_neg, neg_ne_nI, embP_a, embL_a, embL_up, embL_up1, up2_ne, up2_at, up2_o, up1_ne, up1_at, bI_eq0, bI_eq1, or_true, true_or, and_true, true_and, or_false, false_or, and_false, false_and, not_true_eq_false, not_false_eq_true, if_true, if_false,  decide_true, decide_false, bI_t, bI_f, Nat.add_sub_cancel, Nat.zero_add, Nat.add_zero, Nat.mul_zero, upd_eq, upd_ne, fX1_begin_48, b4]
    · simp (disch := omega) only [↓nm_s, ↓bnd_s, ↓reduceIte, nI_add, pk_mul, nI_subdiv, nI_sub', nI_m1, nI_0m1, nI_clamp, gdi_nI, gdz_nI, nI_div, nrem, nI_ltI, nI_leI, nI_eq, leT, leF, ltT, ltF, eqT, eqF, neT, neF, z0, m1lt0, m1lt, m1le, nI_ne_neg, neg_ne_nI, embP_a, embL_a, embL_up, embL_up1, up2_ne, up2_at, up2_o, up1_ne, up1_at, bI_eq0, bI_eq1, or_true, true_or, and_true, true_and, or_false, false_or, and_false, false_and, not_true_eq_false, not_false_eq_true, if_true, if_false,  decide_true, decide_false, bI_t, bI_f, Nat.add_sub_cancel, Nat.zero_add, Nat.add_zero, Nat.mul_zero, upd_eq, upd_ne, fX1_begin_48, b4]
  · by_cases e : sKind p (x 7 0) (x 1 k - 1) = sKind p (x 7 0) (x 1 k)
    · by_cases c : k = 0
      · simp (disch := omega) only [↓nm_s, ↓bnd_s, ↓reduceIte, nI_add, pk_mul, nI_subdiv, nI_sub', nI_m1, nI_0m1, nI_clamp, gdi_nI, gdz_nI, nI_div, nrem, nI_ltI, nI_leI, nI_eq, leT, leF, ltT, ltF, eqT, eqF, neT, neF, z0, m1lt0, m1lt, m1le, nI_ne_neg, neg_ne_nI, embP_a, embL_a, embL_up, embL_up1, up2_ne, up2_at, up2_o, up1_ne, up1_at, bI_eq0, bI_eq1, or_true, true_or, and_true, true_and, or_false, false_or, and_false, false_and, not_true_eq_false, not_false_eq_true, if_true, if_false,  decide_true, decide_false, bI_t, bI_f, Nat.add_sub_cancel, Nat.zero_add, Nat.add_zero, Nat.mul_zero, upd_eq, upd_ne, fX1_begin_48, b4, ka, kb]
      · simp (disch := omega) only [↓nm_s, ↓bnd_s, ↓reduceIte, nI_add, pk_mul, nI_subdiv, nI_sub', nI_m1, nI_0m1, nI_clamp, gdi_nI, gdz_nI, nI_div, nrem, nI_ltI, nI_leI, nI_eq, leT, leF, ltT, ltF, eqT, eqF, neT, neF, z0, m1lt0, m1lt, m1le, nI_ne_neg, neg_ne_nI, embP_a, embL_a, embL_up, embL_up1, up2_ne, up2_at, up2_o, up1_ne, up1_at, bI_eq0, bI_eq1, or_true, true_or, and_true, true_and, or_false, false_or, and_false, false_and, not_true_eq_false, not_false_eq_true, if_true, if_false,  decide_true, decide_false, bI_t, bI_f, Nat.add_sub_cancel, Nat.zero_add, Nat.add_zero, Nat.mul_zero, upd_eq, upd_ne, fX1_begin_48, b4, ka, kb]
    · by_cases c : k = 0
      · simp (disch := omega) only [↓nm_s, ↓bnd_s, ↓reduceIte, nI_add, pk_mul, nI_subdiv, nI_sub', nI_m1, nI_0m1, nI_clamp, gdi_nI, gdz_nI, nI_div, nrem, nI_ltI, nI_leI, nI_eq, leT, leF, ltT, ltF, eqT, eqF, neT, neF, z0, m1lt0, m1lt, m1le, nI_ne_neg, neg_ne_nI, embP_a, embL_a, embL_up, embL_up1, up2_ne, up2_at, up2_o, up1_ne, up1_at, bI_eq0, bI_eq1, or_true, true_or, and_true, true_and, or_false, false_or, and_false, false_and, not_true_eq_false, not_false_eq_true, if_true, if_false,  decide_true, decide_false, bI_t, bI_f, Nat.add_sub_cancel, Nat.zero_add, Nat.add_zero, Nat.mul_zero, upd_eq, upd_ne, fX1_begin_48, b4, ka, kb]
      · simp (disch := omega) only [↓nm_s, ↓bnd_s, ↓reduceIte, nI_add, pk_mul, nI_subdiv, nI_sub', nI_m1, nI_0m1, nI_clamp, gdi_nI, gdz_nI, nI_div, nrem, nI_ltI, nI_leI, nI_eq, leT, leF, ltT, ltF, eqT, eqF, neT, neF, z0, m1lt0, m1lt, m1le, nI_ne_neg, neg_ne_nI, embP_a, embL_a, embL_up, embL_up1, up2_ne, up2_at, up2_o, up1_ne, up1_at, bI_eq0, bI_eq1, or_true, true_or, and_true, true_and, or_false, false_or, and_false, false_and, not_true_eq_false, not_false_eq_true, if_true, if_false,  decide_true, decide_false, bI_t, bI_f, Nat.add_sub_cancel, Nat.zero_add, Nat.add_zero, Nat.mul_zero, upd_eq, upd_ne, fX1_begin_48, b4, ka, kb]
end
section
/-! what finishing and beginning leave -/
theorem sFin_o {p x : Nx} {k a i : Nat} (h : a ≠ 2 ∧ a ≠ 9 ∧ a ≠ 10) : sFin p x k a i = x a i := by
  unfold sFin
  by_cases c : k + 1 = p 6 0
  · rw [if_pos c, up1_ne h.2.2, up1_ne h.2.1, up2_ne h.1]
  · rw [if_neg c, up2_ne h.1]
theorem sFin_2 {p x : Nx} {k i : Nat} : sFin p x k 2 i = if i = k then x 2 k + 1 else x 2 i := by
  unfold sFin
  by_cases c : k + 1 = p 6 0
  · rw [if_pos c, up1_ne (by omega), up1_ne (by omega), up2_if]
  · rw [if_neg c, up2_if]
theorem sFin_9 {p x : Nx} {k i : Nat} : sFin p x k 9 i = if k + 1 = p 6 0 then x 8 0 - x 5 (x 2 k % 20) + 1 else x 9 i := by
  unfold sFin
  by_cases c : k + 1 = p 6 0
  · rw [if_pos c, if_pos c, up1_ne (by omega), up1_at]
  · rw [if_neg c, if_neg c, up2_ne (by omega)]
theorem sFin_10 {p x : Nx} {k i : Nat} : sFin p x k 10 i = if k + 1 = p 6 0 then max (x 10 0) (x 8 0 - x 5 (x 2 k % 20) + 1) else x 10 i := by
  unfold sFin
  by_cases c : k + 1 = p 6 0
  · rw [if_pos c, if_pos c, up1_at]
  · rw [if_neg c, if_neg c, up2_ne (by omega)]
theorem sBeg_o {p x : Nx} {k a i : Nat} (h : a ≠ 1 ∧ a ≠ 3 ∧ a ≠ 5) : sBeg p x k a i = x a i := by
  unfold sBeg
  by_cases c : k = 0
  · rw [if_pos c, up2_ne h.2.2, up2_ne h.2.1, up2_ne h.1]
  · rw [if_neg c, up2_ne h.2.1, up2_ne h.1]
theorem sBeg_1 {p x : Nx} {k i : Nat} : sBeg p x k 1 i = if i = k then x 1 k + 1 else x 1 i := by
  unfold sBeg
  by_cases c : k = 0
  · rw [if_pos c, up2_ne (by omega), up2_ne (by omega), up2_if]
  · rw [if_neg c, up2_ne (by omega), up2_if]
theorem sBeg_3 {p x : Nx} {k i : Nat} : sBeg p x k 3 i = if i = k then x 8 0 + sSet p x k + p 0 k else x 3 i := by
  unfold sBeg
  by_cases c : k = 0
  · rw [if_pos c, up2_ne (by omega), up2_if, up2_ne (by omega)]
  · rw [if_neg c, up2_if, up2_ne (by omega)]
theorem sBeg_5 {p x : Nx} {k i : Nat} : sBeg p x k 5 i = if k = 0 ∧ i = x 1 0 % 20 then x 8 0 else x 5 i := by
  unfold sBeg
  by_cases c : k = 0
  · subst c
    rw [if_pos rfl, up2_if, up2_ne (by omega), up2_ne (by omega)]
    by_cases e : i = x 1 0 % 20
    · rw [if_pos e, if_pos ⟨rfl, e⟩]
    · rw [if_neg e, if_neg (fun z => e z.2)]
  · rw [if_neg c, up2_ne (by omega), up2_ne (by omega), if_neg (fun z => c z.1)]
theorem sSet_le {p x : Nx} (hp : PI p) {k : Nat} (hk : k < p 6 0) : sSet p x k ≤ 60 := by
  have := hp.k hk
  unfold sSet
  by_cases a : x 1 k = 0
  · rw [if_pos a]; omega
  · rw [if_neg a]
    by_cases b : sKind p (x 7 0) (x 1 k - 1) = sKind p (x 7 0) (x 1 k)
    · rw [if_pos b]; omega
    · rw [if_neg b]; omega
theorem LI_fin {p x : Nx} (hp : PI p) (hx : LI p x) {k : Nat} (hk : k < p 6 0) (hb : x 1 k ≠ x 2 k) (hd : x 3 k ≤ x 8 0) : LI p (sFin p x k) := by
  have hn := hp.n
  have hkk := hx.k hk
  have hek := hx.e hk hb
  have htk := hp.k hk
  refine ⟨?_, ?_, ?_, ?_, ?_, ?_, ?_⟩
  · simp (disch := omega) only [sFin_o, sFin_2, sFin_9, sFin_10]; exact hx.f
  · intro l hl
    have h1 := hx.l hl
    simp (disch := omega) only [sFin_o, sFin_2, sFin_9, sFin_10]
    by_cases c : p 3 l = k
    · rw [if_pos c]; rw [c] at h1; omega
    · rw [if_neg c]; omega
  · intro j hj
    have h1 := hx.k hj
    simp (disch := omega) only [sFin_o, sFin_2, sFin_9, sFin_10]
    by_cases c : j = k
    · subst c; rw [if_pos rfl]; omega
    · rw [if_neg c]; omega
  · intro j hj
    have h1 := hx.s hj
    simp (disch := omega) only [sFin_o, sFin_2, sFin_9, sFin_10]
    by_cases c : j = k
    · subst c; rw [if_pos rfl]; omega
    · rw [if_neg c]; omega
  · intro j hj
    simp (disch := omega) only [sFin_o, sFin_2, sFin_9, sFin_10]
    by_cases c : j = k
    · subst c; rw [if_pos rfl]; intro; omega
    · rw [if_neg c]; intro z
      exact hx.e hj z
  · intro j
    simp (disch := omega) only [sFin_o, sFin_2, sFin_9, sFin_10]
    by_cases c : p 6 0 - 1 = k
    · subst c; rw [if_pos rfl]; intro h1 h2
      exact hx.b (by omega) h2
    · rw [if_neg c]; intro h1 h2
      exact hx.b h1 h2
  · have h1 := hx.d
    simp (disch := omega) only [sFin_o, sFin_2, sFin_9, sFin_10]
    by_cases c : k + 1 = p 6 0
    · rw [if_pos c, if_pos c]; omega
    · rw [if_neg c, if_neg c]; omega
theorem canB_w {p x : Nx} {k : Nat} (h : canB p x k = true) (h0 : k ≠ 0) : x 1 k < x 2 (k - 1) := by
  unfold canB at h
  by_cases c : k ≠ 0 ∧ sWait x k = 0
  · rw [if_pos c] at h; cases h
  · have : sWait x k ≠ 0 := fun z => c ⟨h0, z⟩
    unfold sWait at this
    rw [if_neg h0] at this
    omega
theorem canB_l {p x : Nx} {k l : Nat} (h : canB p x k = true) (hl : l < p 7 0) (e : p 2 l = k) : x 1 (p 2 l) < x 4 l + x 2 (p 3 l) := by
  unfold canB at h
  by_cases c : k ≠ 0 ∧ sWait x k = 0
  · rw [if_pos c] at h; cases h
  · rw [if_neg c] at h
    have := hasC_iff.mp h l (by omega) (by omega) e
    unfold sFree at this
    omega
theorem canB_mk {p x : Nx} {k : Nat} (h0 : k ≠ 0 → x 1 k < x 2 (k - 1)) (hl : ∀ l, l < p 7 0 → p 2 l = k → x 1 (p 2 l) < x 4 l + x 2 (p 3 l)) : canB p x k = true := by
  unfold canB
  rw [if_neg]
  · refine hasC_iff.mpr (fun l _ h2 h3 => ?_)
    have := hl l (by omega) h3
    unfold sFree
    omega
  · rintro ⟨h1, h2⟩
    have := h0 h1
    unfold sWait at h2
    rw [if_neg h1] at h2
    omega
theorem mod20 {a b : Nat} (h : a % 20 = b % 20) (h1 : a ≤ b) (h2 : b < a + 20) : a = b := by omega
theorem LI_beg {p x : Nx} (hp : PI p) (hx : LI p x) {k : Nat} (hk : k < p 6 0) (hb : x 1 k = x 2 k) (hc : canB p x k = true) : LI p (sBeg p x k) := by
  have hn := hp.n
  have hkk := hx.k hk
  have htk := hp.k hk
  have hs := sSet_le (x := x) hp hk
  refine ⟨?_, ?_, ?_, ?_, ?_, ?_, ?_⟩
  · simp (disch := omega) only [sBeg_o, sBeg_1, sBeg_3, sBeg_5]; exact hx.f
  · intro l hl
    have h1 := hx.l hl
    simp (disch := omega) only [sBeg_o, sBeg_1, sBeg_3, sBeg_5]
    by_cases c : p 2 l = k
    · have := canB_l hc hl c
      rw [if_pos c]; rw [c] at this; omega
    · rw [if_neg c]; omega
  · intro j hj
    have h1 := hx.k hj
    simp (disch := omega) only [sBeg_o, sBeg_1, sBeg_3, sBeg_5]
    by_cases c : j = k
    · subst c; rw [if_pos rfl]; omega
    · rw [if_neg c]; omega
  · intro j hj
    have h1 := hx.s hj
    simp (disch := omega) only [sBeg_o, sBeg_1, sBeg_3, sBeg_5]
    by_cases c : j + 1 = k
    · have := canB_w hc (by omega)
      subst c; rw [if_pos rfl]
      rw [show j + 1 - 1 = j from rfl] at this
      omega
    · rw [if_neg c]; omega
  · intro j hj
    simp (disch := omega) only [sBeg_o, sBeg_1, sBeg_3, sBeg_5]
    by_cases c : j = k
    · subst c; rw [if_pos rfl, if_pos rfl]; intro; omega
    · rw [if_neg c, if_neg c]; intro z
      exact hx.e hj z
  · intro j
    simp (disch := omega) only [sBeg_o, sBeg_1, sBeg_3, sBeg_5]
    intro h1 h2
    by_cases c : k = 0
    · subst c
      rw [if_pos rfl] at h2
      by_cases e : j = x 1 0
      · subst e; rw [if_pos ⟨rfl, rfl⟩]; omega
      · by_cases e2 : j % 20 = x 1 0 % 20
        · rw [if_pos ⟨rfl, e2⟩]; omega
        · rw [if_neg (fun z => e2 z.2)]
          exact hx.b h1 (by omega)
    · rw [if_neg (fun z => c z.1)]
      rw [if_neg (fun z => c z.symm)] at h2
      exact hx.b h1 h2
  · have h1 := hx.d
    simp (disch := omega) only [sBeg_o, sBeg_1, sBeg_3, sBeg_5]
    exact h1
/-! rounds -/
def dI (m : Nat) : Int32 := nI m + (-1)
theorem dI_0 : dI 0 = -1 := by decide
theorem dI_s (m : Nat) : dI (m + 1) = nI m := pk_m1 m
theorem dI_f (m : Nat) : nI m + (-1) = dI m := rfl
theorem dI_p {m : Nat} (h : 0 < m) : nI (m - 1) = dI m := by
  obtain ⟨b, rfl⟩ : ∃ b, m = b + 1 := ⟨m - 1, by omega⟩
  rw [dI_s]; rfl
theorem LI_begIf {p x : Nx} (hp : PI p) (hx : LI p x) {k : Nat} (hk : k < p 6 0) : LI p (sBegIf p x k) := by
  unfold sBegIf
  by_cases a : x 1 k = x 2 k
  · rw [if_pos a]
    by_cases b : canB p x k = true
    · rw [if_pos b]; exact LI_beg hp hx hk a b
    · rw [if_neg b]; exact hx
  · rw [if_neg a]; exact hx
theorem LI_finIf {p x : Nx} (hp : PI p) (hx : LI p x) {k : Nat} (hk : k < p 6 0) : LI p (sFinIf p x k) := by
  unfold sFinIf
  by_cases a : x 1 k = x 2 k
  · rw [if_pos a]; exact hx
  · rw [if_neg a]
    by_cases b : x 8 0 < x 3 k
    · rw [if_pos b]; exact hx
    · rw [if_neg b]; exact LI_fin hp hx hk a (by omega)
theorem begIf_o {p x : Nx} {k a i : Nat} (h : a ≠ 1 ∧ a ≠ 3 ∧ a ≠ 5) : sBegIf p x k a i = x a i := by
  unfold sBegIf
  by_cases c : x 1 k = x 2 k
  · rw [if_pos c]
    by_cases b : canB p x k = true
    · rw [if_pos b]; exact sBeg_o h
    · rw [if_neg b]
  · rw [if_neg c]
theorem begIf_k {p x : Nx} {k a i : Nat} (h : a = 1 ∨ a = 3) (h2 : i ≠ k) : sBegIf p x k a i = x a i := by
  unfold sBegIf
  by_cases c : x 1 k = x 2 k
  · rw [if_pos c]
    by_cases b : canB p x k = true
    · rw [if_pos b]
      rcases h with rfl | rfl
      · rw [sBeg_1, if_neg h2]
      · rw [sBeg_3, if_neg h2]
    · rw [if_neg b]
  · rw [if_neg c]
theorem finIf_o {p x : Nx} {k a i : Nat} (h : a ≠ 2 ∧ a ≠ 9 ∧ a ≠ 10) : sFinIf p x k a i = x a i := by
  unfold sFinIf
  by_cases c : x 1 k = x 2 k
  · rw [if_pos c]
  · rw [if_neg c]
    by_cases b : x 8 0 < x 3 k
    · rw [if_pos b]
    · rw [if_neg b]; exact sFin_o h
theorem finIf_k {p x : Nx} {k i : Nat} (h2 : i ≠ k) : sFinIf p x k 2 i = x 2 i := by
  unfold sFinIf
  by_cases c : x 1 k = x 2 k
  · rw [if_pos c]
  · rw [if_neg c]
    by_cases b : x 8 0 < x 3 k
    · rw [if_pos b]
    · rw [if_neg b, sFin_2, if_neg h2]
theorem LI_down {p : Nx} {f : Nx → Nat → Nx} (hf : ∀ x k, LI p x → k < p 6 0 → LI p (f x k)) : ∀ {m : Nat} {x : Nx}, m ≤ p 6 0 → LI p x → LI p (down f m x)
  | 0, _, _, h => h
  | m + 1, x, hm, h => LI_down hf (m := m) (by omega) (hf x m h (by omega))
theorem LI_round {p x : Nx} (hp : PI p) (hx : LI p x) : LI p (sRound p x) :=
  LI_down (fun _ _ h hk => LI_begIf hp h hk) (Nat.le_refl _) (LI_down (fun _ _ h hk => LI_finIf hp h hk) (Nat.le_refl _) hx)
theorem down_o {f : Nx → Nat → Nx} {a i : Nat} (hf : ∀ x k, f x k a i = x a i) : ∀ {m : Nat} {x : Nx}, down f m x a i = x a i
  | 0, _ => rfl
  | m + 1, x => (down_o hf (m := m) (x := f x m)).trans (hf x m)
theorem down_k {f : Nx → Nat → Nx} {a i : Nat} (hf : ∀ x k, i ≠ k → f x k a i = x a i) : ∀ {m : Nat} {x : Nx}, m ≤ i → down f m x a i = x a i
  | 0, _, _ => rfl
  | m + 1, x, h => (down_k hf (m := m) (x := f x m) (by omega)).trans (hf x m (by omega))
theorem round_o {p x : Nx} {a i : Nat} (h : a = 4 ∨ a = 6 ∨ a = 7 ∨ a = 8) : sRound p x a i = x a i := by
  unfold sRound
  rw [down_o (fun _ _ => begIf_o (by omega)), down_o (fun _ _ => finIf_o (by omega))]
theorem s_round56 {p : Nx} (hp : PI p) (N : Nat) (hN : 5 < N) : ∀ {m f : Nat} {x : Nx}, m < f → m ≤ p 6 0 → LI p x → x 8 0 < 2 ^ 30 → itn (fX1_round_56b N) (fun _ _ _ => none) f (embP p) (embL x) (dI m) = some (embL (down (sBegIf p) m x))
  | _, 0, x, h, _, _, _ => by omega
  | 0, f + 1, x, h, hm, hx, hT => by
    rw [itn_s]
    unfold fX1_round_56b down
    rw [dI_0]
    simp (disch := omega) only [↓nm_s, ↓bnd_s, ↓reduceIte, nI_add, pk_mul, nI_subdiv, nI_sub', nI_m1, nI_0m1, nI_clamp, gdi_nI, gdz_nI, nI_div, nrem, nI_ltI, nI_leI, nI_eq, leT, leF, ltT, ltF, eqT, eqF, neT, neF, z0, m1lt0, m1lt, m1le, nI_ne_neg, neg_ne_nI, embP_a, embL_a, embL_up, embL_up1, up2_ne, up2_at, up2_o, up1_ne, up1_at, bI_eq0, bI_eq1, or_true, true_or, and_true, true_and, or_false, false_or, and_false, false_and, not_true_eq_false, not_false_eq_true, if_true, if_false,  decide_true, decide_false, bI_t, bI_f, Nat.add_sub_cancel, Nat.zero_add, Nat.add_zero, Nat.mul_zero, upd_eq, upd_ne]
  | m + 1, f + 1, x, h, hm, hx, hT => by
    have h2 := hp.n
    have h3 := hx.k (k := m) (by omega)
    have hi := LI_begIf (k := m) hp hx (by omega)
    have i := s_round56 hp N hN (m := m) (f := f) (x := sBegIf p x m) (by omega) (by omega) hi (by rw [begIf_o (by omega)]; exact hT)
    rw [itn_s, dI_s]
    generalize itn (fX1_round_56b N) (fun _ _ _ => none) f = K at i ⊢
    have a := s_isIdle (x := x) (k := m) (by omega) (by omega) (by omega)
    have b := s_canB hp hx hT (N := N) (k := m) hN (by omega)
    have c := s_begin hp hx hT (k := m) (by omega)
    unfold fX1_round_56b down
    unfold sBegIf at i ⊢
    by_cases e : x 1 m = x 2 m
    · cases d : canB p x m with
      | true =>
        rw [if_pos e, if_pos d] at i
        rw [d] at b
        simp (disch := omega) only [↓nm_s, ↓bnd_s, ↓reduceIte, nI_add, pk_mul, nI_subdiv, nI_sub', nI_m1, nI_0m1, nI_clamp, gdi_nI, gdz_nI, nI_div, nrem, nI_ltI, nI_leI, nI_eq, leT, leF, ltT, ltF, eqT, eqF, neT, neF, z0, m1lt0, m1lt, m1le, nI_ne_neg, neg_ne_nI, embP_a, embL_a, embL_up, embL_up1, up2_ne, up2_at, up2_o, up1_ne, up1_at, bI_eq0, bI_eq1, or_true, true_or, and_true, true_and, or_false, false_or, and_false, false_and, not_true_eq_false, not_false_eq_true, if_true, if_false,  decide_true, decide_false, bI_t, bI_f, Nat.add_sub_cancel, Nat.zero_add, Nat.add_zero, Nat.mul_zero, upd_eq, upd_ne, a, b, c, fX1_round_81, dI_f, i]
      | false =>
        rw [if_pos e, if_neg (by rw [d]; decide)] at i
        rw [d] at b
        simp (disch := omega) only [↓nm_s, ↓bnd_s, ↓reduceIte, nI_add, pk_mul, nI_subdiv, nI_sub', nI_m1, nI_0m1, nI_clamp, gdi_nI, gdz_nI, nI_div, nrem, nI_ltI, nI_leI, nI_eq, leT, leF, ltT, ltF, eqT, eqF, neT, neF, z0, m1lt0, m1lt, m1le, nI_ne_neg, neg_ne_nI, embP_a, embL_a, embL_up, embL_up1, up2_ne, up2_at, up2_o, up1_ne, up1_at, bI_eq0, bI_eq1, or_true, true_or, and_true, true_and, or_false, false_or, and_false, false_and, not_true_eq_false, not_false_eq_true, if_true, if_false,  decide_true, decide_false, bI_t, bI_f, Nat.add_sub_cancel, Nat.zero_add, Nat.add_zero, Nat.mul_zero, upd_eq, upd_ne, a, b, c, fX1_round_81, dI_f, i, Bool.false_eq_true]
    · rw [if_neg e] at i
      simp (disch := omega) only [↓nm_s, ↓bnd_s, ↓reduceIte, nI_add, pk_mul, nI_subdiv, nI_sub', nI_m1, nI_0m1, nI_clamp, gdi_nI, gdz_nI, nI_div, nrem, nI_ltI, nI_leI, nI_eq, leT, leF, ltT, ltF, eqT, eqF, neT, neF, z0, m1lt0, m1lt, m1le, nI_ne_neg, neg_ne_nI, embP_a, embL_a, embL_up, embL_up1, up2_ne, up2_at, up2_o, up1_ne, up1_at, bI_eq0, bI_eq1, or_true, true_or, and_true, true_and, or_false, false_or, and_false, false_and, not_true_eq_false, not_false_eq_true, if_true, if_false,  decide_true, decide_false, bI_t, bI_f, Nat.add_sub_cancel, Nat.zero_add, Nat.add_zero, Nat.mul_zero, upd_eq, upd_ne, a, fX1_round_81, dI_f, i]
theorem s_round10 {p : Nx} (hp : PI p) (N : Nat) (hN : 6 < N) : ∀ {m f : Nat} {x : Nx}, m < f → m ≤ p 6 0 → LI p x → x 8 0 < 2 ^ 30 → itn (fX1_round_10b N) (fun _ _ _ => none) f (embP p) (embL x) (dI m) = some (embL (down (sBegIf p) (p 6 0) (down (sFinIf p) m x)))
  | _, 0, x, h, _, _, _ => by omega
  | 0, f + 1, x, h, hm, hx, hT => by
    have h2 := hp.n
    have g := s_round56 hp N (by omega) (m := p 6 0) (f := N) (x := x) (by omega) (by omega) hx hT
    rw [itn_s]
    unfold fX1_round_10b
    rw [dI_0]
    simp (disch := omega) only [↓nm_s, ↓bnd_s, ↓reduceIte, nI_add, pk_mul, nI_subdiv, nI_sub', nI_m1, nI_0m1, nI_clamp, gdi_nI, gdz_nI, nI_div, nrem, nI_ltI, nI_leI, nI_eq, leT, leF, ltT, ltF, eqT, eqF, neT, neF, z0, m1lt0, m1lt, m1le, nI_ne_neg, neg_ne_nI, embP_a, embL_a, embL_up, embL_up1, up2_ne, up2_at, up2_o, up1_ne, up1_at, bI_eq0, bI_eq1, or_true, true_or, and_true, true_and, or_false, false_or, and_false, false_and, not_true_eq_false, not_false_eq_true, if_true, if_false,  decide_true, decide_false, bI_t, bI_f, Nat.add_sub_cancel, Nat.zero_add, Nat.add_zero, Nat.mul_zero, upd_eq, upd_ne, fX1_round_56, dI_p, g]
    rfl
  | m + 1, f + 1, x, h, hm, hx, hT => by
    have h2 := hp.n
    have h3 := hx.k (k := m) (by omega)
    have hi := LI_finIf (k := m) hp hx (by omega)
    have i := s_round10 hp N hN (m := m) (f := f) (x := sFinIf p x m) (by omega) (by omega) hi (by rw [finIf_o (by omega)]; exact hT)
    rw [itn_s, dI_s]
    generalize itn (fX1_round_10b N) (fun _ _ _ => none) f = K at i ⊢
    have a := s_isIdle (x := x) (k := m) (by omega) (by omega) (by omega)
    unfold fX1_round_10b
    rw [show down (sFinIf p) (m + 1) x = down (sFinIf p) m (sFinIf p x m) from rfl]
    unfold sFinIf at i ⊢
    by_cases e : x 1 m = x 2 m
    · rw [if_pos e] at i
      simp (disch := omega) only [↓nm_s, ↓bnd_s, ↓reduceIte, nI_add, pk_mul, nI_subdiv, nI_sub', nI_m1, nI_0m1, nI_clamp, gdi_nI, gdz_nI, nI_div, nrem, nI_ltI, nI_leI, nI_eq, leT, leF, ltT, ltF, eqT, eqF, neT, neF, z0, m1lt0, m1lt, m1le, nI_ne_neg, neg_ne_nI, embP_a, embL_a, embL_up, embL_up1, up2_ne, up2_at, up2_o, up1_ne, up1_at, bI_eq0, bI_eq1, or_true, true_or, and_true, true_and, or_false, false_or, and_false, false_and, not_true_eq_false, not_false_eq_true, if_true, if_false,  decide_true, decide_false, bI_t, bI_f, Nat.add_sub_cancel, Nat.zero_add, Nat.add_zero, Nat.mul_zero, upd_eq, upd_ne, a, fX1_round_40, dI_f, i]
    · have h4 := hx.e (k := m) (by omega) e
      rw [if_neg e] at i
      by_cases d : x 8 0 < x 3 m
      · rw [if_pos d] at i
        simp (disch := omega) only [↓nm_s, ↓bnd_s, ↓reduceIte, nI_add, pk_mul, nI_subdiv, nI_sub', nI_m1, nI_0m1, nI_clamp, gdi_nI, gdz_nI, nI_div, nrem, nI_ltI, nI_leI, nI_eq, leT, leF, ltT, ltF, eqT, eqF, neT, neF, z0, m1lt0, m1lt, m1le, nI_ne_neg, neg_ne_nI, embP_a, embL_a, embL_up, embL_up1, up2_ne, up2_at, up2_o, up1_ne, up1_at, bI_eq0, bI_eq1, or_true, true_or, and_true, true_and, or_false, false_or, and_false, false_and, not_true_eq_false, not_false_eq_true, if_true, if_false,  decide_true, decide_false, bI_t, bI_f, Nat.add_sub_cancel, Nat.zero_add, Nat.add_zero, Nat.mul_zero, upd_eq, upd_ne, a, fX1_round_40, dI_f, i]
      · have c := s_finish hp hx hT (k := m) (by omega) e
        rw [if_neg d] at i
        simp (disch := omega) only [↓nm_s, ↓bnd_s, ↓reduceIte, nI_add, pk_mul, nI_subdiv, nI_sub', nI_m1, nI_0m1, nI_clamp, gdi_nI, gdz_nI, nI_div, nrem, nI_ltI, nI_leI, nI_eq, leT, leF, ltT, ltF, eqT, eqF, neT, neF, z0, m1lt0, m1lt, m1le, nI_ne_neg, neg_ne_nI, embP_a, embL_a, embL_up, embL_up1, up2_ne, up2_at, up2_o, up1_ne, up1_at, bI_eq0, bI_eq1, or_true, true_or, and_true, true_and, or_false, false_or, and_false, false_and, not_true_eq_false, not_false_eq_true, if_true, if_false,  decide_true, decide_false, bI_t, bI_f, Nat.add_sub_cancel, Nat.zero_add, Nat.add_zero, Nat.mul_zero, upd_eq, upd_ne, a, c, fX1_round_40, dI_f, i]
theorem s_round {p x : Nx} (hp : PI p) {N : Nat} (hN : 6 < N) (hx : LI p x) (hT : x 8 0 < 2 ^ 30) : fX1_round N (embP p) (embL x) = some (embL (sRound p x)) := by
  have h2 := hp.n
  have g := s_round10 hp N hN (m := p 6 0) (f := N) (x := x) (by omega) (by omega) hx hT
  unfold fX1_round sRound
  simp (disch := omega) only [↓nm_s, ↓bnd_s, ↓reduceIte, nI_add, pk_mul, nI_subdiv, nI_sub', nI_m1, nI_0m1, nI_clamp, gdi_nI, gdz_nI, nI_div, nrem, nI_ltI, nI_leI, nI_eq, leT, leF, ltT, ltF, eqT, eqF, neT, neF, z0, m1lt0, m1lt, m1le, nI_ne_neg, neg_ne_nI, embP_a, embL_a, embL_up, embL_up1, up2_ne, up2_at, up2_o, up1_ne, up1_at, bI_eq0, bI_eq1, or_true, true_or, and_true, true_and, or_false, false_or, and_false, false_and, not_true_eq_false, not_false_eq_true, if_true, if_false,  decide_true, decide_false, bI_t, bI_f, Nat.add_sub_cancel, Nat.zero_add, Nat.add_zero, Nat.mul_zero, upd_eq, upd_ne, fX1_round_10, dI_p, g]
end
section
/-! after a round: nobody is due, nobody idle can begin; somebody is busy -/
theorem canB_iff {p x : Nx} {k : Nat} : canB p x k = true ↔ (k ≠ 0 → x 1 k < x 2 (k - 1)) ∧ ∀ l, l < p 7 0 → p 2 l = k → x 1 (p 2 l) < x 4 l + x 2 (p 3 l) :=
  ⟨fun h => ⟨fun h0 => canB_w h h0, fun _ hl e => canB_l h hl e⟩, fun h => canB_mk h.1 h.2⟩
theorem canB_congr {p x y : Nx} {k : Nat} (h1 : x 1 k = y 1 k) (h2 : ∀ i, x 2 i = y 2 i) (h4 : ∀ l, l < p 7 0 → x 4 l = y 4 l) : canB p x k = canB p y k := by
  rw [Bool.eq_iff_iff, canB_iff, canB_iff]
  constructor
  · rintro ⟨a, b⟩
    refine ⟨fun h0 => ?_, fun l hl e => ?_⟩
    · have := a h0; rw [← h1, ← h2]; exact this
    · have := b l hl e; rw [e] at this ⊢; rw [← h1, ← h2, ← h4 l hl]; exact this
  · rintro ⟨a, b⟩
    refine ⟨fun h0 => ?_, fun l hl e => ?_⟩
    · have := a h0; rw [h1, h2]; exact this
    · have := b l hl e; rw [e] at this ⊢; rw [h1, h2, h4 l hl]; exact this
def S1 (p x : Nx) (m : Nat) : Prop := ∀ k, m ≤ k → k < p 6 0 → x 1 k ≠ x 2 k → x 8 0 < x 3 k
def NB (p x : Nx) (m : Nat) : Prop := ∀ k, m ≤ k → k < p 6 0 → x 1 k = x 2 k → canB p x k = false
theorem S1_finIf {p x : Nx} {m : Nat} (hx : LI p x) (hm : m < p 6 0) (h : S1 p x (m + 1)) : S1 p (sFinIf p x m) m := by
  intro k h1 h2 h3
  have hk := hx.k hm
  by_cases e : k = m
  · subst e
    unfold sFinIf at h3 ⊢
    by_cases c : x 1 k = x 2 k
    · rw [if_pos c] at h3; exact absurd c h3
    · rw [if_neg c] at h3 ⊢
      by_cases d : x 8 0 < x 3 k
      · rw [if_pos d]; exact d
      · rw [if_neg d, sFin_o (by omega), sFin_2, if_pos rfl] at h3
        omega
  · rw [finIf_o (by omega), finIf_o (by omega)]
    rw [finIf_o (by omega), finIf_k e] at h3
    exact h k (by omega) h2 h3
theorem S1_fin {p : Nx} (hp : PI p) : ∀ {m : Nat} {x : Nx}, m ≤ p 6 0 → LI p x → S1 p x m → S1 p (down (sFinIf p) m x) 0
  | 0, _, _, _, h => h
  | m + 1, x, hm, hx, h => S1_fin hp (m := m) (by omega) (LI_finIf hp hx (by omega)) (S1_finIf hx (by omega) h)
theorem S1_begIf {p x : Nx} {m : Nat} (hp : PI p) (hm : m < p 6 0) (h : S1 p x 0) : S1 p (sBegIf p x m) 0 := by
  have ht := hp.k hm
  intro k h1 h2 h3
  unfold sBegIf at h3 ⊢
  by_cases c : x 1 m = x 2 m
  · rw [if_pos c] at h3 ⊢
    by_cases d : canB p x m = true
    · rw [if_pos d] at h3 ⊢
      rw [sBeg_o (by omega), sBeg_3]
      by_cases e : k = m
      · rw [if_pos e]; omega
      · rw [if_neg e]
        rw [sBeg_1, if_neg e, sBeg_o (by omega)] at h3
        exact h k (by omega) h2 h3
    · rw [if_neg d] at h3 ⊢
      exact h k h1 h2 h3
  · rw [if_neg c] at h3 ⊢
    exact h k h1 h2 h3
theorem NB_begIf {p x : Nx} {m : Nat} (h : NB p x (m + 1)) : NB p (sBegIf p x m) m := by
  intro k h1 h2 h3
  by_cases e : k = m
  · subst e
    unfold sBegIf at h3 ⊢
    by_cases c : x 1 k = x 2 k
    · rw [if_pos c] at h3 ⊢
      by_cases d : canB p x k = true
      · rw [if_pos d, sBeg_1, if_pos rfl, sBeg_o (by omega)] at h3
        omega
      · rw [if_neg d]
        exact Bool.eq_false_iff.mpr d
    · rw [if_neg c] at h3
      exact absurd h3 c
  · rw [canB_congr (y := x) (begIf_k (Or.inl rfl) e) (fun i => begIf_o (by omega)) (fun l _ => begIf_o (by omega))]
    rw [begIf_k (Or.inl rfl) e, begIf_o (by omega)] at h3
    exact h k (by omega) h2 h3
theorem SN_beg {p : Nx} (hp : PI p) : ∀ {m : Nat} {x : Nx}, m ≤ p 6 0 → S1 p x 0 → NB p x m → S1 p (down (sBegIf p) m x) 0 ∧ NB p (down (sBegIf p) m x) 0
  | 0, _, _, h, g => ⟨h, g⟩
  | m + 1, x, hm, h, g => SN_beg hp (m := m) (by omega) (S1_begIf hp (by omega) h) (NB_begIf g)
/-- a line between two rounds -/
def LZ (p x : Nx) : Prop := LI p x ∧ S1 p x 0 ∧ NB p x 0
theorem LZ_round {p x : Nx} (hp : PI p) (hx : LI p x) : LZ p (sRound p x) := by
  refine ⟨LI_round hp hx, ?_⟩
  exact SN_beg hp (Nat.le_refl _) (S1_fin hp (Nat.le_refl _) hx (fun k h1 h2 => by omega)) (fun k h1 h2 => by omega)
/-- through counts after a round -/
theorem finIf_at {p x : Nx} {k : Nat} : sFinIf p x k 2 k = x 2 k + (if x 1 k ≠ x 2 k ∧ x 3 k ≤ x 8 0 then 1 else 0) := by
  unfold sFinIf
  by_cases c : x 1 k = x 2 k
  · rw [if_pos c, if_neg (fun z => z.1 c)]; rfl
  · rw [if_neg c]
    by_cases d : x 8 0 < x 3 k
    · rw [if_pos d, if_neg (by omega)]; rfl
    · rw [if_neg d, sFin_2, if_pos rfl, if_pos ⟨c, by omega⟩]
theorem fin_at {p : Nx} : ∀ {m k : Nat} {x : Nx}, k < m → down (sFinIf p) m x 2 k = x 2 k + (if x 1 k ≠ x 2 k ∧ x 3 k ≤ x 8 0 then 1 else 0)
  | 0, k, x, h => by omega
  | m + 1, k, x, h => by
    show down (sFinIf p) m (sFinIf p x m) 2 k = _
    by_cases e : k = m
    · subst e
      rw [down_k (fun _ _ z => finIf_k z) (Nat.le_refl _), finIf_at]
    · rw [fin_at (m := m) (by omega), finIf_k e, finIf_o (by omega), finIf_o (by omega), finIf_o (by omega)]
theorem round_2 {p x : Nx} {k : Nat} (hk : k < p 6 0) : sRound p x 2 k = x 2 k + (if x 1 k ≠ x 2 k ∧ x 3 k ≤ x 8 0 then 1 else 0) := by
  unfold sRound
  rw [down_o (fun _ _ => begIf_o (by omega)), fin_at hk]
/-- nothing to do: nothing done -/
theorem down_id {f : Nx → Nat → Nx} : ∀ {m : Nat} {x : Nx}, (∀ k, k < m → f x k = x) → down f m x = x
  | 0, _, _ => rfl
  | m + 1, x, h => by
    show down f m (f x m) = x
    rw [h m (by omega)]
    exact down_id (fun k hk => h k (by omega))
theorem round_id {p x : Nx} (h1 : S1 p x 0) (h2 : NB p x 0) : sRound p x = x := by
  unfold sRound
  rw [down_id (f := sFinIf p) (x := x)]
  · apply down_id
    intro k hk
    unfold sBegIf
    by_cases c : x 1 k = x 2 k
    · rw [if_pos c, if_neg]
      rw [h2 k (by omega) hk c]
      decide
    · rw [if_neg c]
  · intro k hk
    unfold sFinIf
    by_cases c : x 1 k = x 2 k
    · rw [if_pos c]
    · rw [if_neg c, if_pos (h1 k (by omega) hk c)]
theorem busy_ex {p x : Nx} (hp : PI p) (hx : LZ p x) : ∃ k, k < p 6 0 ∧ x 1 k ≠ x 2 k := by
  refine Classical.byContradiction (fun hne => ?_)
  have idle : ∀ k, k < p 6 0 → x 1 k = x 2 k := fun k hk => Classical.byContradiction (fun z => hne ⟨k, hk, z⟩)
  have hn := hp.n
  have all : ∀ d k, k + d + 1 = p 6 0 → x 2 k = x 2 (p 6 0 - 1) := by
    intro d
    induction d with
    | zero => intro k h; rw [show k = p 6 0 - 1 from by omega]
    | succ d ih =>
      intro k h
      have i := ih (k + 1) (by omega)
      have s := hx.1.s (k := k) (by omega)
      have a := idle (k + 1) (by omega)
      have nb := hx.2.2 (k + 1) (by omega) (by omega) a
      by_cases w : x 1 (k + 1) < x 2 k
      · exfalso
        have : canB p x (k + 1) = true := by
          refine canB_mk (fun _ => w) (fun l hl e => ?_)
          have h3 := hp.l hl
          have h4 := hx.1.l hl
          have j : x 2 (p 3 l) = x 2 (p 6 0 - 1) := by
            have g1 := hx.1.mono' (j := p 3 l) (k := k + 1) (by omega) (by omega)
            have g2 := hx.1.mono' (j := p 6 0 - 1) (k := p 3 l) (by omega) (by omega)
            omega
          rw [e]
          omega
        rw [this] at nb
        cases nb
      · omega
  have a0 := idle 0 (by omega)
  have nb := hx.2.2 0 (by omega) (by omega) a0
  have : canB p x 0 = true := by
    refine canB_mk (fun z => absurd rfl z) (fun l hl e => ?_)
    have h3 := hp.l hl
    have h4 := hx.1.l hl
    have j := all (p 6 0 - 1) 0 (by omega)
    have g2 := hx.1.mono' (j := p 6 0 - 1) (k := p 3 l) (by omega) (by omega)
    have g1 := hx.1.mono' (j := p 3 l) (k := 0) (by omega) (by omega)
    rw [e]
    omega
  rw [this] at nb
  cases nb
/-! who is through next -/
def nextF (x : Nx) : Nat → Nat → Nat → Nat
  | _, 0, a => a
  | l, n + 1, a => nextF x (l + 1) n (if x 1 l = x 2 l then a else if a ≤ x 3 l then a else x 3 l)
def sNext (p x : Nx) : Nat := nextF x 0 (p 6 0) 2147483647
theorem nextF_le {x : Nx} : ∀ {n l a : Nat}, nextF x l n a ≤ a ∧ ∀ k, l ≤ k → k < l + n → x 1 k ≠ x 2 k → nextF x l n a ≤ x 3 k
  | 0, l, a => ⟨Nat.le_refl _, fun k h1 h2 => by omega⟩
  | n + 1, l, a => by
    have i := nextF_le (x := x) (n := n) (l := l + 1) (a := if x 1 l = x 2 l then a else if a ≤ x 3 l then a else x 3 l)
    unfold nextF
    have c : (if x 1 l = x 2 l then a else if a ≤ x 3 l then a else x 3 l) ≤ a := by split <;> (try split) <;> omega
    refine ⟨by omega, fun k h1 h2 h3 => ?_⟩
    by_cases e : k = l
    · subst e
      have : (if x 1 k = x 2 k then a else if a ≤ x 3 k then a else x 3 k) ≤ x 3 k := by rw [if_neg h3]; split <;> omega
      omega
    · exact i.2 k (by omega) (by omega) h3
theorem nextF_eq {x : Nx} : ∀ {n l a : Nat}, nextF x l n a = a ∨ ∃ k, l ≤ k ∧ k < l + n ∧ x 1 k ≠ x 2 k ∧ nextF x l n a = x 3 k
  | 0, l, a => Or.inl rfl
  | n + 1, l, a => by
    have i := nextF_eq (x := x) (n := n) (l := l + 1) (a := if x 1 l = x 2 l then a else if a ≤ x 3 l then a else x 3 l)
    unfold nextF
    rcases i with i | ⟨k, h1, h2, h3, h4⟩
    · rw [i]
      by_cases c : x 1 l = x 2 l
      · rw [if_pos c]; exact Or.inl rfl
      · rw [if_neg c]
        by_cases d : a ≤ x 3 l
        · rw [if_pos d]; exact Or.inl rfl
        · rw [if_neg d]; exact Or.inr ⟨l, by omega, by omega, c, rfl⟩
    · exact Or.inr ⟨k, by omega, by omega, h3, h4⟩
theorem sNext_le {p x : Nx} {k : Nat} (hk : k < p 6 0) (hb : x 1 k ≠ x 2 k) : sNext p x ≤ x 3 k := nextF_le.2 k (by omega) (by omega) hb
theorem sNext_ex {p x : Nx} (hp : PI p) (hx : LZ p x) (hT : x 8 0 < 2 ^ 30) : ∃ k, k < p 6 0 ∧ x 1 k ≠ x 2 k ∧ sNext p x = x 3 k := by
  obtain ⟨k, hk, hb⟩ := busy_ex hp hx
  have e := hx.1.e hk hb
  have l := sNext_le hk hb
  rcases nextF_eq (x := x) (n := p 6 0) (l := 0) (a := 2147483647) with h | ⟨j, h1, h2, h3, h4⟩
  · exfalso
    unfold sNext at l
    omega
  · exact ⟨j, by omega, h3, h4⟩
theorem sNext_b {p x : Nx} (hp : PI p) (hx : LZ p x) (hT : x 8 0 < 2 ^ 30) : x 8 0 < sNext p x ∧ sNext p x ≤ x 8 0 + 120 := by
  obtain ⟨k, hk, hb, e⟩ := sNext_ex hp hx hT
  have a := hx.1.e hk hb
  have b := hx.2.1 k (by omega) hk hb
  omega
theorem s_next5 {p x : Nx} (hp : PI p) (hx : LI p x) (hT : x 8 0 < 2 ^ 30) (N : Nat) : ∀ {d l f a : Nat}, d < f → l + d = p 6 0 → a < 2 ^ 31 → itn (fX1_nextThrough_5b N) (fun _ _ _ _ => none) f (embP p) (embL x) (nI a) (nI l) = some (nI (nextF x l d a))
  | _, _, 0, _, h, _, _ => by omega
  | 0, l, f + 1, a, h, e, ha => by
    have hn := hp.n
    rw [itn_s]
    unfold fX1_nextThrough_5b nextF
    simp (disch := omega) only [↓nm_s, ↓bnd_s, ↓reduceIte, nI_add, pk_mul, nI_subdiv, nI_sub', nI_m1, nI_0m1, nI_clamp, gdi_nI, gdz_nI, nI_div, nrem, nI_ltI, nI_leI, nI_eq, leT, leF, ltT, ltF, eqT, eqF, neT, neF, z0, m1lt0, m1lt, m1le, nI_ne_neg, neg_ne_nI, embP_a, embL_a, embL_up, embL_up1, up2_ne, up2_at, up2_o, up1_ne, up1_at, bI_eq0, bI_eq1, or_true, true_or, and_true, true_and, or_false, false_or, and_false, false_and, not_true_eq_false, not_false_eq_true, if_true, if_false,  decide_true, decide_false, bI_t, bI_f, Nat.add_sub_cancel, Nat.zero_add, Nat.add_zero, Nat.mul_zero, upd_eq, upd_ne]
  | d + 1, l, f + 1, a, h, e, ha => by
    have hn := hp.n
    have h3 := hx.k (k := l) (by omega)
    have g := s_isIdle (x := x) (k := l) (by omega) (by omega) (by omega)
    rw [itn_s]
    unfold nextF
    by_cases c : x 1 l = x 2 l
    · have i := s_next5 hp hx hT N (d := d) (l := l + 1) (f := f) (a := a) (by omega) (by omega) ha
      generalize itn (fX1_nextThrough_5b N) (fun _ _ _ _ => none) f = K at i ⊢
      unfold fX1_nextThrough_5b
      simp (disch := omega) only [↓nm_s, ↓bnd_s, ↓reduceIte, nI_add, pk_mul, nI_subdiv, nI_sub', nI_m1, nI_0m1, nI_clamp, gdi_nI, gdz_nI, nI_div, nrem, nI_ltI, nI_leI, nI_eq, leT, leF, ltT, ltF, eqT, eqF, neT, neF, z0, m1lt0, m1lt, m1le, nI_ne_neg, neg_ne_nI, embP_a, embL_a, embL_up, embL_up1, up2_ne, up2_at, up2_o, up1_ne, up1_at, bI_eq0, bI_eq1, or_true, true_or, and_true, true_and, or_false, false_or, and_false, false_and, not_true_eq_false, not_false_eq_true, if_true, if_false,  decide_true, decide_false, bI_t, bI_f, Nat.add_sub_cancel, Nat.zero_add, Nat.add_zero, Nat.mul_zero, upd_eq, upd_ne, g, fX1_nextThrough_41, i]
    · have h4 := hx.e (k := l) (by omega) c
      by_cases z : a ≤ x 3 l
      · have i := s_next5 hp hx hT N (d := d) (l := l + 1) (f := f) (a := a) (by omega) (by omega) ha
        generalize itn (fX1_nextThrough_5b N) (fun _ _ _ _ => none) f = K at i ⊢
        unfold fX1_nextThrough_5b
        simp (disch := omega) only [↓nm_s, ↓bnd_s, ↓reduceIte, nI_add, pk_mul, nI_subdiv, nI_sub', nI_m1, nI_0m1, nI_clamp, gdi_nI, gdz_nI, nI_div, nrem, nI_ltI, nI_leI, nI_eq, leT, leF, ltT, ltF, eqT, eqF, neT, neF, z0, m1lt0, m1lt, m1le, nI_ne_neg, neg_ne_nI, embP_a, embL_a, embL_up, embL_up1, up2_ne, up2_at, up2_o, up1_ne, up1_at, bI_eq0, bI_eq1, or_true, true_or, and_true, true_and, or_false, false_or, and_false, false_and, not_true_eq_false, not_false_eq_true, if_true, if_false,  decide_true, decide_false, bI_t, bI_f, Nat.add_sub_cancel, Nat.zero_add, Nat.add_zero, Nat.mul_zero, upd_eq, upd_ne, g, fX1_nextThrough_41, i]
      · have i := s_next5 hp hx hT N (d := d) (l := l + 1) (f := f) (a := x 3 l) (by omega) (by omega) (by omega)
        generalize itn (fX1_nextThrough_5b N) (fun _ _ _ _ => none) f = K at i ⊢
        unfold fX1_nextThrough_5b
        simp (disch := omega) only [↓nm_s, ↓bnd_s, ↓reduceIte, nI_add, pk_mul, nI_subdiv, nI_sub', nI_m1, nI_0m1, nI_clamp, gdi_nI, gdz_nI, nI_div, nrem, nI_ltI, nI_leI, nI_eq, leT, leF, ltT, ltF, eqT, eqF, neT, neF, z0, m1lt0, m1lt, m1le, nI_ne_neg, neg_ne_nI, embP_a, embL_a, embL_up, embL_up1, up2_ne, up2_at, up2_o, up1_ne, up1_at, bI_eq0, bI_eq1, or_true, true_or, and_true, true_and, or_false, false_or, and_false, false_and, not_true_eq_false, not_false_eq_true, if_true, if_false,  decide_true, decide_false, bI_t, bI_f, Nat.add_sub_cancel, Nat.zero_add, Nat.add_zero, Nat.mul_zero, upd_eq, upd_ne, g, fX1_nextThrough_41, i]
theorem s_next {p x : Nx} (hp : PI p) (hx : LI p x) (hT : x 8 0 < 2 ^ 30) {N : Nat} (hN : 6 < N) : fX1_nextThrough N (embP p) (embL x) = some (nI (sNext p x)) := by
  have hn := hp.n
  have g := s_next5 hp hx hT N (d := p 6 0) (l := 0) (f := N) (a := 2147483647) (by omega) (by omega) (by omega)
  unfold fX1_nextThrough sNext
  simp (disch := omega) only [↓nm_s, ↓bnd_s, ↓reduceIte, nI_add, pk_mul, nI_subdiv, nI_sub', nI_m1, nI_0m1, nI_clamp, gdi_nI, gdz_nI, nI_div, nrem, nI_ltI, nI_leI, nI_eq, leT, leF, ltT, ltF, eqT, eqF, neT, neF, z0, m1lt0, m1lt, m1le, nI_ne_neg, neg_ne_nI, embP_a, embL_a, embL_up, embL_up1, up2_ne, up2_at, up2_o, up1_ne, up1_at, bI_eq0, bI_eq1, or_true, true_or, and_true, true_and, or_false, false_or, and_false, false_and, not_true_eq_false, not_false_eq_true, if_true, if_false,  decide_true, decide_false, bI_t, bI_f, Nat.add_sub_cancel, Nat.zero_add, Nat.add_zero, Nat.mul_zero, upd_eq, upd_ne, fX1_nextThrough_5, g]
/-! till somebody is through -/
theorem LI_time {p x : Nx} {u : Nat} (hx : LI p x) (h1 : x 8 0 ≤ u) (h2 : ∀ k, k < p 6 0 → x 1 k ≠ x 2 k → u ≤ x 3 k) : LI p (up1 x 8 u) := by
  refine ⟨?_, ?_, ?_, ?_, ?_, ?_, ?_⟩
  · rw [up1_ne (by omega)]; exact hx.f
  · intro l hl
    simp (disch := omega) only [up1_ne]
    exact hx.l hl
  · intro k hk
    have := hx.k hk
    simp (disch := omega) only [up1_ne, up1_at]
    omega
  · intro k hk
    simp (disch := omega) only [up1_ne]
    exact hx.s hk
  · intro k hk
    simp (disch := omega) only [up1_ne, up1_at]
    intro hb
    have a := hx.e hk hb
    have b := h2 k hk hb
    omega
  · intro j
    simp (disch := omega) only [up1_ne, up1_at]
    intro g1 g2
    have := hx.b g1 g2
    omega
  · have := hx.d
    simp (disch := omega) only [up1_ne, up1_at]
    omega
/-- one round further -/
def sStep (p x : Nx) : Nx := sRound p (up1 x 8 (sNext p x))
theorem LI_step {p x : Nx} (hp : PI p) (hx : LZ p x) (hT : x 8 0 < 2 ^ 30) : LI p (up1 x 8 (sNext p x)) := LI_time hx.1 (by have := sNext_b hp hx hT; omega) (fun k hk hb => sNext_le hk hb)
theorem LZ_step {p x : Nx} (hp : PI p) (hx : LZ p x) (hT : x 8 0 < 2 ^ 30) : LZ p (sStep p x) := LZ_round hp (LI_step hp hx hT)
theorem step_8 {p x : Nx} : sStep p x 8 0 = sNext p x := by
  unfold sStep
  rw [round_o (by omega), up1_at]
theorem step_2 {p x : Nx} {k : Nat} (hk : k < p 6 0) : sStep p x 2 k = x 2 k + (if x 1 k ≠ x 2 k ∧ x 3 k ≤ sNext p x then 1 else 0) := by
  unfold sStep
  rw [round_2 hk]
  simp (disch := omega) only [up1_ne, up1_at]
theorem step_ex {p x : Nx} (hp : PI p) (hx : LZ p x) (hT : x 8 0 < 2 ^ 30) : ∃ k, k < p 6 0 ∧ sStep p x 2 k = x 2 k + 1 := by
  obtain ⟨k, hk, hb, e⟩ := sNext_ex hp hx hT
  refine ⟨k, hk, ?_⟩
  rw [step_2 hk, if_pos ⟨hb, by omega⟩]
theorem step_mono {p x : Nx} {k : Nat} (hk : k < p 6 0) : x 2 k ≤ sStep p x 2 k ∧ sStep p x 2 k ≤ x 2 k + 1 := by
  rw [step_2 hk]
  split <;> omega
/-- how much can be through yet ahead of the next one OUT -/
def sumD (x : Nx) (T : Nat) : Nat → Nat
  | 0 => 0
  | n + 1 => sumD x T n + (T + 20 - x 2 n)
theorem sumD_le {x : Nx} {T : Nat} : ∀ {n : Nat}, (∀ k, k < n → T ≤ x 2 k) → sumD x T n ≤ 20 * n
  | 0, _ => Nat.le_refl _
  | n + 1, h => by
    have := sumD_le (x := x) (T := T) (n := n) (fun k hk => h k (by omega))
    have := h n (by omega)
    unfold sumD
    omega
theorem sumD_mono {x y : Nx} {T : Nat} : ∀ {n : Nat}, (∀ k, k < n → x 2 k ≤ y 2 k) → sumD y T n ≤ sumD x T n
  | 0, _ => Nat.le_refl _
  | n + 1, h => by
    have := sumD_mono (x := x) (y := y) (T := T) (n := n) (fun k hk => h k (by omega))
    have := h n (by omega)
    unfold sumD
    omega
theorem sumD_lt {x y : Nx} {T : Nat} : ∀ {n : Nat}, (∀ k, k < n → x 2 k ≤ y 2 k) → (∃ k, k < n ∧ x 2 k < y 2 k ∧ y 2 k ≤ T + 20) → sumD y T n < sumD x T n
  | 0, _, ⟨k, hk, _⟩ => by omega
  | n + 1, h, ⟨k, hk, h1, h2⟩ => by
    have a := sumD_mono (x := x) (y := y) (T := T) (n := n) (fun k hk => h k (by omega))
    have b := h n (by omega)
    unfold sumD
    by_cases e : k = n
    · subst e; omega
    · have := sumD_lt (x := x) (y := y) (T := T) (n := n) (fun k hk => h k (by omega)) ⟨k, by omega, h1, h2⟩
      omega
def leapN (p : Nx) (T : Nat) : Nat → Nx → Nx
  | 0, x => x
  | d + 1, x => if x 2 (p 6 0 - 1) = T then leapN p T d (sStep p x) else x
def sLeap (p x : Nx) : Nx := leapN p (x 2 (p 6 0 - 1)) 102 x
end
section
/-! leaps -/
theorem leapN_stop {p x : Nx} {T : Nat} (h : x 2 (p 6 0 - 1) ≠ T) : ∀ {d : Nat}, leapN p T d x = x
  | 0 => rfl
  | d + 1 => by unfold leapN; rw [if_neg h]
theorem leapN_go {p x : Nx} {T d : Nat} (h : x 2 (p 6 0 - 1) = T) : leapN p T (d + 1) x = leapN p T d (sStep p x) := by
  rw [leapN, if_pos h]
theorem sumD_step {p x : Nx} {T : Nat} (hp : PI p) (hx : LZ p x) (hT : x 8 0 < 2 ^ 30) (h : x 2 (p 6 0 - 1) = T) (h2 : sStep p x 2 (p 6 0 - 1) = T) : sumD (sStep p x) T (p 6 0 - 1) < sumD x T (p 6 0 - 1) := by
  have hn := hp.n
  have hy := LZ_step hp hx hT
  have hw := hy.1.way hp
  obtain ⟨k, hk, e⟩ := step_ex hp hx hT
  refine sumD_lt (fun j hj => (step_mono (by omega)).1) ⟨k, ?_, by omega, ?_⟩
  · by_cases c : k = p 6 0 - 1
    · subst c; omega
    · omega
  · have a := hy.1.mono' (j := k) (k := 0) (by omega) hk
    have b := hy.1.k (k := k) hk
    omega
theorem step_out {p x : Nx} {T : Nat} (hp : PI p) (h : x 2 (p 6 0 - 1) = T) : sStep p x 2 (p 6 0 - 1) = T ∨ sStep p x 2 (p 6 0 - 1) = T + 1 := by
  have hn := hp.n
  have := step_mono (p := p) (x := x) (k := p 6 0 - 1) (by omega)
  omega
theorem leap_ok {p : Nx} (hp : PI p) {T : Nat} : ∀ {d : Nat} {x : Nx}, LZ p x → x 2 (p 6 0 - 1) = T → sumD x T (p 6 0 - 1) < d → x 8 0 + 120 * d < 2 ^ 30 → LZ p (leapN p T d x) ∧ leapN p T d x 2 (p 6 0 - 1) = T + 1 ∧ x 8 0 < leapN p T d x 8 0 ∧ leapN p T d x 8 0 ≤ x 8 0 + 120 * (sumD x T (p 6 0 - 1) + 1)
  | 0, x, hx, h, hd, hT => by omega
  | d + 1, x, hx, h, hd, hT => by
    have hn := hp.n
    have hy := LZ_step hp hx (by omega)
    have hb := sNext_b hp hx (by omega)
    rw [leapN_go h]
    rcases step_out hp h with e | e
    · have hs := sumD_step hp hx (by omega) h e
      have i := leap_ok hp (T := T) (d := d) hy e (by omega) (by rw [step_8]; omega)
      rw [step_8] at i
      exact ⟨i.1, i.2.1, by omega, by omega⟩
    · rw [leapN_stop (by omega)]
      rw [step_8]
      exact ⟨hy, e, by omega, by omega⟩
theorem leap_keep {p : Nx} {T a i : Nat} (h : a = 4 ∨ a = 6 ∨ a = 7) : ∀ {d : Nat} {x : Nx}, leapN p T d x a i = x a i
  | 0, _ => rfl
  | d + 1, x => by
    unfold leapN
    split
    · rw [leap_keep h]
      unfold sStep
      rw [round_o (by omega), up1_ne (by omega)]
    · rfl
theorem s_leap7 {p : Nx} (hp : PI p) {N : Nat} (hN : 6 < N) {T : Nat} (hTT : T < 2 ^ 31) : ∀ {d f c : Nat} {x : Nx}, LZ p x → (x 2 (p 6 0 - 1) = T → sumD x T (p 6 0 - 1) < d) → (x 2 (p 6 0 - 1) = T ∨ x 2 (p 6 0 - 1) = T + 1) → x 8 0 + 120 * d < 2 ^ 30 → d < f → c + d ≤ 1000000 → itn (fX1_leapTillOut_7b N) (fun _ _ _ _ => none) f (embP p) (embL x) (nI T) (nI c) = some (embL (leapN p T d x))
  | _, 0, _, x, _, _, _, _, h, _ => by omega
  | 0, f + 1, c, x, hx, hd, ho, hT, hf, hc => by
    have hn := hp.n
    have o := s_out (x := x) hp
    rw [itn_s]
    have z : ¬ x 2 (p 6 0 - 1) = T := fun e => by have := hd e; omega
    have hk := hx.1.k (k := p 6 0 - 1) (by omega)
    generalize itn (fX1_leapTillOut_7b N) (fun _ _ _ _ => none) f = K
    unfold fX1_leapTillOut_7b leapN
    by_cases w : 1000000 ≤ c
    · simp (disch := omega) only [↓nm_s, ↓bnd_s, ↓reduceIte, nI_add, pk_mul, nI_subdiv, nI_sub', nI_m1, nI_0m1, nI_clamp, gdi_nI, gdz_nI, nI_div, nrem, nI_ltI, nI_leI, nI_eq, leT, leF, ltT, ltF, eqT, eqF, neT, neF, z0, m1lt0, m1lt, m1le, nI_ne_neg, neg_ne_nI, embP_a, embL_a, embL_up, embL_up1, up2_ne, up2_at, up2_o, up1_ne, up1_at, bI_eq0, bI_eq1, or_true, true_or, and_true, true_and, or_false, false_or, and_false, false_and, not_true_eq_false, not_false_eq_true, if_true, if_false,  decide_true, decide_false, bI_t, bI_f, Nat.add_sub_cancel, Nat.zero_add, Nat.add_zero, Nat.mul_zero, upd_eq, upd_ne]
    · simp (disch := omega) only [↓nm_s, ↓bnd_s, ↓reduceIte, nI_add, pk_mul, nI_subdiv, nI_sub', nI_m1, nI_0m1, nI_clamp, gdi_nI, gdz_nI, nI_div, nrem, nI_ltI, nI_leI, nI_eq, leT, leF, ltT, ltF, eqT, eqF, neT, neF, z0, m1lt0, m1lt, m1le, nI_ne_neg, neg_ne_nI, embP_a, embL_a, embL_up, embL_up1, up2_ne, up2_at, up2_o, up1_ne, up1_at, bI_eq0, bI_eq1, or_true, true_or, and_true, true_and, or_false, false_or, and_false, false_and, not_true_eq_false, not_false_eq_true, if_true, if_false,  decide_true, decide_false, bI_t, bI_f, Nat.add_sub_cancel, Nat.zero_add, Nat.add_zero, Nat.mul_zero, upd_eq, upd_ne, o]
  | d + 1, f + 1, c, x, hx, hd, ho, hT, hf, hc => by
    have hn := hp.n
    have o := s_out (x := x) hp
    have hk := hx.1.k (k := p 6 0 - 1) (by omega)
    rw [itn_s]
    by_cases z : x 2 (p 6 0 - 1) = T
    · have hy := LZ_step hp hx (by omega)
      have hb := sNext_b hp hx (by omega)
      have i := s_leap7 hp hN hTT (d := d) (f := f) (c := c + 1) (x := sStep p x) hy (fun e => by have := sumD_step hp hx (by omega) z e; have := hd z; omega) (step_out hp z) (by rw [step_8]; omega) (by omega) (by omega)
      have g := s_next hp hx.1 (by omega) hN
      have r := s_round hp hN (LI_step hp hx (by omega)) (by rw [up1_at]; omega)
      rw [show sRound p (up1 x 8 (sNext p x)) = sStep p x from rfl] at r
      rw [leapN_go z]
      generalize itn (fX1_leapTillOut_7b N) (fun _ _ _ _ => none) f = K at i ⊢
      unfold fX1_leapTillOut_7b
      simp (disch := omega) only [↓nm_s, ↓bnd_s, ↓reduceIte, nI_add, pk_mul, nI_subdiv, nI_sub', nI_m1, nI_0m1, nI_clamp, gdi_nI, gdz_nI, nI_div, nrem, nI_ltI, nI_leI, nI_eq, leT, leF, ltT, ltF, eqT, eqF, neT, neF, z0, m1lt0, m1lt, m1le, nI_ne_neg, neg_ne_nI, embP_a, embL_a, embL_up, embL_up1, up2_ne, up2_at, up2_o, up1_ne, up1_at, bI_eq0, bI_eq1, or_true, true_or, and_true, true_and, or_false, false_or, and_false, false_and, not_true_eq_false, not_false_eq_true, if_true, if_false,  decide_true, decide_false, bI_t, bI_f, Nat.add_sub_cancel, Nat.zero_add, Nat.add_zero, Nat.mul_zero, upd_eq, upd_ne, o, g, r, i]
    · rw [leapN_stop z]
      generalize itn (fX1_leapTillOut_7b N) (fun _ _ _ _ => none) f = K
      unfold fX1_leapTillOut_7b
      by_cases w : 1000000 ≤ c
      · simp (disch := omega) only [↓nm_s, ↓bnd_s, ↓reduceIte, nI_add, pk_mul, nI_subdiv, nI_sub', nI_m1, nI_0m1, nI_clamp, gdi_nI, gdz_nI, nI_div, nrem, nI_ltI, nI_leI, nI_eq, leT, leF, ltT, ltF, eqT, eqF, neT, neF, z0, m1lt0, m1lt, m1le, nI_ne_neg, neg_ne_nI, embP_a, embL_a, embL_up, embL_up1, up2_ne, up2_at, up2_o, up1_ne, up1_at, bI_eq0, bI_eq1, or_true, true_or, and_true, true_and, or_false, false_or, and_false, false_and, not_true_eq_false, not_false_eq_true, if_true, if_false,  decide_true, decide_false, bI_t, bI_f, Nat.add_sub_cancel, Nat.zero_add, Nat.add_zero, Nat.mul_zero, upd_eq, upd_ne]
      · simp (disch := omega) only [↓nm_s, ↓bnd_s, ↓reduceIte, nI_add, pk_mul, nI_subdiv, nI_sub', nI_m1, nI_0m1, nI_clamp, gdi_nI, gdz_nI, nI_div, nrem, nI_ltI, nI_leI, nI_eq, leT, leF, ltT, ltF, eqT, eqF, neT, neF, z0, m1lt0, m1lt, m1le, nI_ne_neg, neg_ne_nI, embP_a, embL_a, embL_up, embL_up1, up2_ne, up2_at, up2_o, up1_ne, up1_at, bI_eq0, bI_eq1, or_true, true_or, and_true, true_and, or_false, false_or, and_false, false_and, not_true_eq_false, not_false_eq_true, if_true, if_false,  decide_true, decide_false, bI_t, bI_f, Nat.add_sub_cancel, Nat.zero_add, Nat.add_zero, Nat.mul_zero, upd_eq, upd_ne, o]
theorem sumD_100 {p x : Nx} (hp : PI p) (hx : LZ p x) : sumD x (x 2 (p 6 0 - 1)) (p 6 0 - 1) ≤ 100 := by
  have hn := hp.n
  have := sumD_le (x := x) (T := x 2 (p 6 0 - 1)) (n := p 6 0 - 1) (fun k hk => (hx.1.mono' (j := p 6 0 - 1) (k := k) (by omega) (by omega)).1)
  omega
theorem s_leap {p x : Nx} (hp : PI p) {N : Nat} (hN : 200 < N) (hx : LZ p x) (hT : x 8 0 < 2 ^ 29) : fX1_leapTillOut N (embP p) (embL x) = some (embL (sLeap p x)) := by
  have hn := hp.n
  have o := s_out (x := x) hp
  have hk := hx.1.k (k := p 6 0 - 1) (by omega)
  have h1 := sumD_100 hp hx
  have g := s_leap7 hp (N := N) (by omega) (T := x 2 (p 6 0 - 1)) (by omega) (d := 102) (f := N) (c := 0) (x := x) hx (fun _ => by omega) (Or.inl rfl) (by omega) (by omega) (by omega)
  unfold fX1_leapTillOut sLeap
  simp (disch := omega) only [↓nm_s, ↓bnd_s, ↓reduceIte, nI_add, pk_mul, nI_subdiv, nI_sub', nI_m1, nI_0m1, nI_clamp, gdi_nI, gdz_nI, nI_div, nrem, nI_ltI, nI_leI, nI_eq, leT, leF, ltT, ltF, eqT, eqF, neT, neF, z0, m1lt0, m1lt, m1le, nI_ne_neg, neg_ne_nI, embP_a, embL_a, embL_up, embL_up1, up2_ne, up2_at, up2_o, up1_ne, up1_at, bI_eq0, bI_eq1, or_true, true_or, and_true, true_and, or_false, false_or, and_false, false_and, not_true_eq_false, not_false_eq_true, if_true, if_false,  decide_true, decide_false, bI_t, bI_f, Nat.add_sub_cancel, Nat.zero_add, Nat.add_zero, Nat.mul_zero, upd_eq, upd_ne, o, fX1_leapTillOut_7, g]
theorem sLeap_ok {p x : Nx} (hp : PI p) (hx : LZ p x) (hT : x 8 0 < 2 ^ 29) : LZ p (sLeap p x) ∧ sLeap p x 2 (p 6 0 - 1) = x 2 (p 6 0 - 1) + 1 ∧ x 8 0 < sLeap p x 8 0 ∧ sLeap p x 8 0 ≤ x 8 0 + 12120 := by
  have h1 := sumD_100 hp hx
  have := leap_ok hp (T := x 2 (p 6 0 - 1)) (d := 102) hx rfl (by omega) (by omega)
  unfold sLeap
  exact ⟨this.1, this.2.1, this.2.2.1, by omega⟩
theorem sLeap_o {p x : Nx} {a i : Nat} (h : a = 4 ∨ a = 6 ∨ a = 7) : sLeap p x a i = x a i := leap_keep h
/-! minutes -/
def mIf (p : Nx) (u : Nat) (x : Nx) (s : Nat) : Nx := if x 1 s = x 2 s then up2 x 6 (s * 4 + (if s = 0 ∨ sWait x s ≠ 0 then 1 else 0)) (x 6 (s * 4 + (if s = 0 ∨ sWait x s ≠ 0 then 1 else 0)) + (u - x 8 0)) else up2 (up2 x 6 (s * 4 + 2) (x 6 (s * 4 + 2) + (min u (x 3 s - p 0 s) - x 8 0))) 6 (s * 4 + 3) (x 6 (s * 4 + 3) + (u - x 8 0 - (min u (x 3 s - p 0 s) - x 8 0)))
def upw (f : Nx → Nat → Nx) : Nat → Nat → Nx → Nx
  | _, 0, x => x
  | l, n + 1, x => upw f (l + 1) n (f x l)
def sMin (p : Nx) (u : Nat) (x : Nx) : Nx := upw (mIf p u) 0 (p 6 0) x
theorem mIf_o {p x : Nx} {u s a i : Nat} (h : a ≠ 6) : mIf p u x s a i = x a i := by
  unfold mIf
  split
  · rw [up2_ne h]
  · rw [up2_ne h, up2_ne h]
theorem upw_o {f : Nx → Nat → Nx} {a i : Nat} (hf : ∀ x k, f x k a i = x a i) : ∀ {n l : Nat} {x : Nx}, upw f l n x a i = x a i
  | 0, _, _ => rfl
  | n + 1, l, x => (upw_o hf (n := n) (l := l + 1) (x := f x l)).trans (hf x l)
theorem sMin_o {p x : Nx} {u a i : Nat} (h : a ≠ 6) : sMin p u x a i = x a i := upw_o (fun _ _ => mIf_o h)
/-- rows that are alike where they are read -/
def ln (a : Nat) : Nat := if a = 4 then 5 else if a = 5 then 20 else if a = 7 ∨ a = 8 ∨ a = 9 ∨ a = 10 then 1 else if a = 1 ∨ a = 2 ∨ a = 3 then 6 else 0
def Agr (x y : Nx) : Prop := ∀ a i, a ≠ 6 → i < ln a → y a i = x a i
theorem Agr.of6 {x y : Nx} (h : ∀ a i, a ≠ 6 → y a i = x a i) : Agr x y := fun a i ha _ => h a i ha
theorem Agr.symm {x y : Nx} (h : Agr x y) : Agr y x := fun a i h1 h2 => (h a i h1 h2).symm
theorem Agr.g6 {x y : Nx} (h : Agr x y) {a i : Nat} (ha : a = 1 ∨ a = 2 ∨ a = 3) (hi : i < 6) : y a i = x a i := h a i (by omega) (by rcases ha with rfl | rfl | rfl <;> exact hi)
theorem Agr.g4 {x y : Nx} (h : Agr x y) {i : Nat} (hi : i < 5) : y 4 i = x 4 i := h 4 i (by omega) hi
theorem Agr.g5 {x y : Nx} (h : Agr x y) {i : Nat} (hi : i < 20) : y 5 i = x 5 i := h 5 i (by omega) hi
theorem Agr.g1 {x y : Nx} (h : Agr x y) {a : Nat} (ha : a = 7 ∨ a = 8 ∨ a = 9 ∨ a = 10) : y a 0 = x a 0 := h a 0 (by omega) (by rcases ha with rfl | rfl | rfl | rfl <;> decide)
theorem LI_agr {p x y : Nx} (hp : PI p) (h : Agr x y) (hx : LI p x) : LI p y := by
  have hn := hp.n
  have hq := hp.q
  refine ⟨?_, ?_, ?_, ?_, ?_, ?_, ?_⟩
  · rw [h.g1 (by omega)]; exact hx.f
  · intro l hl
    have := hp.l hl
    rw [h.g4 (by omega), h.g6 (a := 1) (by omega) (by omega), h.g6 (a := 2) (by omega) (by omega)]
    exact hx.l hl
  · intro k hk
    rw [h.g6 (a := 1) (by omega) (by omega), h.g6 (a := 2) (by omega) (by omega), h.g1 (by omega)]
    exact hx.k hk
  · intro k hk
    rw [h.g6 (a := 1) (by omega) (by omega), h.g6 (a := 2) (by omega) (by omega)]
    exact hx.s hk
  · intro k hk
    rw [h.g6 (a := 1) (by omega) (by omega), h.g6 (a := 2) (by omega) (by omega), h.g6 (a := 3) (by omega) (by omega), h.g1 (by omega)]
    exact hx.e hk
  · intro j
    rw [h.g6 (a := 1) (by omega) (by omega), h.g6 (a := 2) (by omega) (by omega), h.g1 (by omega), h.g5 (Nat.mod_lt _ (by omega))]
    exact hx.b
  · rw [h.g1 (a := 9) (by omega), h.g1 (a := 8) (by omega), h.g1 (a := 10) (by omega)]
    exact hx.d
theorem canB_agr {p x y : Nx} (hp : PI p) (h : Agr x y) {k : Nat} (hk : k < p 6 0) : canB p y k = canB p x k := by
  have hn := hp.n
  have hq := hp.q
  rw [Bool.eq_iff_iff, canB_iff, canB_iff]
  constructor
  · rintro ⟨a, b⟩
    refine ⟨fun h0 => ?_, fun l hl e => ?_⟩
    · have := a h0
      rwa [h.g6 (a := 1) (by omega) (by omega), h.g6 (a := 2) (by omega) (by omega)] at this
    · have := b l hl e
      have := hp.l hl
      rwa [h.g6 (a := 1) (by omega) (by omega), h.g6 (a := 2) (by omega) (by omega), h.g4 (by omega)] at *
  · rintro ⟨a, b⟩
    refine ⟨fun h0 => ?_, fun l hl e => ?_⟩
    · have := a h0
      rwa [h.g6 (a := 1) (by omega) (by omega), h.g6 (a := 2) (by omega) (by omega)]
    · have := b l hl e
      have := hp.l hl
      rwa [h.g6 (a := 1) (by omega) (by omega), h.g6 (a := 2) (by omega) (by omega), h.g4 (by omega)]
theorem LZ_agr {p x y : Nx} (hp : PI p) (h : Agr x y) (hx : LZ p x) : LZ p y := by
  have hn := hp.n
  refine ⟨LI_agr hp h hx.1, ?_, ?_⟩
  · intro k h1 h2
    rw [h.g6 (a := 1) (by omega) (by omega), h.g6 (a := 2) (by omega) (by omega), h.g6 (a := 3) (by omega) (by omega), h.g1 (by omega)]
    exact hx.2.1 k h1 h2
  · intro k h1 h2
    rw [h.g6 (a := 1) (by omega) (by omega), h.g6 (a := 2) (by omega) (by omega), canB_agr hp h h2]
    exact hx.2.2 k h1 h2
theorem LZ_min {p x : Nx} (hp : PI p) {u : Nat} (hx : LZ p x) : LZ p (sMin p u x) := LZ_agr hp (Agr.of6 (fun _ _ h => sMin_o h)) hx
theorem nextF_congr {x y : Nx} : ∀ {n l a : Nat}, (∀ k, l ≤ k → k < l + n → y 1 k = x 1 k ∧ y 2 k = x 2 k ∧ y 3 k = x 3 k) → nextF y l n a = nextF x l n a
  | 0, _, _, _ => rfl
  | n + 1, l, a, h => by
    unfold nextF
    have e := h l (by omega) (by omega)
    rw [e.1, e.2.1, e.2.2]
    exact nextF_congr (fun k h1 h2 => h k (by omega) (by omega))
theorem sNext_agr {p x y : Nx} (hp : PI p) (h : Agr x y) : sNext p y = sNext p x := by
  have hn := hp.n
  exact nextF_congr (fun k _ h2 => ⟨h.g6 (by omega) (by omega), h.g6 (by omega) (by omega), h.g6 (by omega) (by omega)⟩)
theorem s_setUp {p x : Nx} (hp : PI p) (hx : LI p x) {k : Nat} (hk : k < p 6 0) (hb : x 1 k ≠ x 2 k) : fX1_setUpAt (embP p) (embL x) (nI k) = some (nI (x 3 k - p 0 k)) := by
  have hn := hp.n
  have he := hx.e hk hb
  unfold fX1_setUpAt
  simp (disch := omega) only [↓nm_s, ↓bnd_s, ↓reduceIte, nI_add, pk_mul, nI_subdiv, nI_sub', nI_m1, nI_0m1, nI_clamp, gdi_nI, gdz_nI, nI_div, nrem, nI_ltI, nI_leI, nI_eq, leT, leF, ltT, ltF, eqT, eqF, neT, neF, z0, m1lt0, m1lt, m1le, nI_ne_neg, neg_ne_nI, embP_a, embL_a, embL_up, embL_up1, up2_ne, up2_at, up2_o, up1_ne, up1_at, bI_eq0, bI_eq1, or_true, true_or, and_true, true_and, or_false, false_or, and_false, false_and, not_true_eq_false, not_false_eq_true, if_true, if_false,  decide_true, decide_false, bI_t, bI_f, Nat.add_sub_cancel, Nat.zero_add, Nat.add_zero, Nat.mul_zero, upd_eq, upd_ne]
theorem sWait_le {p x : Nx} (hx : LI p x) {k : Nat} (hk : k < p 6 0) : sWait x k ≤ x 8 0 := by
  unfold sWait
  by_cases c : k = 0
  · rw [if_pos c]; omega
  · rw [if_neg c]
    have := hx.k (k := k - 1) (by omega)
    omega
theorem s_wait {p x : Nx} (hp : PI p) (hx : LI p x) (hT : x 8 0 < 2 ^ 30) {k : Nat} (hk : k < p 6 0) : fX1_waiting (embL x) (nI k) = some (nI (sWait x k)) := by
  have hn := hp.n
  refine s_waiting (by omega) (fun h0 => ?_) ?_
  · have := hx.s (k := k - 1) (by omega)
    rwa [show k - 1 + 1 = k from by omega] at this
  · have := hx.k (k := k - 1) (by omega)
    omega
def sState (p x : Nx) (k : Nat) : Nat := if x 1 k = x 2 k then (if k = 0 ∨ sWait x k ≠ 0 then 1 else 0) else (if x 3 k - p 0 k ≤ x 8 0 then 3 else 2)
theorem s_state {p x : Nx} (hp : PI p) (hx : LI p x) (hT : x 8 0 < 2 ^ 30) {k : Nat} (hk : k < p 6 0) : fX1_stateOf (embP p) (embL x) (nI k) = some (nI (sState p x k)) := by
  have hn := hp.n
  have h3 := hx.k hk
  have a := s_isIdle (x := x) (k := k) (by omega) (by omega) (by omega)
  have w := s_wait hp hx hT hk
  have wl := sWait_le hx hk
  unfold fX1_stateOf sState
  by_cases c : x 1 k = x 2 k
  · by_cases d : k = 0
    · simp (disch := omega) only [↓nm_s, ↓bnd_s, ↓reduceIte, nI_add, pk_mul, nI_subdiv, nI_sub', nI_m1, nI_0m1, nI_clamp, gdi_nI, gdz_nI, nI_div, nrem, nI_ltI, nI_leI, nI_eq, leT, leF, ltT, ltF, eqT, eqF, neT, neF, z0, m1lt0, m1lt, m1le, nI_ne_neg, neg_ne_nI, embP_a, embL_a, embL_up, embL_up1, up2_ne, up2_at, up2_o, up1_ne, up1_at, bI_eq0, bI_eq1, or_true, true_or, and_true, true_and, or_false, false_or, and_false, false_and, not_true_eq_false, not_false_eq_true, if_true, if_false,  decide_true, decide_false, bI_t, bI_f, Nat.add_sub_cancel, Nat.zero_add, Nat.add_zero, Nat.mul_zero, upd_eq, upd_ne, a, fX1_stateOf_38]
    · by_cases e : sWait x k = 0
      · simp (disch := omega) only [↓nm_s, ↓bnd_s, ↓reduceIte, nI_add, pk_mul, nI_subdiv, nI_sub', nI_m1, nI_0m1, nI_clamp, gdi_nI, gdz_nI, nI_div, nrem, nI_ltI, nI_leI, nI_eq, leT, leF, ltT, ltF, eqT, eqF, neT, neF, z0, m1lt0, m1lt, m1le, nI_ne_neg, neg_ne_nI, embP_a, embL_a, embL_up, embL_up1, up2_ne, up2_at, up2_o, up1_ne, up1_at, bI_eq0, bI_eq1, or_true, true_or, and_true, true_and, or_false, false_or, and_false, false_and, not_true_eq_false, not_false_eq_true, if_true, if_false,  decide_true, decide_false, bI_t, bI_f, Nat.add_sub_cancel, Nat.zero_add, Nat.add_zero, Nat.mul_zero, upd_eq, upd_ne, a, w, fX1_stateOf_38]
      · simp (disch := omega) only [↓nm_s, ↓bnd_s, ↓reduceIte, nI_add, pk_mul, nI_subdiv, nI_sub', nI_m1, nI_0m1, nI_clamp, gdi_nI, gdz_nI, nI_div, nrem, nI_ltI, nI_leI, nI_eq, leT, leF, ltT, ltF, eqT, eqF, neT, neF, z0, m1lt0, m1lt, m1le, nI_ne_neg, neg_ne_nI, embP_a, embL_a, embL_up, embL_up1, up2_ne, up2_at, up2_o, up1_ne, up1_at, bI_eq0, bI_eq1, or_true, true_or, and_true, true_and, or_false, false_or, and_false, false_and, not_true_eq_false, not_false_eq_true, if_true, if_false,  decide_true, decide_false, bI_t, bI_f, Nat.add_sub_cancel, Nat.zero_add, Nat.add_zero, Nat.mul_zero, upd_eq, upd_ne, a, w, fX1_stateOf_38]
  · have g := s_setUp hp hx hk c
    have he := hx.e hk c
    by_cases d : x 3 k - p 0 k ≤ x 8 0
    · simp (disch := omega) only [↓nm_s, ↓bnd_s, ↓reduceIte, nI_add, pk_mul, nI_subdiv, nI_sub', nI_m1, nI_0m1, nI_clamp, gdi_nI, gdz_nI, nI_div, nrem, nI_ltI, nI_leI, nI_eq, leT, leF, ltT, ltF, eqT, eqF, neT, neF, z0, m1lt0, m1lt, m1le, nI_ne_neg, neg_ne_nI, embP_a, embL_a, embL_up, embL_up1, up2_ne, up2_at, up2_o, up1_ne, up1_at, bI_eq0, bI_eq1, or_true, true_or, and_true, true_and, or_false, false_or, and_false, false_and, not_true_eq_false, not_false_eq_true, if_true, if_false,  decide_true, decide_false, bI_t, bI_f, Nat.add_sub_cancel, Nat.zero_add, Nat.add_zero, Nat.mul_zero, upd_eq, upd_ne, a, g]
    · simp (disch := omega) only [↓nm_s, ↓bnd_s, ↓reduceIte, nI_add, pk_mul, nI_subdiv, nI_sub', nI_m1, nI_0m1, nI_clamp, gdi_nI, gdz_nI, nI_div, nrem, nI_ltI, nI_leI, nI_eq, leT, leF, ltT, ltF, eqT, eqF, neT, neF, z0, m1lt0, m1lt, m1le, nI_ne_neg, neg_ne_nI, embP_a, embL_a, embL_up, embL_up1, up2_ne, up2_at, up2_o, up1_ne, up1_at, bI_eq0, bI_eq1, or_true, true_or, and_true, true_and, or_false, false_or, and_false, false_and, not_true_eq_false, not_false_eq_true, if_true, if_false,  decide_true, decide_false, bI_t, bI_f, Nat.add_sub_cancel, Nat.zero_add, Nat.add_zero, Nat.mul_zero, upd_eq, upd_ne, a, g]
theorem s_min2 {p : Nx} (hp : PI p) {u : Nat} (hu : u < 2 ^ 30) (N : Nat) : ∀ {d l f : Nat} {x : Nx}, LI p x → x 8 0 ≤ u → d < f → l + d = p 6 0 → itn (fX1_countMinutes_2b N) (fun _ _ _ _ => none) f (embP p) (embL x) (nI u) (nI l) = some (embL (upw (mIf p u) l d x))
  | _, _, 0, x, _, _, h, _ => by omega
  | 0, l, f + 1, x, hx, hT, h, e => by
    have hn := hp.n
    rw [itn_s]
    unfold fX1_countMinutes_2b upw
    simp (disch := omega) only [↓nm_s, ↓bnd_s, ↓reduceIte, nI_add, pk_mul, nI_subdiv, nI_sub', nI_m1, nI_0m1, nI_clamp, gdi_nI, gdz_nI, nI_div, nrem, nI_ltI, nI_leI, nI_eq, leT, leF, ltT, ltF, eqT, eqF, neT, neF, z0, m1lt0, m1lt, m1le, nI_ne_neg, neg_ne_nI, embP_a, embL_a, embL_up, embL_up1, up2_ne, up2_at, up2_o, up1_ne, up1_at, bI_eq0, bI_eq1, or_true, true_or, and_true, true_and, or_false, false_or, and_false, false_and, not_true_eq_false, not_false_eq_true, if_true, if_false,  decide_true, decide_false, bI_t, bI_f, Nat.add_sub_cancel, Nat.zero_add, Nat.add_zero, Nat.mul_zero, upd_eq, upd_ne]
  | d + 1, l, f + 1, x, hx, hT, h, e => by
    have hn := hp.n
    have h3 := hx.k (k := l) (by omega)
    have a := s_isIdle (x := x) (k := l) (by omega) (by omega) (by omega)
    have hy : LI p (mIf p u x l) := LI_agr hp (Agr.of6 (fun _ _ h => mIf_o h)) hx
    have i := s_min2 hp hu N (d := d) (l := l + 1) (f := f) (x := mIf p u x l) hy (by rw [mIf_o (by omega)]; exact hT) (by omega) (by omega)
    rw [itn_s]
    generalize itn (fX1_countMinutes_2b N) (fun _ _ _ _ => none) f = K at i ⊢
    rw [show upw (mIf p u) l (d + 1) x = upw (mIf p u) (l + 1) d (mIf p u x l) from rfl]
    unfold fX1_countMinutes_2b
    by_cases c : x 1 l = x 2 l
    · have w := s_state hp hx (by omega) (k := l) (by omega)
      unfold sState at w
      rw [if_pos c] at w
      by_cases z : l = 0 ∨ sWait x l ≠ 0
      · rw [if_pos z] at w
        have em : mIf p u x l = up2 x 6 (l * 4 + 1) (x 6 (l * 4 + 1) + (u - x 8 0)) := by
          unfold mIf
          rw [if_pos c, if_pos z]
        rw [em] at i ⊢
        simp (disch := omega) only [↓nm_s, ↓bnd_s, ↓reduceIte, nI_add, pk_mul, nI_subdiv, nI_sub', nI_m1, nI_0m1, nI_clamp, gdi_nI, gdz_nI, nI_div, nrem, nI_ltI, nI_leI, nI_eq, leT, leF, ltT, ltF, eqT, eqF, neT, neF, z0, m1lt0, m1lt, m1le, nI_ne_neg, neg_ne_nI, embP_a, embL_a, embL_up, embL_up1, up2_ne, up2_at, up2_o, up1_ne, up1_at, bI_eq0, bI_eq1, or_true, true_or, and_true, true_and, or_false, false_or, and_false, false_and, not_true_eq_false, not_false_eq_true, if_true, if_false,  decide_true, decide_false, bI_t, bI_f, Nat.add_sub_cancel, Nat.zero_add, Nat.add_zero, Nat.mul_zero, upd_eq, upd_ne, a, w, fX1_countMinutes_103, i]
      · rw [if_neg z] at w
        have em : mIf p u x l = up2 x 6 (l * 4) (x 6 (l * 4) + (u - x 8 0)) := by
          unfold mIf
          rw [if_pos c, if_neg z]
          rfl
        rw [em] at i ⊢
        simp (disch := omega) only [↓nm_s, ↓bnd_s, ↓reduceIte, nI_add, pk_mul, nI_subdiv, nI_sub', nI_m1, nI_0m1, nI_clamp, gdi_nI, gdz_nI, nI_div, nrem, nI_ltI, nI_leI, nI_eq, leT, leF, ltT, ltF, eqT, eqF, neT, neF, z0, m1lt0, m1lt, m1le, nI_ne_neg, neg_ne_nI, embP_a, embL_a, embL_up, embL_up1, up2_ne, up2_at, up2_o, up1_ne, up1_at, bI_eq0, bI_eq1, or_true, true_or, and_true, true_and, or_false, false_or, and_false, false_and, not_true_eq_false, not_false_eq_true, if_true, if_false,  decide_true, decide_false, bI_t, bI_f, Nat.add_sub_cancel, Nat.zero_add, Nat.add_zero, Nat.mul_zero, upd_eq, upd_ne, a, w, fX1_countMinutes_103, i]
    · have he := hx.e (k := l) (by omega) c
      have g := s_setUp hp hx (k := l) (by omega) c
      by_cases y : x 8 0 < min u (x 3 l - p 0 l)
      · by_cases z : x 3 l - p 0 l < u
        · rw [Nat.min_eq_right (by omega)] at y
          have em : mIf p u x l = up2 (up2 x 6 (l * 4 + 2) (x 6 (l * 4 + 2) + (x 3 l - p 0 l - x 8 0))) 6 (l * 4 + 3) (x 6 (l * 4 + 3) + (u - x 8 0 - (x 3 l - p 0 l - x 8 0))) := by
            unfold mIf
            rw [if_neg c, Nat.min_eq_right (by omega)]
          rw [em] at i ⊢
          simp (disch := omega) only [↓nm_s, ↓bnd_s, ↓reduceIte, nI_add, pk_mul, nI_subdiv, nI_sub', nI_m1, nI_0m1, nI_clamp, gdi_nI, gdz_nI, nI_div, nrem, nI_ltI, nI_leI, nI_eq, leT, leF, ltT, ltF, eqT, eqF, neT, neF, z0, m1lt0, m1lt, m1le, nI_ne_neg, neg_ne_nI, embP_a, embL_a, embL_up, embL_up1, up2_ne, up2_at, up2_o, up1_ne, up1_at, bI_eq0, bI_eq1, or_true, true_or, and_true, true_and, or_false, false_or, and_false, false_and, not_true_eq_false, not_false_eq_true, if_true, if_false,  decide_true, decide_false, bI_t, bI_f, Nat.add_sub_cancel, Nat.zero_add, Nat.add_zero, Nat.mul_zero, upd_eq, upd_ne, a, g, fX1_countMinutes_103, i]
        · rw [Nat.min_eq_left (by omega)] at y
          have em : mIf p u x l = up2 (up2 x 6 (l * 4 + 2) (x 6 (l * 4 + 2) + (u - x 8 0))) 6 (l * 4 + 3) (x 6 (l * 4 + 3) + (u - x 8 0 - (u - x 8 0))) := by
            unfold mIf
            rw [if_neg c, Nat.min_eq_left (by omega)]
          rw [em] at i ⊢
          simp (disch := omega) only [↓nm_s, ↓bnd_s, ↓reduceIte, nI_add, pk_mul, nI_subdiv, nI_sub', nI_m1, nI_0m1, nI_clamp, gdi_nI, gdz_nI, nI_div, nrem, nI_ltI, nI_leI, nI_eq, leT, leF, ltT, ltF, eqT, eqF, neT, neF, z0, m1lt0, m1lt, m1le, nI_ne_neg, neg_ne_nI, embP_a, embL_a, embL_up, embL_up1, up2_ne, up2_at, up2_o, up1_ne, up1_at, bI_eq0, bI_eq1, or_true, true_or, and_true, true_and, or_false, false_or, and_false, false_and, not_true_eq_false, not_false_eq_true, if_true, if_false,  decide_true, decide_false, bI_t, bI_f, Nat.add_sub_cancel, Nat.zero_add, Nat.add_zero, Nat.mul_zero, upd_eq, upd_ne, a, g, fX1_countMinutes_103, i]
      · have em : mIf p u x l = up2 (up2 x 6 (l * 4 + 2) (x 6 (l * 4 + 2))) 6 (l * 4 + 3) (x 6 (l * 4 + 3) + (u - x 8 0 - 0)) := by
          unfold mIf
          rw [if_neg c, show min u (x 3 l - p 0 l) - x 8 0 = 0 from by omega]
          rfl
        rw [em] at i ⊢
        by_cases z : x 3 l - p 0 l < u
        · by_cases y2 : x 8 0 = x 3 l - p 0 l
          · simp (disch := omega) only [↓nm_s, ↓bnd_s, ↓reduceIte, nI_add, pk_mul, nI_subdiv, nI_sub', nI_m1, nI_0m1, nI_clamp, gdi_nI, gdz_nI, nI_div, nrem, nI_ltI, nI_leI, nI_eq, leT, leF, ltT, ltF, eqT, eqF, neT, neF, z0, m1lt0, m1lt, m1le, nI_ne_neg, neg_ne_nI, embP_a, embL_a, embL_up, embL_up1, up2_ne, up2_at, up2_o, up1_ne, up1_at, bI_eq0, bI_eq1, or_true, true_or, and_true, true_and, or_false, false_or, and_false, false_and, not_true_eq_false, not_false_eq_true, if_true, if_false,  decide_true, decide_false, bI_t, bI_f, Nat.add_sub_cancel, Nat.zero_add, Nat.add_zero, Nat.mul_zero, upd_eq, upd_ne, a, g, fX1_countMinutes_103, i]
          · have neg := pk_sneg (a := x 3 l - p 0 l) (b := x 8 0) (by omega) (by omega)
            have neg2 : (nI 0 < nI (x 3 l - p 0 l) - nI (x 8 0)) = False := by
              rw [z0] at neg
              apply eq_false
              intro q
              exact absurd (Int32.lt_trans neg q) (Int32.lt_irrefl)
            simp (disch := omega) only [↓nm_s, ↓bnd_s, ↓reduceIte, nI_add, pk_mul, nI_subdiv, nI_sub', nI_m1, nI_0m1, nI_clamp, gdi_nI, gdz_nI, nI_div, nrem, nI_ltI, nI_leI, nI_eq, leT, leF, ltT, ltF, eqT, eqF, neT, neF, z0, m1lt0, m1lt, m1le, nI_ne_neg, neg_ne_nI, embP_a, embL_a, embL_up, embL_up1, up2_ne, up2_at, up2_o, up1_ne, up1_at, bI_eq0, bI_eq1, or_true, true_or, and_true, true_and, or_false, false_or, and_false, false_and, not_true_eq_false, not_false_eq_true, if_true, if_false,  decide_true, decide_false, bI_t, bI_f, Nat.add_sub_cancel, Nat.zero_add, Nat.add_zero, Nat.mul_zero, upd_eq, upd_ne, a, g, fX1_countMinutes_103, neg2, i]
        · simp (disch := omega) only [↓nm_s, ↓bnd_s, ↓reduceIte, nI_add, pk_mul, nI_subdiv, nI_sub', nI_m1, nI_0m1, nI_clamp, gdi_nI, gdz_nI, nI_div, nrem, nI_ltI, nI_leI, nI_eq, leT, leF, ltT, ltF, eqT, eqF, neT, neF, z0, m1lt0, m1lt, m1le, nI_ne_neg, neg_ne_nI, embP_a, embL_a, embL_up, embL_up1, up2_ne, up2_at, up2_o, up1_ne, up1_at, bI_eq0, bI_eq1, or_true, true_or, and_true, true_and, or_false, false_or, and_false, false_and, not_true_eq_false, not_false_eq_true, if_true, if_false,  decide_true, decide_false, bI_t, bI_f, Nat.add_sub_cancel, Nat.zero_add, Nat.add_zero, Nat.mul_zero, upd_eq, upd_ne, a, g, fX1_countMinutes_103, i]
theorem s_min {p x : Nx} (hp : PI p) {u N : Nat} (hN : 6 < N) (hu : u < 2 ^ 30) (hx : LI p x) (hT : x 8 0 ≤ u) : fX1_countMinutes N (embP p) (embL x) (nI u) = some (embL (sMin p u x)) := by
  have hn := hp.n
  have g := s_min2 hp hu N (d := p 6 0) (l := 0) (f := N) (x := x) hx hT (by omega) (by omega)
  unfold fX1_countMinutes sMin
  simp (disch := omega) only [↓nm_s, ↓bnd_s, ↓reduceIte, nI_add, pk_mul, nI_subdiv, nI_sub', nI_m1, nI_0m1, nI_clamp, gdi_nI, gdz_nI, nI_div, nrem, nI_ltI, nI_leI, nI_eq, leT, leF, ltT, ltF, eqT, eqF, neT, neF, z0, m1lt0, m1lt, m1le, nI_ne_neg, neg_ne_nI, embP_a, embL_a, embL_up, embL_up1, up2_ne, up2_at, up2_o, up1_ne, up1_at, bI_eq0, bI_eq1, or_true, true_or, and_true, true_and, or_false, false_or, and_false, false_and, not_true_eq_false, not_false_eq_true, if_true, if_false,  decide_true, decide_false, bI_t, bI_f, Nat.add_sub_cancel, Nat.zero_add, Nat.add_zero, Nat.mul_zero, upd_eq, upd_ne, fX1_countMinutes_2, g]
/-! to a time -/
def sMove1 (p : Nx) (u : Nat) (x : Nx) : Nx := sRound p (up1 (sMin p u x) 8 u)
def moveN (p : Nx) (th : Nat) : Nat → Nx → Nx
  | 0, x => x
  | d + 1, x => if th ≤ x 8 0 then x else moveN p th d (sMove1 p (if sNext p x < th then sNext p x else th) x)
theorem LI_move1 {p x : Nx} (hp : PI p) (hx : LZ p x) {u : Nat} (h1 : x 8 0 ≤ u) (h2 : u ≤ sNext p x) : LI p (up1 (sMin p u x) 8 u) := by
  refine LI_time (LZ_min hp hx).1 (by rw [sMin_o (by omega)]; exact h1) (fun k hk hb => ?_)
  rw [sMin_o (by omega), sMin_o (by omega)] at hb
  rw [sMin_o (by omega)]
  exact Nat.le_trans h2 (sNext_le hk hb)
theorem LZ_move1 {p x : Nx} (hp : PI p) (hx : LZ p x) {u : Nat} (h1 : x 8 0 ≤ u) (h2 : u ≤ sNext p x) : LZ p (sMove1 p u x) := LZ_round hp (LI_move1 hp hx h1 h2)
theorem move1_8 {p x : Nx} {u : Nat} : sMove1 p u x 8 0 = u := by
  unfold sMove1
  rw [round_o (by omega), up1_at]
theorem moveN_stop {p x : Nx} {th : Nat} (h : th ≤ x 8 0) : ∀ {d : Nat}, moveN p th d x = x
  | 0 => rfl
  | d + 1 => by unfold moveN; rw [if_pos h]
theorem move_ok {p : Nx} (hp : PI p) {th : Nat} (hth : th < 2 ^ 30) : ∀ {d : Nat} {x : Nx}, LZ p x → x 8 0 ≤ th → th ≤ x 8 0 + d → LZ p (moveN p th d x) ∧ moveN p th d x 8 0 = th
  | 0, x, hx, h1, h2 => ⟨hx, by show x 8 0 = th; omega⟩
  | d + 1, x, hx, h1, h2 => by
    have hb := sNext_b hp hx (by omega)
    unfold moveN
    by_cases c : th ≤ x 8 0
    · rw [if_pos c]; exact ⟨hx, by omega⟩
    · rw [if_neg c]
      by_cases e : sNext p x < th
      · rw [if_pos e]
        exact move_ok hp hth (LZ_move1 hp hx (by omega) (by omega)) (by rw [move1_8]; omega) (by rw [move1_8]; omega)
      · rw [if_neg e]
        exact move_ok hp hth (LZ_move1 hp hx (by omega) (by omega)) (by rw [move1_8]; omega) (by rw [move1_8]; omega)
theorem s_move2 {p : Nx} (hp : PI p) {N : Nat} (hN : 6 < N) {th : Nat} (hth : th < 2 ^ 30) : ∀ {d f c : Nat} {x : Nx}, LZ p x → x 8 0 ≤ th → th ≤ x 8 0 + d → d < f → c + d ≤ 1000000 → itn (fX1_moveTo_2b N) (fun _ _ _ _ => none) f (embP p) (embL x) (nI th) (nI c) = some (embL (moveN p th d x))
  | _, 0, _, x, _, _, _, h, _ => by omega
  | 0, f + 1, c, x, hx, h1, h2, hf, hc => by
    rw [itn_s]
    generalize itn (fX1_moveTo_2b N) (fun _ _ _ _ => none) f = K
    unfold fX1_moveTo_2b moveN
    by_cases w : 1000000 ≤ c
    · simp (disch := omega) only [↓nm_s, ↓bnd_s, ↓reduceIte, nI_add, pk_mul, nI_subdiv, nI_sub', nI_m1, nI_0m1, nI_clamp, gdi_nI, gdz_nI, nI_div, nrem, nI_ltI, nI_leI, nI_eq, leT, leF, ltT, ltF, eqT, eqF, neT, neF, z0, m1lt0, m1lt, m1le, nI_ne_neg, neg_ne_nI, embP_a, embL_a, embL_up, embL_up1, up2_ne, up2_at, up2_o, up1_ne, up1_at, bI_eq0, bI_eq1, or_true, true_or, and_true, true_and, or_false, false_or, and_false, false_and, not_true_eq_false, not_false_eq_true, if_true, if_false,  decide_true, decide_false, bI_t, bI_f, Nat.add_sub_cancel, Nat.zero_add, Nat.add_zero, Nat.mul_zero, upd_eq, upd_ne]
    · simp (disch := omega) only [↓nm_s, ↓bnd_s, ↓reduceIte, nI_add, pk_mul, nI_subdiv, nI_sub', nI_m1, nI_0m1, nI_clamp, gdi_nI, gdz_nI, nI_div, nrem, nI_ltI, nI_leI, nI_eq, leT, leF, ltT, ltF, eqT, eqF, neT, neF, z0, m1lt0, m1lt, m1le, nI_ne_neg, neg_ne_nI, embP_a, embL_a, embL_up, embL_up1, up2_ne, up2_at, up2_o, up1_ne, up1_at, bI_eq0, bI_eq1, or_true, true_or, and_true, true_and, or_false, false_or, and_false, false_and, not_true_eq_false, not_false_eq_true, if_true, if_false,  decide_true, decide_false, bI_t, bI_f, Nat.add_sub_cancel, Nat.zero_add, Nat.add_zero, Nat.mul_zero, upd_eq, upd_ne]
  | d + 1, f + 1, c, x, hx, h1, h2, hf, hc => by
    rw [itn_s]
    unfold moveN
    by_cases z : th ≤ x 8 0
    · rw [if_pos z]
      generalize itn (fX1_moveTo_2b N) (fun _ _ _ _ => none) f = K
      unfold fX1_moveTo_2b
      by_cases w : 1000000 ≤ c
      · simp (disch := omega) only [↓nm_s, ↓bnd_s, ↓reduceIte, nI_add, pk_mul, nI_subdiv, nI_sub', nI_m1, nI_0m1, nI_clamp, gdi_nI, gdz_nI, nI_div, nrem, nI_ltI, nI_leI, nI_eq, leT, leF, ltT, ltF, eqT, eqF, neT, neF, z0, m1lt0, m1lt, m1le, nI_ne_neg, neg_ne_nI, embP_a, embL_a, embL_up, embL_up1, up2_ne, up2_at, up2_o, up1_ne, up1_at, bI_eq0, bI_eq1, or_true, true_or, and_true, true_and, or_false, false_or, and_false, false_and, not_true_eq_false, not_false_eq_true, if_true, if_false,  decide_true, decide_false, bI_t, bI_f, Nat.add_sub_cancel, Nat.zero_add, Nat.add_zero, Nat.mul_zero, upd_eq, upd_ne]
      · simp (disch := omega) only [↓nm_s, ↓bnd_s, ↓reduceIte, nI_add, pk_mul, nI_subdiv, nI_sub', nI_m1, nI_0m1, nI_clamp, gdi_nI, gdz_nI, nI_div, nrem, nI_ltI, nI_leI, nI_eq, leT, leF, ltT, ltF, eqT, eqF, neT, neF, z0, m1lt0, m1lt, m1le, nI_ne_neg, neg_ne_nI, embP_a, embL_a, embL_up, embL_up1, up2_ne, up2_at, up2_o, up1_ne, up1_at, bI_eq0, bI_eq1, or_true, true_or, and_true, true_and, or_false, false_or, and_false, false_and, not_true_eq_false, not_false_eq_true, if_true, if_false,  decide_true, decide_false, bI_t, bI_f, Nat.add_sub_cancel, Nat.zero_add, Nat.add_zero, Nat.mul_zero, upd_eq, upd_ne]
    · rw [if_neg z]
      have hb := sNext_b hp hx (by omega)
      have g := s_next hp hx.1 (by omega) hN
      by_cases e : sNext p x < th
      · rw [if_pos e]
        have i := s_move2 hp hN hth (d := d) (f := f) (c := c + 1) (x := sMove1 p (sNext p x) x) (LZ_move1 hp hx (by omega) (by omega)) (by rw [move1_8]; omega) (by rw [move1_8]; omega) (by omega) (by omega)
        have m := s_min hp hN (u := sNext p x) (by omega) hx.1 (by omega)
        have r := s_round hp hN (LI_move1 hp hx (u := sNext p x) (by omega) (by omega)) (by rw [up1_at]; omega)
        rw [show sRound p (up1 (sMin p (sNext p x) x) 8 (sNext p x)) = sMove1 p (sNext p x) x from rfl] at r
        generalize itn (fX1_moveTo_2b N) (fun _ _ _ _ => none) f = K at i ⊢
        unfold fX1_moveTo_2b
        simp (disch := omega) only [↓nm_s, ↓bnd_s, ↓reduceIte, nI_add, pk_mul, nI_subdiv, nI_sub', nI_m1, nI_0m1, nI_clamp, gdi_nI, gdz_nI, nI_div, nrem, nI_ltI, nI_leI, nI_eq, leT, leF, ltT, ltF, eqT, eqF, neT, neF, z0, m1lt0, m1lt, m1le, nI_ne_neg, neg_ne_nI, embP_a, embL_a, embL_up, embL_up1, up2_ne, up2_at, up2_o, up1_ne, up1_at, bI_eq0, bI_eq1, or_true, true_or, and_true, true_and, or_false, false_or, and_false, false_and, not_true_eq_false, not_false_eq_true, if_true, if_false,  decide_true, decide_false, bI_t, bI_f, Nat.add_sub_cancel, Nat.zero_add, Nat.add_zero, Nat.mul_zero, upd_eq, upd_ne, g, m, r, i]
      · rw [if_neg e]
        have i := s_move2 hp hN hth (d := d) (f := f) (c := c + 1) (x := sMove1 p th x) (LZ_move1 hp hx (by omega) (by omega)) (by rw [move1_8]; omega) (by rw [move1_8]; omega) (by omega) (by omega)
        have m := s_min hp hN (u := th) (by omega) hx.1 (by omega)
        have r := s_round hp hN (LI_move1 hp hx (u := th) (by omega) (by omega)) (by rw [up1_at]; omega)
        rw [show sRound p (up1 (sMin p th x) 8 th) = sMove1 p th x from rfl] at r
        generalize itn (fX1_moveTo_2b N) (fun _ _ _ _ => none) f = K at i ⊢
        unfold fX1_moveTo_2b
        simp (disch := omega) only [↓nm_s, ↓bnd_s, ↓reduceIte, nI_add, pk_mul, nI_subdiv, nI_sub', nI_m1, nI_0m1, nI_clamp, gdi_nI, gdz_nI, nI_div, nrem, nI_ltI, nI_leI, nI_eq, leT, leF, ltT, ltF, eqT, eqF, neT, neF, z0, m1lt0, m1lt, m1le, nI_ne_neg, neg_ne_nI, embP_a, embL_a, embL_up, embL_up1, up2_ne, up2_at, up2_o, up1_ne, up1_at, bI_eq0, bI_eq1, or_true, true_or, and_true, true_and, or_false, false_or, and_false, false_and, not_true_eq_false, not_false_eq_true, if_true, if_false,  decide_true, decide_false, bI_t, bI_f, Nat.add_sub_cancel, Nat.zero_add, Nat.add_zero, Nat.mul_zero, upd_eq, upd_ne, g, m, r, i]
theorem s_move {p x : Nx} (hp : PI p) {N : Nat} (hN : 2000 < N) {th : Nat} (hth : th < 2 ^ 30) (hx : LZ p x) (h1 : x 8 0 ≤ th) (h2 : th ≤ x 8 0 + 1000) : fX1_moveTo N (embP p) (embL x) (nI th) = some (embL (moveN p th 1000 x)) := by
  have g := s_move2 hp (N := N) (by omega) hth (d := 1000) (f := N) (c := 0) (x := x) hx h1 h2 (by omega) (by omega)
  unfold fX1_moveTo
  simp (disch := omega) only [↓nm_s, ↓bnd_s, ↓reduceIte, nI_add, pk_mul, nI_subdiv, nI_sub', nI_m1, nI_0m1, nI_clamp, gdi_nI, gdz_nI, nI_div, nrem, nI_ltI, nI_leI, nI_eq, leT, leF, ltT, ltF, eqT, eqF, neT, neF, z0, m1lt0, m1lt, m1le, nI_ne_neg, neg_ne_nI, embP_a, embL_a, embL_up, embL_up1, up2_ne, up2_at, up2_o, up1_ne, up1_at, bI_eq0, bI_eq1, or_true, true_or, and_true, true_and, or_false, false_or, and_false, false_and, not_true_eq_false, not_false_eq_true, if_true, if_false,  decide_true, decide_false, bI_t, bI_f, Nat.add_sub_cancel, Nat.zero_add, Nat.add_zero, Nat.mul_zero, upd_eq, upd_ne, fX1_moveTo_2, g]
theorem moveN_o {p : Nx} {th a i : Nat} (h : a = 4 ∨ a = 7) : ∀ {d : Nat} {x : Nx}, moveN p th d x a i = x a i
  | 0, _ => rfl
  | d + 1, x => by
    unfold moveN
    by_cases c : th ≤ x 8 0
    · rw [if_pos c]
    · rw [if_neg c, moveN_o h]
      unfold sMove1
      rw [round_o (by omega), up1_ne (by omega), sMin_o (by omega)]
/-! from the start -/
theorem s_fill5 {nU N : Nat} (hU : nU < 2 ^ 31) (v : Int32) : ∀ {d i f : Nat} {U : Nat → Int32}, d < f → i + d = nU → itn (fJ7_fill_53178_5b nU N) (fun _ _ _ _ => none) f U v (nI i) (nI nU) = some (fun j => if i ≤ j ∧ j < nU then v else U j)
  | _, _, 0, _, h, _ => by omega
  | 0, i, f + 1, U, h, e => by
    rw [itn_s]
    unfold fJ7_fill_53178_5b
    simp (disch := omega) only [↓nm_s, ↓bnd_s, ↓reduceIte, nI_add, pk_mul, nI_subdiv, nI_sub', nI_m1, nI_0m1, nI_clamp, gdi_nI, gdz_nI, nI_div, nrem, nI_ltI, nI_leI, nI_eq, leT, leF, ltT, ltF, eqT, eqF, neT, neF, z0, m1lt0, m1lt, m1le, nI_ne_neg, neg_ne_nI, embP_a, embL_a, embL_up, embL_up1, up2_ne, up2_at, up2_o, up1_ne, up1_at, bI_eq0, bI_eq1, or_true, true_or, and_true, true_and, or_false, false_or, and_false, false_and, not_true_eq_false, not_false_eq_true, if_true, if_false,  decide_true, decide_false, bI_t, bI_f, Nat.add_sub_cancel, Nat.zero_add, Nat.add_zero, Nat.mul_zero, upd_eq, upd_ne]
    congr 1
    funext j
    rw [if_neg (by omega)]
  | d + 1, i, f + 1, U, h, e => by
    have q := s_fill5 hU v (N := N) (d := d) (i := i + 1) (f := f) (U := upd U i v) (by omega) (by omega)
    rw [itn_s]
    generalize itn (fJ7_fill_53178_5b nU N) (fun _ _ _ _ => none) f = K at q ⊢
    unfold fJ7_fill_53178_5b
    simp (disch := omega) only [↓nm_s, ↓bnd_s, ↓reduceIte, nI_add, pk_mul, nI_subdiv, nI_sub', nI_m1, nI_0m1, nI_clamp, gdi_nI, gdz_nI, nI_div, nrem, nI_ltI, nI_leI, nI_eq, leT, leF, ltT, ltF, eqT, eqF, neT, neF, z0, m1lt0, m1lt, m1le, nI_ne_neg, neg_ne_nI, embP_a, embL_a, embL_up, embL_up1, up2_ne, up2_at, up2_o, up1_ne, up1_at, bI_eq0, bI_eq1, or_true, true_or, and_true, true_and, or_false, false_or, and_false, false_and, not_true_eq_false, not_false_eq_true, if_true, if_false,  decide_true, decide_false, bI_t, bI_f, Nat.add_sub_cancel, Nat.zero_add, Nat.add_zero, Nat.mul_zero, upd_eq, upd_ne, q]
    congr 1
    funext j
    by_cases c : j = i
    · subst c
      rw [if_neg (by omega), if_pos (by omega), pk_us]
    · rw [pk_un c]
      by_cases g : i ≤ j ∧ j < nU
      · rw [if_pos g, if_pos (by omega)]
      · rw [if_neg g, if_neg (by omega)]
theorem s_fill {nU N : Nat} (hU : nU < 2 ^ 31) (hN : nU < N) (v : Int32) (U : Nat → Int32) : fJ7_fill_53178 nU N U v = some (fun j => if j < nU then v else U j) := by
  have q := s_fill5 hU v (N := N) (d := nU) (i := 0) (f := N) (U := U) (by omega) (by omega)
  unfold fJ7_fill_53178
  simp only [↓nm_s, fJ7_fill_53178_5, q]
  congr 1
  funext j
  by_cases g : j < nU
  · rw [if_pos g, if_pos (by omega)]
  · rw [if_neg g, if_neg (by omega)]
def sClr (x : Nx) (C : Nat → Nat) (f : Nat) : Nx := fun a i => if a = 4 then (if i < 5 then C i else x 4 i) else if a = 1 ∨ a = 2 then (if i < 6 then 0 else x a i) else if a = 6 then (if i < 24 then 0 else x a i) else if a = 7 then f else if a = 8 ∨ a = 9 ∨ a = 10 then 0 else x a i
theorem LI_clr {p x : Nx} (hp : PI p) {C : Nat → Nat} {f : Nat} (hf : 1 ≤ f ∧ f ≤ 5) (hC : ∀ l, l < p 7 0 → 1 ≤ C l ∧ C l ≤ 20) : LI p (sClr x C f) := by
  have hn := hp.n
  have hq := hp.q
  have e1 : ∀ i, i < 6 → sClr x C f 1 i = 0 := fun i hi => by simp [sClr, hi]
  have e2 : ∀ i, i < 6 → sClr x C f 2 i = 0 := fun i hi => by simp [sClr, hi]
  have e4 : ∀ i, i < 5 → sClr x C f 4 i = C i := fun i hi => by simp [sClr, hi]
  have e7 : sClr x C f 7 0 = f := by simp [sClr]
  have e8 : sClr x C f 8 0 = 0 := by simp [sClr]
  have e9 : sClr x C f 9 0 = 0 := by simp [sClr]
  have e10 : sClr x C f 10 0 = 0 := by simp [sClr]
  refine ⟨?_, ?_, ?_, ?_, ?_, ?_, ?_⟩
  · rw [e7]; exact hf
  · intro l hl
    have := hC l hl
    have := hp.l hl
    rw [e4 l (by omega), e1 _ (by omega)]
    omega
  · intro k hk
    rw [e1 k (by omega), e2 k (by omega)]
    omega
  · intro k hk
    rw [e1 (k + 1) (by omega)]
    omega
  · intro k hk
    rw [e1 k (by omega), e2 k (by omega)]
    omega
  · intro j h1 h2
    rw [e1 0 (by omega)] at h2
    omega
  · omega
theorem s_new {p x : Nx} (hp : PI p) {C : Nat → Nat} {f N : Nat} (hN : 200 < N) (hf : 1 ≤ f ∧ f ≤ 5) (hC : ∀ l, l < p 7 0 → 1 ≤ C l ∧ C l ≤ 20) {D : Nat → Int32} (hD : ∀ l, l < 5 → D l = nI (C l)) : fX1_startAnew N (embP p) (embL x) D (nI f) = some (embL (sRound p (sClr x C f))) := by
  have r := s_round hp (N := N) (by omega) (LI_clr (x := x) hp hf hC) (by simp [sClr])
  unfold fX1_startAnew
  simp only [↓nm_s, ↓bnd_s, s_fill (show (6 : Nat) < 2 ^ 31 from by omega) (show 6 < N from by omega), s_fill (show (24 : Nat) < 2 ^ 31 from by omega) (show 24 < N from by omega)]
  rw [show (va_up (va_up (va_up (va_up (va_up (va_up (va_up (va_up (embL x) 4 (va_cpy D (embL x 4) 0 0 5)) 1 _) 2 _) 6 _) 7 (fun _ => nI f)) 8 (fun _ => nI 0)) 9 (fun _ => -1)) 10 (fun _ => -1)) = embL (sClr x C f) from ?_, r]
  · rfl
  funext a i
  by_cases h10 : a = 10
  · subst h10
    rw [va_up_self]
    simp [embL, sClr]
    decide
  rw [va_up_ne _ _ h10]
  by_cases h9 : a = 9
  · subst h9
    rw [va_up_self]
    simp [embL, sClr]
    decide
  rw [va_up_ne _ _ h9]
  by_cases h8 : a = 8
  · subst h8
    rw [va_up_self]
    simp [embL, sClr]
  rw [va_up_ne _ _ h8]
  by_cases h7 : a = 7
  · subst h7
    rw [va_up_self]
    simp [embL, sClr]
  rw [va_up_ne _ _ h7]
  by_cases h6 : a = 6
  · subst h6
    rw [va_up_self, va_up_ne _ _ (by omega), va_up_ne _ _ (by omega), va_up_ne _ _ (by omega)]
    by_cases c : i < 24
    · simp [embL, sClr, c]
    · simp [embL, sClr, c]
  rw [va_up_ne _ _ h6]
  by_cases h2 : a = 2
  · subst h2
    rw [va_up_self, va_up_ne _ _ (by omega), va_up_ne _ _ (by omega)]
    by_cases c : i < 6
    · simp [embL, sClr, c]
    · simp [embL, sClr, c]
  rw [va_up_ne _ _ h2]
  by_cases h1 : a = 1
  · subst h1
    rw [va_up_self, va_up_ne _ _ (by omega)]
    by_cases c : i < 6
    · simp [embL, sClr, c]
    · simp [embL, sClr, c]
  rw [va_up_ne _ _ h1]
  by_cases h4 : a = 4
  · subst h4
    rw [va_up_self]
    by_cases c : i < 5
    · rw [pk_cpy_in (by omega) (by omega), show 0 + (i - 0) = i from by omega, hD i c]
      simp [embL, sClr, c]
    · rw [pk_cpy_out (by omega)]
      simp [embL, sClr, c]
  rw [va_up_ne _ _ h4]
  simp [embL, sClr, h10, h9, h8, h7, h6, h2, h1, h4]
/-! copies -/
def sCpy (x y : Nx) : Nx := fun a i => if a = 1 ∨ a = 2 ∨ a = 3 then (if i < 6 then y a i else x a i) else if a = 4 then (if i < 5 then y a i else x a i) else if a = 5 then (if i < 20 then y a i else x a i) else if a = 6 then (if i < 24 then y a i else x a i) else if a = 7 ∨ a = 8 ∨ a = 9 ∨ a = 10 then y a 0 else x a i
theorem s_copy (x y : Nx) : fX1_copyFrom (embL x) (embL y) = some (embL (sCpy x y)) := by
  unfold fX1_copyFrom
  simp only [↓nm_s]
  congr 1
  funext a i
  by_cases h10 : a = 10
  · subst h10
    rw [va_up_self]
    simp [embL, sCpy]
  rw [va_up_ne _ _ h10]
  by_cases h9 : a = 9
  · subst h9
    rw [va_up_self]
    simp [embL, sCpy]
  rw [va_up_ne _ _ h9]
  by_cases h8 : a = 8
  · subst h8
    rw [va_up_self]
    simp [embL, sCpy]
  rw [va_up_ne _ _ h8]
  by_cases h7 : a = 7
  · subst h7
    rw [va_up_self]
    simp [embL, sCpy]
  rw [va_up_ne _ _ h7]
  by_cases h6 : a = 6
  · subst h6
    rw [va_up_self, va_up_ne _ _ (by omega), va_up_ne _ _ (by omega), va_up_ne _ _ (by omega), va_up_ne _ _ (by omega), va_up_ne _ _ (by omega)]
    by_cases c : i < 24
    · rw [pk_cpy_in (by omega) (by omega), show 0 + (i - 0) = i from by omega]; simp [embL, sCpy, c]
    · rw [pk_cpy_out (by omega)]; simp [embL, sCpy, c]
  rw [va_up_ne _ _ h6]
  by_cases h5 : a = 5
  · subst h5
    rw [va_up_self, va_up_ne _ _ (by omega), va_up_ne _ _ (by omega), va_up_ne _ _ (by omega), va_up_ne _ _ (by omega)]
    by_cases c : i < 20
    · rw [pk_cpy_in (by omega) (by omega), show 0 + (i - 0) = i from by omega]; simp [embL, sCpy, c]
    · rw [pk_cpy_out (by omega)]; simp [embL, sCpy, c]
  rw [va_up_ne _ _ h5]
  by_cases h4 : a = 4
  · subst h4
    rw [va_up_self, va_up_ne _ _ (by omega), va_up_ne _ _ (by omega), va_up_ne _ _ (by omega)]
    by_cases c : i < 5
    · rw [pk_cpy_in (by omega) (by omega), show 0 + (i - 0) = i from by omega]; simp [embL, sCpy, c]
    · rw [pk_cpy_out (by omega)]; simp [embL, sCpy, c]
  rw [va_up_ne _ _ h4]
  by_cases h3 : a = 3
  · subst h3
    rw [va_up_self, va_up_ne _ _ (by omega), va_up_ne _ _ (by omega)]
    by_cases c : i < 6
    · rw [pk_cpy_in (by omega) (by omega), show 0 + (i - 0) = i from by omega]; simp [embL, sCpy, c]
    · rw [pk_cpy_out (by omega)]; simp [embL, sCpy, c]
  rw [va_up_ne _ _ h3]
  by_cases h2 : a = 2
  · subst h2
    rw [va_up_self, va_up_ne _ _ (by omega)]
    by_cases c : i < 6
    · rw [pk_cpy_in (by omega) (by omega), show 0 + (i - 0) = i from by omega]; simp [embL, sCpy, c]
    · rw [pk_cpy_out (by omega)]; simp [embL, sCpy, c]
  rw [va_up_ne _ _ h2]
  by_cases h1 : a = 1
  · subst h1
    rw [va_up_self]
    by_cases c : i < 6
    · rw [pk_cpy_in (by omega) (by omega), show 0 + (i - 0) = i from by omega]; simp [embL, sCpy, c]
    · rw [pk_cpy_out (by omega)]; simp [embL, sCpy, c]
  rw [va_up_ne _ _ h1]
  simp [embL, sCpy, h10, h9, h8, h7, h6, h5, h4, h3, h2, h1]
theorem cpy_agr (x y : Nx) : Agr y (sCpy x y) := by
  intro a i h6 hi
  unfold ln at hi
  unfold sCpy
  by_cases h1 : a = 1 ∨ a = 2 ∨ a = 3
  · rw [if_pos h1, if_pos]
    rcases h1 with rfl | rfl | rfl <;> exact hi
  rw [if_neg h1]
  by_cases h4 : a = 4
  · subst h4
    rw [if_pos rfl, if_pos (show i < 5 from hi)]
  rw [if_neg h4]
  by_cases h5 : a = 5
  · subst h5
    rw [if_pos rfl, if_pos (show i < 20 from hi)]
  rw [if_neg h5, if_neg h6]
  by_cases h7 : a = 7 ∨ a = 8 ∨ a = 9 ∨ a = 10
  · rw [if_pos h7]
    have : i = 0 := by rcases h7 with rfl | rfl | rfl | rfl <;> (have : i < 1 := hi; omega)
    rw [this]
  rw [if_neg h4, if_neg h5, if_neg h7, if_neg h1] at hi
  omega
theorem cpy_6 {x y : Nx} {i : Nat} (h : i < 24) : sCpy x y 6 i = y 6 i := by
  unfold sCpy
  rw [if_neg (by omega), if_neg (by omega), if_neg (by omega), if_pos rfl, if_pos h]
end
section
/-! the model's row -/
/-- runs: g 0 kinds, g 1 counts -/
def sumG (g : Nx) : Nat → Nat
  | 0 => 0
  | r + 1 => sumG g r + g 1 r
def GI (p g : Nx) : Prop := p 8 0 ≤ 6 ∧ (∀ r, r < p 8 0 → 1 ≤ g 1 r ∧ g 1 r ≤ 20 ∧ g 0 r ≤ 3) ∧ p 9 0 = sumG g (p 8 0) ∧ ∀ r, r < p 8 0 → ∀ i, i < g 1 r → p 5 (sumG g r + i) = g 0 r
/-- what a row says of the plan: C the cards, f the factor -/
def Stat (p g : Nx) (C : Nat → Nat) (f : Nat) (S : Nat → Int32) : Prop := (S 0 = nI 1 ∧ S 1 = nI (p 6 0) ∧ S 14 = nI (p 7 0) ∧ S 35 = nI (p 8 0)) ∧ (∀ k, k < p 6 0 → S (2 + k) = nI (p 0 k) ∧ S (8 + k) = nI (p 1 k)) ∧ (∀ l, l < p 7 0 → S (15 + 4 * l) = nI (p 2 l) ∧ S (15 + 4 * l + 1) = nI (p 3 l) ∧ S (15 + 4 * l + 2) = nI (C l)) ∧ ∀ r, r < p 8 0 → S (36 + 2 * r) = nI (g 0 r) ∧ S (36 + 2 * r + 1) = nI (g 1 r * f)
def Dgl (p x : Nx) (S : Nat → Int32) : Prop := (S 48 = nI (x 8 0) ∧ S 49 = nI (x 2 (p 6 0 - 1)) ∧ S 50 = nI (x 1 0) ∧ S 51 = nI (x 9 0) - nI 1 ∧ S 52 = nI (x 10 0) - nI 1) ∧ ∀ l, l < p 7 0 → S (15 + 4 * l + 3) = nI (sFree p x l)
def Dst (p x : Nx) (S : Nat → Int32) (k : Nat) : Prop := S (53 + 9 * k) = (if x 1 k = x 2 k then -1 else nI (sKind p (x 7 0) (x 1 k - 1))) ∧ S (53 + 9 * k + 1) = (if x 2 k = 0 then -1 else nI (sKind p (x 7 0) (x 2 k - 1))) ∧ (x 1 k ≠ x 2 k → S (53 + 9 * k + 2) = nI (x 3 k - p 0 k) ∧ S (53 + 9 * k + 3) = nI (x 3 k) ∧ S (53 + 9 * k + 4) = nI (x 5 ((x 1 k - 1) % 20))) ∧ S (107 + 41 * k) = nI (sWait x k) ∧ ∀ i, i < sWait x k → S (107 + 41 * k + 1 + 2 * i) = nI (sKind p (x 7 0) (x 1 k + i)) ∧ S (107 + 41 * k + 2 + 2 * i) = nI (x 5 ((x 1 k + i) % 20))
def RelS (p g x : Nx) (S : Nat → Int32) : Prop := Stat p g (x 4) (x 7 0) S ∧ Dgl p x S ∧ ∀ k, k < p 6 0 → Dst p x S k
def SumS (p x : Nx) (S : Nat → Int32) : Prop := ∀ k s, k < p 6 0 → s < 4 → S (53 + 9 * k + 5 + s) = nI (x 6 (k * 4 + s))
def sameSum (S T : Nat → Int32) : Prop := ∀ k s, k < 6 → s < 4 → T (53 + 9 * k + 5 + s) = S (53 + 9 * k + 5 + s)
theorem Stat.mv {p g : Nx} {C C' : Nat → Nat} {f : Nat} {S T : Nat → Int32} (hp : PI p) (hg : GI p g) (h : Stat p g C f S) (hC : ∀ l, l < p 7 0 → C' l = C l) (hT : ∀ j, j < 48 → (∀ l, l < p 7 0 → j ≠ 15 + 4 * l + 3) → T j = S j) : Stat p g C' f T := by
  have hn := hp.n
  have hq := hp.q
  have h8 := hg.1
  refine ⟨⟨?_, ?_, ?_, ?_⟩, fun k hk => ⟨?_, ?_⟩, fun l hl => ⟨?_, ?_, ?_⟩, fun r hr => ⟨?_, ?_⟩⟩
  · rw [hT 0 (by omega) (fun l _ => by omega)]; exact h.1.1
  · rw [hT 1 (by omega) (fun l _ => by omega)]; exact h.1.2.1
  · rw [hT 14 (by omega) (fun l _ => by omega)]; exact h.1.2.2.1
  · rw [hT 35 (by omega) (fun l _ => by omega)]; exact h.1.2.2.2
  · rw [hT (2 + k) (by omega) (fun l _ => by omega)]; exact (h.2.1 k hk).1
  · rw [hT (8 + k) (by omega) (fun l _ => by omega)]; exact (h.2.1 k hk).2
  · rw [hT (15 + 4 * l) (by omega) (fun l _ => by omega)]; exact (h.2.2.1 l hl).1
  · rw [hT (15 + 4 * l + 1) (by omega) (fun l _ => by omega)]; exact (h.2.2.1 l hl).2.1
  · rw [hT (15 + 4 * l + 2) (by omega) (fun l _ => by omega), hC l hl]; exact (h.2.2.1 l hl).2.2
  · rw [hT (36 + 2 * r) (by omega) (fun l _ => by omega)]; exact (h.2.2.2 r hr).1
  · rw [hT (36 + 2 * r + 1) (by omega) (fun l _ => by omega)]; exact (h.2.2.2 r hr).2
/-- a station that nothing touched -/
theorem Dst.mv {p x y : Nx} {S T : Nat → Int32} {k : Nat} (hw : sWait x k ≤ 20) (h : Dst p x S k) (h1 : y 1 k = x 1 k) (h2 : y 2 k = x 2 k) (h3 : y 3 k = x 3 k) (h7 : y 7 0 = x 7 0) (w : sWait y k = sWait x k) (h5 : ∀ j, x 1 k ≤ j + 1 → j < x 1 k + sWait x k → (x 1 k ≤ j ∨ x 1 k ≠ x 2 k) → y 5 (j % 20) = x 5 (j % 20)) (hT : ∀ c, c < 5 → T (53 + 9 * k + c) = S (53 + 9 * k + c)) (hQ : ∀ c, c < 41 → T (107 + 41 * k + c) = S (107 + 41 * k + c)) (hb : x 2 k ≤ x 1 k) : Dst p y T k := by
  refine ⟨?_, ?_, ?_, ?_, ?_⟩
  · rw [h1, h2, h7]; exact (hT 0 (by omega)).trans h.1
  · rw [h2, h7]; exact (hT 1 (by omega)).trans h.2.1
  · rw [h1, h2, h3]
    intro z
    have e := h.2.2.1 z
    refine ⟨(hT 2 (by omega)).trans e.1, (hT 3 (by omega)).trans e.2.1, ?_⟩
    rw [h5 (x 1 k - 1) (by omega) (by omega) (Or.inr z)]
    exact (hT 4 (by omega)).trans e.2.2
  · rw [w]; exact (hQ 0 (by omega)).trans h.2.2.2.1
  · rw [w, h1, h7]
    intro i hi
    have e := h.2.2.2.2 i hi
    rw [h5 (x 1 k + i) (by omega) (by omega) (Or.inl (by omega))]
    refine ⟨?_, ?_⟩
    · rw [show 107 + 41 * k + 1 + 2 * i = 107 + 41 * k + (1 + 2 * i) from by omega, hQ (1 + 2 * i) (by omega), ← e.1]
      congr 1
      omega
    · rw [show 107 + 41 * k + 2 + 2 * i = 107 + 41 * k + (2 + 2 * i) from by omega, hQ (2 + 2 * i) (by omega), ← e.2]
      congr 1
      omega
theorem m_perR4 {p g : Nx} {C : Nat → Nat} {f : Nat} {S : Nat → Int32} (hg : GI p g) (h : Stat p g C f S) (N : Nat) : ∀ {d r u : Nat}, d < u → r + d = p 8 0 → itn (fX6_perRound_4b N) (fun _ _ _ => none) u S (nI (sumG g r * f)) (nI r) = some (nI (sumG g (p 8 0) * f))
  | _, _, 0, h, _ => by omega
  | 0, r, u + 1, _, e => by
    have h8 := hg.1
    have h35 := h.1.2.2.2
    rw [itn_s]
    unfold fX6_perRound_4b
    simp (disch := omega) only [↓nm_s, ↓bnd_s, ↓reduceIte, nI_add, pk_mul, nI_subdiv, nI_sub', nI_m1, nI_0m1, nI_clamp, gdi_nI, gdz_nI, nI_div, nrem, nI_ltI, nI_leI, nI_eq, leT, leF, ltT, ltF, eqT, eqF, neT, neF, z0, m1lt0, m1lt, m1le, nI_ne_neg, neg_ne_nI, embP_a, embL_a, embL_up, embL_up1, up2_ne, up2_at, up2_o, up1_ne, up1_at, bI_eq0, bI_eq1, or_true, true_or, and_true, true_and, or_false, false_or, and_false, false_and, not_true_eq_false, not_false_eq_true, if_true, if_false,  decide_true, decide_false, bI_t, bI_f, Nat.add_sub_cancel, Nat.zero_add, Nat.add_zero, Nat.mul_zero, upd_eq, upd_ne, h35]
    rw [show r = p 8 0 from by omega]
  | d + 1, r, u + 1, hu, e => by
    have h8 := hg.1
    have h35 := h.1.2.2.2
    have hr := (h.2.2.2 r (by omega)).2
    have i := m_perR4 hg h N (d := d) (r := r + 1) (u := u) (by omega) (by omega)
    rw [show sumG g (r + 1) * f = sumG g r * f + g 1 r * f from Nat.add_mul _ _ _] at i
    rw [itn_s]
    generalize itn (fX6_perRound_4b N) (fun _ _ _ => none) u = K at i ⊢
    unfold fX6_perRound_4b
    simp (disch := omega) only [↓nm_s, ↓bnd_s, ↓reduceIte, nI_add, pk_mul, nI_subdiv, nI_sub', nI_m1, nI_0m1, nI_clamp, gdi_nI, gdz_nI, nI_div, nrem, nI_ltI, nI_leI, nI_eq, leT, leF, ltT, ltF, eqT, eqF, neT, neF, z0, m1lt0, m1lt, m1le, nI_ne_neg, neg_ne_nI, embP_a, embL_a, embL_up, embL_up1, up2_ne, up2_at, up2_o, up1_ne, up1_at, bI_eq0, bI_eq1, or_true, true_or, and_true, true_and, or_false, false_or, and_false, false_and, not_true_eq_false, not_false_eq_true, if_true, if_false,  decide_true, decide_false, bI_t, bI_f, Nat.add_sub_cancel, Nat.zero_add, Nat.add_zero, Nat.mul_zero, upd_eq, upd_ne, h35, hr, i]
theorem m_perR {p g : Nx} {C : Nat → Nat} {f : Nat} {S : Nat → Int32} (hg : GI p g) (h : Stat p g C f S) {N : Nat} (hN : 6 < N) : fX6_perRound N S = some (nI (p 9 0 * f)) := by
  have h8 := hg.1
  have i := m_perR4 hg h N (d := p 8 0) (r := 0) (u := N) (by omega) (by omega)
  rw [show sumG g 0 * f = 0 from Nat.zero_mul _] at i
  unfold fX6_perRound
  rw [hg.2.2.1]
  simp (disch := omega) only [↓nm_s, ↓bnd_s, ↓reduceIte, nI_add, pk_mul, nI_subdiv, nI_sub', nI_m1, nI_0m1, nI_clamp, gdi_nI, gdz_nI, nI_div, nrem, nI_ltI, nI_leI, nI_eq, leT, leF, ltT, ltF, eqT, eqF, neT, neF, z0, m1lt0, m1lt, m1le, nI_ne_neg, neg_ne_nI, embP_a, embL_a, embL_up, embL_up1, up2_ne, up2_at, up2_o, up1_ne, up1_at, bI_eq0, bI_eq1, or_true, true_or, and_true, true_and, or_false, false_or, and_false, false_and, not_true_eq_false, not_false_eq_true, if_true, if_false,  decide_true, decide_false, bI_t, bI_f, Nat.add_sub_cancel, Nat.zero_add, Nat.add_zero, Nat.mul_zero, upd_eq, upd_ne, fX6_perRound_4, i]
theorem sumG_le {p g : Nx} (hg : GI p g) : ∀ {r : Nat}, r ≤ p 8 0 → sumG g r ≤ 20 * r ∧ r ≤ sumG g r
  | 0, _ => ⟨Nat.le_refl _, Nat.le_refl _⟩
  | r + 1, h => by
    have i := sumG_le hg (r := r) (by omega)
    have j := hg.2.1 r (by omega)
    unfold sumG
    omega
theorem m_kind18 {p g : Nx} {C : Nat → Nat} {f : Nat} {S : Nat → Int32} (hg : GI p g) (h : Stat p g C f S) (hf : 1 ≤ f ∧ f ≤ 5) (N : Nat) {L : Nat} (hL : L < sumG g (p 8 0) * f) : ∀ {d r u v : Nat}, d < u → r + d = p 8 0 → v + sumG g r * f = L → itn (fX6_kindOf_18b N) (fun _ _ _ => none) u S (nI v) (nI r) = some (nI (p 5 (L / f)))
  | _, _, 0, _, h, _, _ => by omega
  | 0, r, u + 1, v, _, e, e2 => by
    rw [show r = p 8 0 from by omega] at e2
    omega
  | d + 1, r, u + 1, v, hu, e, e2 => by
    have h8 := hg.1
    have hr := h.2.2.2 r (by omega)
    have hc := hg.2.1 r (by omega)
    have hs := (sumG_le hg (r := p 8 0) (Nat.le_refl _)).1
    have hb : sumG g (p 8 0) * f ≤ 120 * 5 := Nat.mul_le_mul (by omega) hf.2
    have hb2 : g 1 r * f ≤ 20 * 5 := Nat.mul_le_mul hc.2.1 hf.2
    rw [itn_s]
    by_cases c : v < g 1 r * f
    · have q : v / f < g 1 r := (Nat.div_lt_iff_lt_mul (by omega)).mpr c
      have w := hg.2.2.2 r (by omega) (v / f) q
      have z : L / f = sumG g r + v / f := by
        rw [← e2, Nat.add_mul_div_right _ _ (by omega)]
        omega
      generalize itn (fX6_kindOf_18b N) (fun _ _ _ => none) u = K
      unfold fX6_kindOf_18b
      rw [z, w]
      simp (disch := omega) only [↓nm_s, ↓bnd_s, ↓reduceIte, nI_add, pk_mul, nI_subdiv, nI_sub', nI_m1, nI_0m1, nI_clamp, gdi_nI, gdz_nI, nI_div, nrem, nI_ltI, nI_leI, nI_eq, leT, leF, ltT, ltF, eqT, eqF, neT, neF, z0, m1lt0, m1lt, m1le, nI_ne_neg, neg_ne_nI, embP_a, embL_a, embL_up, embL_up1, up2_ne, up2_at, up2_o, up1_ne, up1_at, bI_eq0, bI_eq1, or_true, true_or, and_true, true_and, or_false, false_or, and_false, false_and, not_true_eq_false, not_false_eq_true, if_true, if_false,  decide_true, decide_false, bI_t, bI_f, Nat.add_sub_cancel, Nat.zero_add, Nat.add_zero, Nat.mul_zero, upd_eq, upd_ne, hr.1, hr.2]
    · have i := m_kind18 hg h hf N hL (d := d) (r := r + 1) (u := u) (v := v - g 1 r * f) (by omega) (by omega) (by rw [show sumG g (r + 1) * f = sumG g r * f + g 1 r * f from Nat.add_mul _ _ _]; omega)
      generalize itn (fX6_kindOf_18b N) (fun _ _ _ => none) u = K at i ⊢
      unfold fX6_kindOf_18b
      simp (disch := omega) only [↓nm_s, ↓bnd_s, ↓reduceIte, nI_add, pk_mul, nI_subdiv, nI_sub', nI_m1, nI_0m1, nI_clamp, gdi_nI, gdz_nI, nI_div, nrem, nI_ltI, nI_leI, nI_eq, leT, leF, ltT, ltF, eqT, eqF, neT, neF, z0, m1lt0, m1lt, m1le, nI_ne_neg, neg_ne_nI, embP_a, embL_a, embL_up, embL_up1, up2_ne, up2_at, up2_o, up1_ne, up1_at, bI_eq0, bI_eq1, or_true, true_or, and_true, true_and, or_false, false_or, and_false, false_and, not_true_eq_false, not_false_eq_true, if_true, if_false,  decide_true, decide_false, bI_t, bI_f, Nat.add_sub_cancel, Nat.zero_add, Nat.add_zero, Nat.mul_zero, upd_eq, upd_ne, hr.1, hr.2, i]
theorem m_kind {p g : Nx} {C : Nat → Nat} {f : Nat} {S : Nat → Int32} (hg : GI p g) (h : Stat p g C f S) (hf : 1 ≤ f ∧ f ≤ 5) {N : Nat} (hN : 6 < N) {m : Nat} (hm : m < 2 ^ 31) : fX6_kindOf N S (nI m) = some (nI (sKind p f m)) := by
  have h8 := hg.1
  have h35 := h.1.2.2.2
  have pr := m_perR hg h hN
  have hs := sumG_le hg (r := p 8 0) (Nat.le_refl _)
  have h9 := hg.2.2.1
  unfold fX6_kindOf sKind
  by_cases c : p 8 0 = 0
  · have z : p 9 0 = 0 := by rw [h9, c]; rfl
    simp (disch := omega) only [↓nm_s, ↓bnd_s, ↓reduceIte, nI_add, pk_mul, nI_subdiv, nI_sub', nI_m1, nI_0m1, nI_clamp, gdi_nI, gdz_nI, nI_div, nrem, nI_ltI, nI_leI, nI_eq, leT, leF, ltT, ltF, eqT, eqF, neT, neF, z0, m1lt0, m1lt, m1le, nI_ne_neg, neg_ne_nI, embP_a, embL_a, embL_up, embL_up1, up2_ne, up2_at, up2_o, up1_ne, up1_at, bI_eq0, bI_eq1, or_true, true_or, and_true, true_and, or_false, false_or, and_false, false_and, not_true_eq_false, not_false_eq_true, if_true, if_false,  decide_true, decide_false, bI_t, bI_f, Nat.add_sub_cancel, Nat.zero_add, Nat.add_zero, Nat.mul_zero, upd_eq, upd_ne, h35]
  · have hb : p 9 0 * f ≤ 120 * 5 := Nat.mul_le_mul (by omega) hf.2
    have hb0 : 0 < p 9 0 * f := Nat.mul_pos (by omega) (by omega)
    have hm2 : m % (p 9 0 * f) < p 9 0 * f := Nat.mod_lt _ hb0
    have hd : m / (p 9 0 * f) ≤ m := Nat.div_le_self _ _
    have i := m_kind18 hg h hf N (L := m % (p 9 0 * f)) (by rw [← h9]; exact hm2) (d := p 8 0) (r := 0) (u := N) (v := m % (p 9 0 * f)) (by omega) (by omega) (by rw [show sumG g 0 * f = 0 from Nat.zero_mul _]; rfl)
    rw [Nat.mod_mul_left_div_self] at i
    simp (disch := omega) only [↓nm_s, ↓bnd_s, ↓reduceIte, nI_add, pk_mul, nI_subdiv, nI_sub', nI_m1, nI_0m1, nI_clamp, gdi_nI, gdz_nI, nI_div, nrem, nI_ltI, nI_leI, nI_eq, leT, leF, ltT, ltF, eqT, eqF, neT, neF, z0, m1lt0, m1lt, m1le, nI_ne_neg, neg_ne_nI, embP_a, embL_a, embL_up, embL_up1, up2_ne, up2_at, up2_o, up1_ne, up1_at, bI_eq0, bI_eq1, or_true, true_or, and_true, true_and, or_false, false_or, and_false, false_and, not_true_eq_false, not_false_eq_true, if_true, if_false,  decide_true, decide_false, bI_t, bI_f, Nat.add_sub_cancel, Nat.zero_add, Nat.add_zero, Nat.mul_zero, upd_eq, upd_ne, h35, pr, fX6_kindOf_18, i]
end
section
/-! the model: whoever is through goes on -/
theorem m_its {S : Nat → Int32} {k c : Nat} (h : 53 + 9 * k + c < 353) : fX6_its S (nI k) (nI c) = some (S (53 + 9 * k + c)) := by
  unfold fX6_its
  simp (disch := omega) only [↓nm_s, ↓bnd_s, ↓reduceIte, nI_add, pk_mul, nI_subdiv, nI_sub', nI_m1, nI_0m1, nI_clamp, gdi_nI, gdz_nI, nI_div, nrem, nI_ltI, nI_leI, nI_eq, leT, leF, ltT, ltF, eqT, eqF, neT, neF, z0, m1lt0, m1lt, m1le, nI_ne_neg, neg_ne_nI, embP_a, embL_a, embL_up, embL_up1, up2_ne, up2_at, up2_o, up1_ne, up1_at, bI_eq0, bI_eq1, or_true, true_or, and_true, true_and, or_false, false_or, and_false, false_and, not_true_eq_false, not_false_eq_true, if_true, if_false,  decide_true, decide_false, bI_t, bI_f, Nat.add_sub_cancel, Nat.zero_add, Nat.add_zero, Nat.mul_zero, upd_eq, upd_ne]
theorem m_idle {p x : Nx} {S : Nat → Int32} {k : Nat} (hp : PI p) (hk : k < p 6 0) (h : Dst p x S k) : fX6_isIdle S (nI k) = some (bI (decide (x 1 k = x 2 k))) := by
  have hn := hp.n
  have e := m_its (S := S) (k := k) (c := 0) (by omega)
  have h1 := h.1
  have t := sKind_lt hp (x 7 0) (x 1 k - 1)
  unfold fX6_isIdle
  by_cases c : x 1 k = x 2 k
  · rw [if_pos c] at h1
    simp (disch := omega) only [↓nm_s, ↓bnd_s, ↓reduceIte, nI_add, pk_mul, nI_subdiv, nI_sub', nI_m1, nI_0m1, nI_clamp, gdi_nI, gdz_nI, nI_div, nrem, nI_ltI, nI_leI, nI_eq, leT, leF, ltT, ltF, eqT, eqF, neT, neF, z0, m1lt0, m1lt, m1le, nI_ne_neg, neg_ne_nI, embP_a, embL_a, embL_up, embL_up1, up2_ne, up2_at, up2_o, up1_ne, up1_at, bI_eq0, bI_eq1, or_true, true_or, and_true, true_and, or_false, false_or, and_false, false_and, not_true_eq_false, not_false_eq_true, if_true, if_false,  decide_true, decide_false, bI_t, bI_f, Nat.add_sub_cancel, Nat.zero_add, Nat.add_zero, Nat.mul_zero, upd_eq, upd_ne, e, h1]
  · rw [if_neg c] at h1
    simp (disch := omega) only [↓nm_s, ↓bnd_s, ↓reduceIte, nI_add, pk_mul, nI_subdiv, nI_sub', nI_m1, nI_0m1, nI_clamp, gdi_nI, gdz_nI, nI_div, nrem, nI_ltI, nI_leI, nI_eq, leT, leF, ltT, ltF, eqT, eqF, neT, neF, z0, m1lt0, m1lt, m1le, nI_ne_neg, neg_ne_nI, embP_a, embL_a, embL_up, embL_up1, up2_ne, up2_at, up2_o, up1_ne, up1_at, bI_eq0, bI_eq1, or_true, true_or, and_true, true_and, or_false, false_or, and_false, false_and, not_true_eq_false, not_false_eq_true, if_true, if_false,  decide_true, decide_false, bI_t, bI_f, Nat.add_sub_cancel, Nat.zero_add, Nat.add_zero, Nat.mul_zero, upd_eq, upd_ne, e, h1]
theorem m_wait {p x : Nx} {S : Nat → Int32} {k : Nat} (hp : PI p) (hk : k < p 6 0) (h : Dst p x S k) : fX6_waiting S (nI k) = some (nI (sWait x k)) := by
  have hn := hp.n
  have h1 := h.2.2.2.1
  unfold fX6_waiting
  simp (disch := omega) only [↓nm_s, ↓bnd_s, ↓reduceIte, nI_add, pk_mul, nI_subdiv, nI_sub', nI_m1, nI_0m1, nI_clamp, gdi_nI, gdz_nI, nI_div, nrem, nI_ltI, nI_leI, nI_eq, leT, leF, ltT, ltF, eqT, eqF, neT, neF, z0, m1lt0, m1lt, m1le, nI_ne_neg, neg_ne_nI, embP_a, embL_a, embL_up, embL_up1, up2_ne, up2_at, up2_o, up1_ne, up1_at, bI_eq0, bI_eq1, or_true, true_or, and_true, true_and, or_false, false_or, and_false, false_and, not_true_eq_false, not_false_eq_true, if_true, if_false,  decide_true, decide_false, bI_t, bI_f, Nat.add_sub_cancel, Nat.zero_add, Nat.add_zero, Nat.mul_zero, upd_eq, upd_ne, h1]
theorem on_hit {p : Nx} {S : Nat → Int32} {k l N : Nat} {a b : Int32} {K : (Nat → Int32) → Int32 → Int32 → Int32 → Int32 → Option (Int32 × (Nat → Int32))} (hp : PI p) (hl : l < p 7 0) (hk : k < p 6 0) (h14 : S 14 = nI (p 7 0)) (h1 : S (15 + 4 * l + 1) = nI (p 3 l)) (c : p 3 l = k) : fX6_goesOn_41b N K S (nI k) a b (nI l) = K (upd S (15 + 4 * l + 3) (S (15 + 4 * l + 3) + nI 1)) (nI k) a b (nI (l + 1)) := by
  have hq := hp.q
  have hn := hp.n
  unfold fX6_goesOn_41b
  simp (disch := omega) only [↓nm_s, ↓bnd_s, ↓reduceIte, nI_add, pk_mul, nI_subdiv, nI_sub', nI_m1, nI_0m1, nI_clamp, gdi_nI, gdz_nI, nI_div, nrem, nI_ltI, nI_leI, nI_eq, leT, leF, ltT, ltF, eqT, eqF, neT, neF, z0, m1lt0, m1lt, m1le, nI_ne_neg, neg_ne_nI, embP_a, embL_a, embL_up, embL_up1, up2_ne, up2_at, up2_o, up1_ne, up1_at, bI_eq0, bI_eq1, or_true, true_or, and_true, true_and, or_false, false_or, and_false, false_and, not_true_eq_false, not_false_eq_true, if_true, if_false,  decide_true, decide_false, bI_t, bI_f, Nat.add_sub_cancel, Nat.zero_add, Nat.add_zero, Nat.mul_zero, upd_eq, upd_ne, h14, h1, fX6_goesOn_80]
theorem on_miss {p : Nx} {S : Nat → Int32} {k l N : Nat} {a b : Int32} {K : (Nat → Int32) → Int32 → Int32 → Int32 → Int32 → Option (Int32 × (Nat → Int32))} (hp : PI p) (hl : l < p 7 0) (hk : k < p 6 0) (h14 : S 14 = nI (p 7 0)) (h1 : S (15 + 4 * l + 1) = nI (p 3 l)) (c : p 3 l ≠ k) : fX6_goesOn_41b N K S (nI k) a b (nI l) = K S (nI k) a b (nI (l + 1)) := by
  have hq := hp.q
  have hn := hp.n
  have hx := hp.l hl
  unfold fX6_goesOn_41b
  simp (disch := omega) only [↓nm_s, ↓bnd_s, ↓reduceIte, nI_add, pk_mul, nI_subdiv, nI_sub', nI_m1, nI_0m1, nI_clamp, gdi_nI, gdz_nI, nI_div, nrem, nI_ltI, nI_leI, nI_eq, leT, leF, ltT, ltF, eqT, eqF, neT, neF, z0, m1lt0, m1lt, m1le, nI_ne_neg, neg_ne_nI, embP_a, embL_a, embL_up, embL_up1, up2_ne, up2_at, up2_o, up1_ne, up1_at, bI_eq0, bI_eq1, or_true, true_or, and_true, true_and, or_false, false_or, and_false, false_and, not_true_eq_false, not_false_eq_true, if_true, if_false,  decide_true, decide_false, bI_t, bI_f, Nat.add_sub_cancel, Nat.zero_add, Nat.add_zero, Nat.mul_zero, upd_eq, upd_ne, h14, h1, fX6_goesOn_80]
theorem on_loop {p : Nx} {k N : Nat} {a b : Int32} (hp : PI p) (hk : k < p 6 0) : ∀ {d l u : Nat} {S : Nat → Int32}, d < u → l + d = p 7 0 → S 14 = nI (p 7 0) → (∀ i, i < p 7 0 → S (15 + 4 * i + 1) = nI (p 3 i)) → ∃ T K, itn (fX6_goesOn_41b N) (fun _ _ _ _ _ => none) u S (nI k) a b (nI l) = fX6_goesOn_41b N K T (nI k) a b (nI (p 7 0)) ∧ (∀ j, (∀ i, l ≤ i → i < p 7 0 → j ≠ 15 + 4 * i + 3) → T j = S j) ∧ ∀ i, l ≤ i → i < p 7 0 → T (15 + 4 * i + 3) = if p 3 i = k then S (15 + 4 * i + 3) + nI 1 else S (15 + 4 * i + 3)
  | _, _, 0, _, h, _, _, _ => by omega
  | 0, l, u + 1, S, _, e, h14, h1 => by
    refine ⟨S, itn (fX6_goesOn_41b N) (fun _ _ _ _ _ => none) u, ?_, fun _ _ => rfl, fun i h1 h2 => by omega⟩
    rw [itn_s, show l = p 7 0 from by omega]
  | d + 1, l, u + 1, S, hu, e, h14, h1 => by
    have hq := hp.q
    rw [itn_s]
    by_cases c : p 3 l = k
    · obtain ⟨T, K, i1, i2, i3⟩ := on_loop (N := N) (a := a) (b := b) hp hk (d := d) (l := l + 1) (u := u) (S := upd S (15 + 4 * l + 3) (S (15 + 4 * l + 3) + nI 1)) (by omega) (by omega) (by rw [upd_ne (by omega)]; exact h14) (fun i hi => by rw [upd_ne (by omega)]; exact h1 i hi)
      refine ⟨T, K, ?_, ?_, ?_⟩
      · rw [on_hit hp (by omega) hk h14 (h1 l (by omega)) c]; exact i1
      · intro j hj
        rw [i2 j (fun i h2 h3 => hj i (by omega) h3), upd_ne (hj l (by omega) (by omega))]
      · intro i h2 h3
        by_cases z : i = l
        · subst z
          rw [i2 _ (fun i h2 h3 => by omega), upd_eq rfl, if_pos c]
        · rw [i3 i (by omega) h3, upd_ne (by omega)]
    · obtain ⟨T, K, i1, i2, i3⟩ := on_loop (N := N) (a := a) (b := b) hp hk (d := d) (l := l + 1) (u := u) (S := S) (by omega) (by omega) h14 h1
      refine ⟨T, K, ?_, ?_, ?_⟩
      · rw [on_miss hp (by omega) hk h14 (h1 l (by omega)) c]; exact i1
      · intro j hj
        exact i2 j (fun i h2 h3 => hj i (by omega) h3)
      · intro i h2 h3
        by_cases z : i = l
        · subst z
          rw [i2 _ (fun i h2 h3 => by omega), if_neg c]
        · exact i3 i (by omega) h3
theorem on_mid {p : Nx} {T : Nat → Int32} {k N w : Nat} {a b : Int32} {K : (Nat → Int32) → Int32 → Int32 → Int32 → Int32 → Option (Int32 × (Nat → Int32))} (hp : PI p) (hk : k + 1 < p 6 0) (h14 : T 14 = nI (p 7 0)) (h1 : T 1 = nI (p 6 0)) (hw : w ≤ 19) (hT : T (107 + 41 * (k + 1)) = nI w) : fX6_goesOn_41b N K T (nI k) a b (nI (p 7 0)) = some (nI 0, upd (upd (upd T (107 + 41 * (k + 1) + 1 + 2 * w) a) (107 + 41 * (k + 1) + 2 + 2 * w) b) (107 + 41 * (k + 1)) (nI (w + 1))) := by
  have hq := hp.q
  have hn := hp.n
  unfold fX6_goesOn_41b
  simp (disch := omega) only [↓nm_s, ↓bnd_s, ↓reduceIte, nI_add, pk_mul, nI_subdiv, nI_sub', nI_m1, nI_0m1, nI_clamp, gdi_nI, gdz_nI, nI_div, nrem, nI_ltI, nI_leI, nI_eq, leT, leF, ltT, ltF, eqT, eqF, neT, neF, z0, m1lt0, m1lt, m1le, nI_ne_neg, neg_ne_nI, embP_a, embL_a, embL_up, embL_up1, up2_ne, up2_at, up2_o, up1_ne, up1_at, bI_eq0, bI_eq1, or_true, true_or, and_true, true_and, or_false, false_or, and_false, false_and, not_true_eq_false, not_false_eq_true, if_true, if_false,  decide_true, decide_false, bI_t, bI_f, Nat.add_sub_cancel, Nat.zero_add, Nat.add_zero, Nat.mul_zero, upd_eq, upd_ne, h14, h1, hT]
theorem on_last {p : Nx} {T : Nat → Int32} {k N t v m : Nat} {a : Int32} {K : (Nat → Int32) → Int32 → Int32 → Int32 → Int32 → Option (Int32 × (Nat → Int32))} (hp : PI p) (hk : k + 1 = p 6 0) (h14 : T 14 = nI (p 7 0)) (h1 : T 1 = nI (p 6 0)) (h48 : T 48 = nI t) (ht : t < 2 ^ 30) (hv : v ≤ t) (h52 : T 52 = nI m - nI 1) (hm : m ≤ t + 1) : ∃ T', fX6_goesOn_41b N K T (nI k) a (nI v) (nI (p 7 0)) = some (nI 1, T') ∧ T' 49 = T 49 + nI 1 ∧ T' 51 = nI (t - v + 1) - nI 1 ∧ T' 52 = nI (max m (t - v + 1)) - nI 1 ∧ ∀ j, j ≠ 49 → j ≠ 51 → j ≠ 52 → T' j = T j := by
  have hq := hp.q
  have hn := hp.n
  have e1 : nI (t - v) = nI (t - v + 1) - nI 1 := by rw [nI_sub' (by omega)]; rfl
  by_cases c : t - v + 1 ≤ m
  · refine ⟨upd (upd T 49 (T 49 + nI 1)) 51 (nI (t - v)), ?_, ?_, ?_, ?_, ?_⟩
    · unfold fX6_goesOn_41b
      rw [nI_sub' (by omega)] at h52
      simp (disch := omega) only [↓nm_s, ↓bnd_s, ↓reduceIte, nI_add, pk_mul, nI_subdiv, nI_sub', nI_m1, nI_0m1, nI_clamp, gdi_nI, gdz_nI, nI_div, nrem, nI_ltI, nI_leI, nI_eq, leT, leF, ltT, ltF, eqT, eqF, neT, neF, z0, m1lt0, m1lt, m1le, nI_ne_neg, neg_ne_nI, embP_a, embL_a, embL_up, embL_up1, up2_ne, up2_at, up2_o, up1_ne, up1_at, bI_eq0, bI_eq1, or_true, true_or, and_true, true_and, or_false, false_or, and_false, false_and, not_true_eq_false, not_false_eq_true, if_true, if_false,  decide_true, decide_false, bI_t, bI_f, Nat.add_sub_cancel, Nat.zero_add, Nat.add_zero, Nat.mul_zero, upd_eq, upd_ne, h14, h1, h48, h52, fX6_goesOn_181]
    · simp (disch := omega) only [↓nm_s, ↓bnd_s, ↓reduceIte, nI_add, pk_mul, nI_subdiv, nI_sub', nI_m1, nI_0m1, nI_clamp, gdi_nI, gdz_nI, nI_div, nrem, nI_ltI, nI_leI, nI_eq, leT, leF, ltT, ltF, eqT, eqF, neT, neF, z0, m1lt0, m1lt, m1le, nI_ne_neg, neg_ne_nI, embP_a, embL_a, embL_up, embL_up1, up2_ne, up2_at, up2_o, up1_ne, up1_at, bI_eq0, bI_eq1, or_true, true_or, and_true, true_and, or_false, false_or, and_false, false_and, not_true_eq_false, not_false_eq_true, if_true, if_false,  decide_true, decide_false, bI_t, bI_f, Nat.add_sub_cancel, Nat.zero_add, Nat.add_zero, Nat.mul_zero, upd_eq, upd_ne]
    · rw [upd_eq rfl, e1]
    · rw [upd_ne (by omega), upd_ne (by omega), h52, Nat.max_eq_left c]
    · intro j h2 h3 h4
      rw [upd_ne h3, upd_ne h2]
  · refine ⟨upd (upd (upd T 49 (T 49 + nI 1)) 51 (nI (t - v))) 52 (nI (t - v)), ?_, ?_, ?_, ?_, ?_⟩
    · unfold fX6_goesOn_41b
      by_cases z : m = 0
      · rw [z, show nI 0 - nI 1 = -1 from by decide] at h52
        simp (disch := omega) only [↓nm_s, ↓bnd_s, ↓reduceIte, nI_add, pk_mul, nI_subdiv, nI_sub', nI_m1, nI_0m1, nI_clamp, gdi_nI, gdz_nI, nI_div, nrem, nI_ltI, nI_leI, nI_eq, leT, leF, ltT, ltF, eqT, eqF, neT, neF, z0, m1lt0, m1lt, m1le, nI_ne_neg, neg_ne_nI, embP_a, embL_a, embL_up, embL_up1, up2_ne, up2_at, up2_o, up1_ne, up1_at, bI_eq0, bI_eq1, or_true, true_or, and_true, true_and, or_false, false_or, and_false, false_and, not_true_eq_false, not_false_eq_true, if_true, if_false,  decide_true, decide_false, bI_t, bI_f, Nat.add_sub_cancel, Nat.zero_add, Nat.add_zero, Nat.mul_zero, upd_eq, upd_ne, h14, h1, h48, h52, fX6_goesOn_181]
      · rw [nI_sub' (by omega)] at h52
        simp (disch := omega) only [↓nm_s, ↓bnd_s, ↓reduceIte, nI_add, pk_mul, nI_subdiv, nI_sub', nI_m1, nI_0m1, nI_clamp, gdi_nI, gdz_nI, nI_div, nrem, nI_ltI, nI_leI, nI_eq, leT, leF, ltT, ltF, eqT, eqF, neT, neF, z0, m1lt0, m1lt, m1le, nI_ne_neg, neg_ne_nI, embP_a, embL_a, embL_up, embL_up1, up2_ne, up2_at, up2_o, up1_ne, up1_at, bI_eq0, bI_eq1, or_true, true_or, and_true, true_and, or_false, false_or, and_false, false_and, not_true_eq_false, not_false_eq_true, if_true, if_false,  decide_true, decide_false, bI_t, bI_f, Nat.add_sub_cancel, Nat.zero_add, Nat.add_zero, Nat.mul_zero, upd_eq, upd_ne, h14, h1, h48, h52, fX6_goesOn_181]
    · simp (disch := omega) only [↓nm_s, ↓bnd_s, ↓reduceIte, nI_add, pk_mul, nI_subdiv, nI_sub', nI_m1, nI_0m1, nI_clamp, gdi_nI, gdz_nI, nI_div, nrem, nI_ltI, nI_leI, nI_eq, leT, leF, ltT, ltF, eqT, eqF, neT, neF, z0, m1lt0, m1lt, m1le, nI_ne_neg, neg_ne_nI, embP_a, embL_a, embL_up, embL_up1, up2_ne, up2_at, up2_o, up1_ne, up1_at, bI_eq0, bI_eq1, or_true, true_or, and_true, true_and, or_false, false_or, and_false, false_and, not_true_eq_false, not_false_eq_true, if_true, if_false,  decide_true, decide_false, bI_t, bI_f, Nat.add_sub_cancel, Nat.zero_add, Nat.add_zero, Nat.mul_zero, upd_eq, upd_ne]
    · rw [upd_ne (by omega), upd_eq rfl, e1]
    · rw [upd_eq rfl, Nat.max_eq_right (by omega), e1]
    · intro j h2 h3 h4
      rw [upd_ne h4, upd_ne h3, upd_ne h2]
theorem sWait_20 {p x : Nx} (hp : PI p) (hx : LI p x) {k : Nat} (hk : k < p 6 0) : sWait x k ≤ 20 := by
  have hn := hp.n
  have hw := hx.way hp
  unfold sWait
  by_cases c : k = 0
  · rw [if_pos c]; omega
  · rw [if_neg c]
    have a := hx.mono' (j := k - 1) (k := 0) (by omega) (by omega)
    have b := hx.mono' (j := p 6 0 - 1) (k := k) (by omega) (by omega)
    have d := hx.k (k := k) hk
    have e := hx.k (k := k - 1) (by omega)
    have f := hx.k (k := 0) (by omega)
    omega
theorem sWait_19 {p x : Nx} (hp : PI p) (hx : LI p x) {k : Nat} (hk : k + 1 < p 6 0) (hb : x 1 k ≠ x 2 k) : sWait x (k + 1) ≤ 19 := by
  have hn := hp.n
  have hw := hx.way hp
  unfold sWait
  rw [if_neg (by omega), show k + 1 - 1 = k from rfl]
  have a := hx.mono' (j := k) (k := 0) (by omega) (by omega)
  have b := hx.mono' (j := p 6 0 - 1) (k := k + 1) (by omega) (by omega)
  have d := hx.k (k := k) (by omega)
  have e := hx.k (k := k + 1) (by omega)
  omega
theorem m_goes {p g x : Nx} {S : Nat → Int32} {k N : Nat} (hp : PI p) (hg : GI p g) (hx : LI p x) (hT : x 8 0 < 2 ^ 30) (hN : 6 < N) (hk : k < p 6 0) (hb : x 1 k ≠ x 2 k) (h : RelS p g x S) : ∃ T, fX6_goesOn N S (nI k) = some (nI (if k + 1 = p 6 0 then 1 else 0), T) ∧ RelS p g (sFin p x k) T ∧ sameSum S T := by
  have hq := hp.q
  have hn := hp.n
  obtain ⟨hst, hgl, hds⟩ := h
  have hd := hds k hk
  have hkk := hx.k hk
  have hi := m_its (S := S) (k := k) (c := 0) (by omega)
  have hi4 := m_its (S := S) (k := k) (c := 4) (by omega)
  have d1 := hd.1
  rw [if_neg hb] at d1
  have d3 := hd.2.2.1 hb
  have hwk := sWait_20 hp hx hk
  -- the row ahead of the loop
  generalize hS5 : upd (upd S (53 + 9 * k + 1) (nI (sKind p (x 7 0) (x 1 k - 1)))) (53 + 9 * k) (-1) = S5
  have f5 : ∀ j, j ≠ 53 + 9 * k + 1 → j ≠ 53 + 9 * k → S5 j = S j := fun j h1 h2 => by rw [← hS5, upd_ne h2, upd_ne h1]
  have f5a : S5 (53 + 9 * k + 1) = nI (sKind p (x 7 0) (x 1 k - 1)) := by rw [← hS5, upd_ne (by omega), upd_eq rfl]
  have f5b : S5 (53 + 9 * k) = -1 := by rw [← hS5, upd_eq rfl]
  obtain ⟨T, K, t1, t2, t3⟩ := on_loop (N := N) (a := nI (sKind p (x 7 0) (x 1 k - 1))) (b := nI (x 5 ((x 1 k - 1) % 20))) hp hk (d := p 7 0) (l := 0) (u := N) (S := S5) (by omega) (by omega) (by rw [f5 _ (by omega) (by omega)]; exact hst.1.2.2.1) (fun i hi => by rw [f5 _ (by omega) (by omega)]; exact (hst.2.2.1 i hi).2.1)
  have tS : ∀ j, (∀ i, i < p 7 0 → j ≠ 15 + 4 * i + 3) → j ≠ 53 + 9 * k + 1 → j ≠ 53 + 9 * k → T j = S j := fun j h1 h2 h3 => by rw [t2 j (fun i _ hi => h1 i hi), f5 j h2 h3]
  have run : fX6_goesOn N S (nI k) = fX6_goesOn_41b N K T (nI k) (nI (sKind p (x 7 0) (x 1 k - 1))) (nI (x 5 ((x 1 k - 1) % 20))) (nI (p 7 0)) := by
    rw [← t1]
    unfold fX6_goesOn
    rw [hi, hi4]
    simp (disch := omega) only [↓nm_s, ↓bnd_s, ↓reduceIte, nI_add, pk_mul, nI_subdiv, nI_sub', nI_m1, nI_0m1, nI_clamp, gdi_nI, gdz_nI, nI_div, nrem, nI_ltI, nI_leI, nI_eq, leT, leF, ltT, ltF, eqT, eqF, neT, neF, z0, m1lt0, m1lt, m1le, nI_ne_neg, neg_ne_nI, embP_a, embL_a, embL_up, embL_up1, up2_ne, up2_at, up2_o, up1_ne, up1_at, bI_eq0, bI_eq1, or_true, true_or, and_true, true_and, or_false, false_or, and_false, false_and, not_true_eq_false, not_false_eq_true, if_true, if_false,  decide_true, decide_false, bI_t, bI_f, Nat.add_sub_cancel, Nat.zero_add, Nat.add_zero, Nat.mul_zero, upd_eq, upd_ne, d1, d3.2.2, fX6_goesOn_41]
    rw [hS5]
  have h14 : T 14 = nI (p 7 0) := by rw [tS 14 (fun i _ => by omega) (by omega) (by omega)]; exact hst.1.2.2.1
  have h1 : T 1 = nI (p 6 0) := by rw [tS 1 (fun i _ => by omega) (by omega) (by omega)]; exact hst.1.2.1
  have fr : ∀ l, l < p 7 0 → T (15 + 4 * l + 3) = nI (sFree p (sFin p x k) l) := by
    intro l hl
    have hl1 := hx.l hl
    rw [t3 l (by omega) hl, f5 _ (by omega) (by omega), hgl.2 l hl]
    unfold sFree
    simp (disch := omega) only [sFin_o, sFin_2]
    by_cases c : p 3 l = k
    · rw [if_pos c, if_pos c, nI_add, c]
      rw [c] at hl1
      congr 1
      omega
    · rw [if_neg c, if_neg c]
  -- stations other than k and the next
  have far : ∀ T' : Nat → Int32, (∀ j, 53 ≤ j → (∀ c, c < 41 → j ≠ 107 + 41 * (k + 1) + c) → T' j = T j) → ∀ j, j < p 6 0 → j ≠ k → j ≠ k + 1 → Dst p (sFin p x k) T' j := by
    intro T' hT' j hj h2 h3
    refine Dst.mv (x := x) (S := S) (sWait_20 hp hx hj) (hds j hj) (sFin_o (by omega)) (by rw [sFin_2, if_neg h2]) (sFin_o (by omega)) (sFin_o (by omega)) ?_ (fun _ _ _ _ => sFin_o (by omega)) ?_ ?_ (hx.k hj).1
    · unfold sWait
      simp (disch := omega) only [sFin_o, sFin_2]
      by_cases c : j = 0
      · rw [if_pos c, if_pos c]
      · rw [if_neg c, if_neg c, if_neg (by omega)]
    · intro c hc
      rw [hT' _ (by omega) (fun c hc => by omega), tS _ (fun i _ => by omega) (by omega) (by omega)]
    · intro c hc
      rw [hT' _ (by omega) (fun c hc => by omega), tS _ (fun i _ => by omega) (by omega) (by omega)]
  have own : ∀ T' : Nat → Int32, (∀ j, 53 ≤ j → (∀ c, c < 41 → j ≠ 107 + 41 * (k + 1) + c) → T' j = T j) → Dst p (sFin p x k) T' k := by
    intro T' hT'
    have w : sWait (sFin p x k) k = sWait x k := by
      unfold sWait
      simp (disch := omega) only [sFin_o, sFin_2]
      by_cases c : k = 0
      · rw [if_pos c, if_pos c]
      · rw [if_neg c, if_neg c, if_neg (by omega)]
    unfold Dst
    rw [w]
    simp (disch := omega) only [sFin_o, sFin_2, if_true]
    rw [if_pos (show x 1 k = x 2 k + 1 from by omega), if_neg (show ¬ x 2 k + 1 = 0 from by omega)]
    refine ⟨?_, ?_, fun z => by omega, ?_, ?_⟩
    · rw [hT' _ (by omega) (fun c hc => by omega), t2 _ (fun i _ _ => by omega), f5b]
    · rw [hT' _ (by omega) (fun c hc => by omega), t2 _ (fun i _ _ => by omega), f5a]
      congr 2
      omega
    · rw [hT' _ (by omega) (fun c hc => by omega), tS _ (fun i _ => by omega) (by omega) (by omega)]
      exact hd.2.2.2.1
    · intro i hi
      rw [hT' _ (by omega) (fun c hc => by omega), tS _ (fun i _ => by omega) (by omega) (by omega), hT' _ (by omega) (fun c hc => by omega), tS _ (fun i _ => by omega) (by omega) (by omega)]
      exact hd.2.2.2.2 i hi
  have stat : ∀ T' : Nat → Int32, (∀ j, j < 48 → T' j = T j) → Stat p g (sFin p x k 4) (sFin p x k 7 0) T' := by
    intro T' hT'
    rw [sFin_o (by omega)]
    exact Stat.mv hp hg hst (fun l _ => sFin_o (by omega)) (fun j hj hl => by rw [hT' j hj, tS j hl (by omega) (by omega)])
  rw [run]
  by_cases c : k + 1 = p 6 0
  · rw [if_pos c]
    have h5 := hx.b (j := x 1 k - 1) (by rw [show p 6 0 - 1 = k from by omega]; omega) (by have := hx.mono' (j := k) (k := 0) (by omega) hk; omega)
    have h6 := hx.d
    have e1 : x 1 k - 1 = x 2 k := by omega
    obtain ⟨T', u1, u2, u3, u4, u5⟩ := on_last (T := T) (k := k) (N := N) (t := x 8 0) (v := x 5 ((x 1 k - 1) % 20)) (m := x 10 0) (a := nI (sKind p (x 7 0) (x 1 k - 1))) (K := K) hp c h14 h1 (by rw [tS 48 (fun i _ => by omega) (by omega) (by omega)]; exact hgl.1.1) hT h5 (by rw [tS 52 (fun i _ => by omega) (by omega) (by omega)]; exact hgl.1.2.2.2.2) (by omega)
    refine ⟨T', u1, ⟨stat T' (fun j hj => u5 j (by omega) (by omega) (by omega)), ⟨⟨?_, ?_, ?_, ?_, ?_⟩, ?_⟩, ?_⟩, ?_⟩
    · rw [sFin_o (by omega), u5 48 (by omega) (by omega) (by omega), tS 48 (fun i _ => by omega) (by omega) (by omega)]; exact hgl.1.1
    · rw [u2, tS 49 (fun i _ => by omega) (by omega) (by omega), hgl.1.2.1, sFin_2, if_pos (by omega), nI_add, show p 6 0 - 1 = k from by omega]
    · rw [sFin_o (by omega), u5 50 (by omega) (by omega) (by omega), tS 50 (fun i _ => by omega) (by omega) (by omega)]; exact hgl.1.2.2.1
    · rw [u3, sFin_9, if_pos c, e1]
    · rw [u4, sFin_10, if_pos c, e1]
    · intro l hl
      rw [u5 _ (by omega) (by omega) (by omega)]; exact fr l hl
    · intro j hj
      by_cases z : j = k
      · subst z; exact own T' (fun i h1 _ => u5 i (by omega) (by omega) (by omega))
      · exact far T' (fun i h1 _ => u5 i (by omega) (by omega) (by omega)) j hj z (by omega)
    · intro j s hj hs
      rw [u5 _ (by omega) (by omega) (by omega), tS _ (fun i _ => by omega) (by omega) (by omega)]
  · rw [if_neg c]
    have w19 := sWait_19 hp hx (k := k) (by omega) hb
    have hd2 := hds (k + 1) (by omega)
    have hw := hd2.2.2.2.1
    have hs := hx.s (k := k) (by omega)
    have r := on_mid (T := T) (k := k) (N := N) (w := sWait x (k + 1)) (a := nI (sKind p (x 7 0) (x 1 k - 1))) (b := nI (x 5 ((x 1 k - 1) % 20))) (K := K) hp (by omega) h14 h1 w19 (by rw [tS _ (fun i _ => by omega) (by omega) (by omega)]; exact hw)
    rw [r]
    generalize hT' : upd (upd (upd T (107 + 41 * (k + 1) + 1 + 2 * sWait x (k + 1)) (nI (sKind p (x 7 0) (x 1 k - 1)))) (107 + 41 * (k + 1) + 2 + 2 * sWait x (k + 1)) (nI (x 5 ((x 1 k - 1) % 20)))) (107 + 41 * (k + 1)) (nI (sWait x (k + 1) + 1)) = T'
    have u5 : ∀ j, (∀ c, c < 41 → j ≠ 107 + 41 * (k + 1) + c) → T' j = T j := by
      intro j hj
      have a0 := hj 0 (by omega)
      have a1 := hj (1 + 2 * sWait x (k + 1)) (by omega)
      have a2 := hj (2 + 2 * sWait x (k + 1)) (by omega)
      rw [← hT', upd_ne (by omega), upd_ne (by omega), upd_ne (by omega)]
    refine ⟨T', rfl, ⟨stat T' (fun j hj => u5 j (fun _ _ => by omega)), ⟨⟨?_, ?_, ?_, ?_, ?_⟩, ?_⟩, ?_⟩, ?_⟩
    · rw [sFin_o (by omega), u5 48 (fun _ _ => by omega), tS 48 (fun i _ => by omega) (by omega) (by omega)]; exact hgl.1.1
    · rw [u5 49 (fun _ _ => by omega), tS 49 (fun i _ => by omega) (by omega) (by omega), sFin_2, if_neg (by omega)]; exact hgl.1.2.1
    · rw [sFin_o (by omega), u5 50 (fun _ _ => by omega), tS 50 (fun i _ => by omega) (by omega) (by omega)]; exact hgl.1.2.2.1
    · rw [sFin_9, if_neg c, u5 51 (fun _ _ => by omega), tS 51 (fun i _ => by omega) (by omega) (by omega)]; exact hgl.1.2.2.2.1
    · rw [sFin_10, if_neg c, u5 52 (fun _ _ => by omega), tS 52 (fun i _ => by omega) (by omega) (by omega)]; exact hgl.1.2.2.2.2
    · intro l hl
      rw [u5 _ (fun _ _ => by omega)]; exact fr l hl
    · intro j hj
      by_cases z : j = k
      · subst z; exact own T' (fun i _ h2 => u5 i h2)
      · by_cases y : j = k + 1
        · subst y
          have w : sWait (sFin p x k) (k + 1) = sWait x (k + 1) + 1 := by
            unfold sWait
            rw [if_neg (by omega), if_neg (by omega)]
            simp (disch := omega) only [sFin_o, sFin_2, show k + 1 - 1 = k from rfl, if_true]
            omega
          have wv : x 1 (k + 1) + sWait x (k + 1) = x 1 k - 1 := by
            unfold sWait
            rw [if_neg (by omega), show k + 1 - 1 = k from rfl]
            omega
          unfold Dst
          rw [w]
          simp (disch := omega) only [sFin_o, sFin_2]
          rw [if_neg z]
          refine ⟨?_, ?_, ?_, ?_, ?_⟩
          · rw [u5 _ (fun _ _ => by omega), tS _ (fun i _ => by omega) (by omega) (by omega)]; exact hd2.1
          · rw [u5 _ (fun _ _ => by omega), tS _ (fun i _ => by omega) (by omega) (by omega)]; exact hd2.2.1
          · intro q
            rw [u5 _ (fun _ _ => by omega), tS _ (fun i _ => by omega) (by omega) (by omega), u5 _ (fun _ _ => by omega), tS _ (fun i _ => by omega) (by omega) (by omega), u5 _ (fun _ _ => by omega), tS _ (fun i _ => by omega) (by omega) (by omega)]
            exact hd2.2.2.1 q
          · rw [← hT', upd_eq rfl]
          · intro i hi
            by_cases e : i = sWait x (k + 1)
            · rw [e, wv, ← hT', upd_ne (by omega), upd_ne (by omega), upd_eq rfl, upd_ne (by omega), upd_eq rfl]
              exact ⟨rfl, rfl⟩
            · rw [← hT', upd_ne (by omega), upd_ne (by omega), upd_ne (by omega), upd_ne (by omega), upd_ne (by omega), upd_ne (by omega), tS _ (fun i _ => by omega) (by omega) (by omega), tS _ (fun i _ => by omega) (by omega) (by omega)]
              exact hd2.2.2.2.2 i (by omega)
        · exact far T' (fun i _ h2 => u5 i h2) j hj z y
    · intro j s hj hs
      rw [u5 _ (fun _ _ => by omega), tS _ (fun i _ => by omega) (by omega) (by omega)]
end
section
/-! the model: an idle one begins -/
theorem m_hasC2 {p x : Nx} {S : Nat → Int32} {k N : Nat} (hp : PI p) (hx : LI p x) (hT : x 8 0 < 2 ^ 30) (hk : k < p 6 0) (h14 : S 14 = nI (p 7 0)) (h0 : ∀ l, l < p 7 0 → S (15 + 4 * l) = nI (p 2 l)) (h3 : ∀ l, l < p 7 0 → S (15 + 4 * l + 3) = nI (sFree p x l)) : ∀ {d l u : Nat}, d < u → l + d = p 7 0 → itn (fX6_hasCards_2b N) (fun _ _ _ => none) u S (nI k) (nI l) = some (bI (hasC p x k l d))
  | _, _, 0, h, _ => by omega
  | 0, l, u + 1, _, e => by
    have hq := hp.q
    rw [itn_s]
    unfold fX6_hasCards_2b hasC
    simp (disch := omega) only [↓nm_s, ↓bnd_s, ↓reduceIte, nI_add, pk_mul, nI_subdiv, nI_sub', nI_m1, nI_0m1, nI_clamp, gdi_nI, gdz_nI, nI_div, nrem, nI_ltI, nI_leI, nI_eq, leT, leF, ltT, ltF, eqT, eqF, neT, neF, z0, m1lt0, m1lt, m1le, nI_ne_neg, neg_ne_nI, embP_a, embL_a, embL_up, embL_up1, up2_ne, up2_at, up2_o, up1_ne, up1_at, bI_eq0, bI_eq1, or_true, true_or, and_true, true_and, or_false, false_or, and_false, false_and, not_true_eq_false, not_false_eq_true, if_true, if_false,  decide_true, decide_false, bI_t, bI_f, Nat.add_sub_cancel, Nat.zero_add, Nat.add_zero, Nat.mul_zero, upd_eq, upd_ne, h14]
  | d + 1, l, u + 1, hu, e => by
    have hq := hp.q
    have hn := hp.n
    have hl := hp.l (l := l) (by omega)
    have hl2 := hx.l (l := l) (by omega)
    have h6 := hx.k (k := p 3 l) (by omega)
    have a := h0 l (by omega)
    have b := h3 l (by omega)
    have fb : sFree p x l < 2 ^ 31 := by unfold sFree; omega
    have i := m_hasC2 (N := N) hp hx hT hk h14 h0 h3 (d := d) (l := l + 1) (u := u) (by omega) (by omega)
    rw [itn_s]
    generalize itn (fX6_hasCards_2b N) (fun _ _ _ => none) u = K at i ⊢
    unfold fX6_hasCards_2b hasC
    by_cases c : p 2 l = k
    · by_cases z : sFree p x l = 0
      · simp (disch := omega) only [↓nm_s, ↓bnd_s, ↓reduceIte, nI_add, pk_mul, nI_subdiv, nI_sub', nI_m1, nI_0m1, nI_clamp, gdi_nI, gdz_nI, nI_div, nrem, nI_ltI, nI_leI, nI_eq, leT, leF, ltT, ltF, eqT, eqF, neT, neF, z0, m1lt0, m1lt, m1le, nI_ne_neg, neg_ne_nI, embP_a, embL_a, embL_up, embL_up1, up2_ne, up2_at, up2_o, up1_ne, up1_at, bI_eq0, bI_eq1, or_true, true_or, and_true, true_and, or_false, false_or, and_false, false_and, not_true_eq_false, not_false_eq_true, if_true, if_false,  decide_true, decide_false, bI_t, bI_f, Nat.add_sub_cancel, Nat.zero_add, Nat.add_zero, Nat.mul_zero, upd_eq, upd_ne, h14, a, b]
      · simp (disch := omega) only [↓nm_s, ↓bnd_s, ↓reduceIte, nI_add, pk_mul, nI_subdiv, nI_sub', nI_m1, nI_0m1, nI_clamp, gdi_nI, gdz_nI, nI_div, nrem, nI_ltI, nI_leI, nI_eq, leT, leF, ltT, ltF, eqT, eqF, neT, neF, z0, m1lt0, m1lt, m1le, nI_ne_neg, neg_ne_nI, embP_a, embL_a, embL_up, embL_up1, up2_ne, up2_at, up2_o, up1_ne, up1_at, bI_eq0, bI_eq1, or_true, true_or, and_true, true_and, or_false, false_or, and_false, false_and, not_true_eq_false, not_false_eq_true, if_true, if_false,  decide_true, decide_false, bI_t, bI_f, Nat.add_sub_cancel, Nat.zero_add, Nat.add_zero, Nat.mul_zero, upd_eq, upd_ne, h14, a, b, fX6_hasCards_37, i]
    · simp (disch := omega) only [↓nm_s, ↓bnd_s, ↓reduceIte, nI_add, pk_mul, nI_subdiv, nI_sub', nI_m1, nI_0m1, nI_clamp, gdi_nI, gdz_nI, nI_div, nrem, nI_ltI, nI_leI, nI_eq, leT, leF, ltT, ltF, eqT, eqF, neT, neF, z0, m1lt0, m1lt, m1le, nI_ne_neg, neg_ne_nI, embP_a, embL_a, embL_up, embL_up1, up2_ne, up2_at, up2_o, up1_ne, up1_at, bI_eq0, bI_eq1, or_true, true_or, and_true, true_and, or_false, false_or, and_false, false_and, not_true_eq_false, not_false_eq_true, if_true, if_false,  decide_true, decide_false, bI_t, bI_f, Nat.add_sub_cancel, Nat.zero_add, Nat.add_zero, Nat.mul_zero, upd_eq, upd_ne, h14, a, b, fX6_hasCards_37, i]
theorem m_hasC {p g x : Nx} {S : Nat → Int32} {k N : Nat} (hp : PI p) (hx : LI p x) (hT : x 8 0 < 2 ^ 30) (hN : 6 < N) (hk : k < p 6 0) (h : RelS p g x S) : fX6_hasCards N S (nI k) = some (bI (hasC p x k 0 (p 7 0))) := by
  have hq := hp.q
  have i := m_hasC2 (N := N) hp hx hT hk h.1.1.2.2.1 (fun l hl => (h.1.2.2.1 l hl).1) h.2.1.2 (d := p 7 0) (l := 0) (u := N) (by omega) (by omega)
  unfold fX6_hasCards
  simp (disch := omega) only [↓nm_s, ↓bnd_s, ↓reduceIte, nI_add, pk_mul, nI_subdiv, nI_sub', nI_m1, nI_0m1, nI_clamp, gdi_nI, gdz_nI, nI_div, nrem, nI_ltI, nI_leI, nI_eq, leT, leF, ltT, ltF, eqT, eqF, neT, neF, z0, m1lt0, m1lt, m1le, nI_ne_neg, neg_ne_nI, embP_a, embL_a, embL_up, embL_up1, up2_ne, up2_at, up2_o, up1_ne, up1_at, bI_eq0, bI_eq1, or_true, true_or, and_true, true_and, or_false, false_or, and_false, false_and, not_true_eq_false, not_false_eq_true, if_true, if_false,  decide_true, decide_false, bI_t, bI_f, Nat.add_sub_cancel, Nat.zero_add, Nat.add_zero, Nat.mul_zero, upd_eq, upd_ne, fX6_hasCards_2, i]
theorem tr_hit {p : Nx} {S : Nat → Int32} {k l N : Nat} {a b : Int32} {K : (Nat → Int32) → Int32 → Int32 → Int32 → Int32 → Option (Nat → Int32)} (hp : PI p) (hl : l < p 7 0) (hk : k < p 6 0) (h14 : S 14 = nI (p 7 0)) (h1 : S (15 + 4 * l) = nI (p 2 l)) (c : p 2 l = k) : fX6_tries_158b N K S (nI k) a b (nI l) = K (upd S (15 + 4 * l + 3) (S (15 + 4 * l + 3) - nI 1)) (nI k) a b (nI (l + 1)) := by
  have hq := hp.q
  have hn := hp.n
  unfold fX6_tries_158b
  simp (disch := omega) only [↓nm_s, ↓bnd_s, ↓reduceIte, nI_add, pk_mul, nI_subdiv, nI_sub', nI_m1, nI_0m1, nI_clamp, gdi_nI, gdz_nI, nI_div, nrem, nI_ltI, nI_leI, nI_eq, leT, leF, ltT, ltF, eqT, eqF, neT, neF, z0, m1lt0, m1lt, m1le, nI_ne_neg, neg_ne_nI, embP_a, embL_a, embL_up, embL_up1, up2_ne, up2_at, up2_o, up1_ne, up1_at, bI_eq0, bI_eq1, or_true, true_or, and_true, true_and, or_false, false_or, and_false, false_and, not_true_eq_false, not_false_eq_true, if_true, if_false,  decide_true, decide_false, bI_t, bI_f, Nat.add_sub_cancel, Nat.zero_add, Nat.add_zero, Nat.mul_zero, upd_eq, upd_ne, h14, h1, fX6_tries_195]
theorem tr_miss {p : Nx} {S : Nat → Int32} {k l N : Nat} {a b : Int32} {K : (Nat → Int32) → Int32 → Int32 → Int32 → Int32 → Option (Nat → Int32)} (hp : PI p) (hl : l < p 7 0) (hk : k < p 6 0) (h14 : S 14 = nI (p 7 0)) (h1 : S (15 + 4 * l) = nI (p 2 l)) (c : p 2 l ≠ k) : fX6_tries_158b N K S (nI k) a b (nI l) = K S (nI k) a b (nI (l + 1)) := by
  have hq := hp.q
  have hn := hp.n
  have hx := hp.l hl
  unfold fX6_tries_158b
  simp (disch := omega) only [↓nm_s, ↓bnd_s, ↓reduceIte, nI_add, pk_mul, nI_subdiv, nI_sub', nI_m1, nI_0m1, nI_clamp, gdi_nI, gdz_nI, nI_div, nrem, nI_ltI, nI_leI, nI_eq, leT, leF, ltT, ltF, eqT, eqF, neT, neF, z0, m1lt0, m1lt, m1le, nI_ne_neg, neg_ne_nI, embP_a, embL_a, embL_up, embL_up1, up2_ne, up2_at, up2_o, up1_ne, up1_at, bI_eq0, bI_eq1, or_true, true_or, and_true, true_and, or_false, false_or, and_false, false_and, not_true_eq_false, not_false_eq_true, if_true, if_false,  decide_true, decide_false, bI_t, bI_f, Nat.add_sub_cancel, Nat.zero_add, Nat.add_zero, Nat.mul_zero, upd_eq, upd_ne, h14, h1, fX6_tries_195]
theorem tr_loop {p : Nx} {k N : Nat} {a b : Int32} (hp : PI p) (hk : k < p 6 0) : ∀ {d l u : Nat} {S : Nat → Int32}, d < u → l + d = p 7 0 → S 14 = nI (p 7 0) → (∀ i, i < p 7 0 → S (15 + 4 * i) = nI (p 2 i)) → ∃ T K, itn (fX6_tries_158b N) (fun _ _ _ _ _ => none) u S (nI k) a b (nI l) = fX6_tries_158b N K T (nI k) a b (nI (p 7 0)) ∧ (∀ j, (∀ i, l ≤ i → i < p 7 0 → j ≠ 15 + 4 * i + 3) → T j = S j) ∧ ∀ i, l ≤ i → i < p 7 0 → T (15 + 4 * i + 3) = if p 2 i = k then S (15 + 4 * i + 3) - nI 1 else S (15 + 4 * i + 3)
  | _, _, 0, _, h, _, _, _ => by omega
  | 0, l, u + 1, S, _, e, h14, h1 => by
    refine ⟨S, itn (fX6_tries_158b N) (fun _ _ _ _ _ => none) u, ?_, fun _ _ => rfl, fun i h1 h2 => by omega⟩
    rw [itn_s, show l = p 7 0 from by omega]
  | d + 1, l, u + 1, S, hu, e, h14, h1 => by
    have hq := hp.q
    rw [itn_s]
    by_cases c : p 2 l = k
    · obtain ⟨T, K, i1, i2, i3⟩ := tr_loop (N := N) (a := a) (b := b) hp hk (d := d) (l := l + 1) (u := u) (S := upd S (15 + 4 * l + 3) (S (15 + 4 * l + 3) - nI 1)) (by omega) (by omega) (by rw [upd_ne (by omega)]; exact h14) (fun i hi => by rw [upd_ne (by omega)]; exact h1 i hi)
      refine ⟨T, K, ?_, ?_, ?_⟩
      · rw [tr_hit hp (by omega) hk h14 (h1 l (by omega)) c]; exact i1
      · intro j hj
        rw [i2 j (fun i h2 h3 => hj i (by omega) h3), upd_ne (hj l (by omega) (by omega))]
      · intro i h2 h3
        by_cases z : i = l
        · subst z
          rw [i2 _ (fun i h2 h3 => by omega), upd_eq rfl, if_pos c]
        · rw [i3 i (by omega) h3, upd_ne (by omega)]
    · obtain ⟨T, K, i1, i2, i3⟩ := tr_loop (N := N) (a := a) (b := b) hp hk (d := d) (l := l + 1) (u := u) (S := S) (by omega) (by omega) h14 h1
      refine ⟨T, K, ?_, ?_, ?_⟩
      · rw [tr_miss hp (by omega) hk h14 (h1 l (by omega)) c]; exact i1
      · intro j hj
        exact i2 j (fun i h2 h3 => hj i (by omega) h3)
      · intro i h2 h3
        by_cases z : i = l
        · subst z
          rw [i2 _ (fun i h2 h3 => by omega), if_neg c]
        · exact i3 i (by omega) h3
theorem tr_exit {p : Nx} {T : Nat → Int32} {k N t v bf kd : Nat} {b : Int32} {K : (Nat → Int32) → Int32 → Int32 → Int32 → Int32 → Option (Nat → Int32)} (hp : PI p) (hk : k < p 6 0) (h14 : T 14 = nI (p 7 0)) (h48 : T 48 = nI t) (hkd : kd < 2 ^ 31) (hbf : bf < 2 ^ 31) (hB : T (53 + 9 * k + 1) = if v = 0 then -1 else nI bf) (h2 : T (2 + k) = nI (p 0 k)) (h8 : T (8 + k) = nI (p 1 k)) : fX6_tries_158b N K T (nI k) (nI kd) b (nI (p 7 0)) = some (upd (upd (upd (upd T (53 + 9 * k) (nI kd)) (53 + 9 * k + 2) (nI (t + (if v = 0 then 0 else if bf = kd then 0 else p 1 k)))) (53 + 9 * k + 3) (nI (t + (if v = 0 then 0 else if bf = kd then 0 else p 1 k) + p 0 k))) (53 + 9 * k + 4) b) := by
  have hq := hp.q
  have hn := hp.n
  have e1 := m_its (S := T) (k := k) (c := 1) (by omega)
  unfold fX6_tries_158b
  by_cases c : v = 0
  · rw [if_pos c] at hB ⊢
    simp (disch := omega) only [↓nm_s, ↓bnd_s, ↓reduceIte, nI_add, pk_mul, nI_subdiv, nI_sub', nI_m1, nI_0m1, nI_clamp, gdi_nI, gdz_nI, nI_div, nrem, nI_ltI, nI_leI, nI_eq, leT, leF, ltT, ltF, eqT, eqF, neT, neF, z0, m1lt0, m1lt, m1le, nI_ne_neg, neg_ne_nI, embP_a, embL_a, embL_up, embL_up1, up2_ne, up2_at, up2_o, up1_ne, up1_at, bI_eq0, bI_eq1, or_true, true_or, and_true, true_and, or_false, false_or, and_false, false_and, not_true_eq_false, not_false_eq_true, if_true, if_false,  decide_true, decide_false, bI_t, bI_f, Nat.add_sub_cancel, Nat.zero_add, Nat.add_zero, Nat.mul_zero, upd_eq, upd_ne, h14, e1, hB, h48, fX6_tries_256, fX6_tries_257, m_its, h2]
  · rw [if_neg c] at hB ⊢
    by_cases d : bf = kd
    · rw [if_pos d]
      simp (disch := omega) only [↓nm_s, ↓bnd_s, ↓reduceIte, nI_add, pk_mul, nI_subdiv, nI_sub', nI_m1, nI_0m1, nI_clamp, gdi_nI, gdz_nI, nI_div, nrem, nI_ltI, nI_leI, nI_eq, leT, leF, ltT, ltF, eqT, eqF, neT, neF, z0, m1lt0, m1lt, m1le, nI_ne_neg, neg_ne_nI, embP_a, embL_a, embL_up, embL_up1, up2_ne, up2_at, up2_o, up1_ne, up1_at, bI_eq0, bI_eq1, or_true, true_or, and_true, true_and, or_false, false_or, and_false, false_and, not_true_eq_false, not_false_eq_true, if_true, if_false,  decide_true, decide_false, bI_t, bI_f, Nat.add_sub_cancel, Nat.zero_add, Nat.add_zero, Nat.mul_zero, upd_eq, upd_ne, h14, e1, hB, h48, fX6_tries_256, fX6_tries_257, m_its, h2]
    · rw [if_neg d]
      simp (disch := omega) only [↓nm_s, ↓bnd_s, ↓reduceIte, nI_add, pk_mul, nI_subdiv, nI_sub', nI_m1, nI_0m1, nI_clamp, gdi_nI, gdz_nI, nI_div, nrem, nI_ltI, nI_leI, nI_eq, leT, leF, ltT, ltF, eqT, eqF, neT, neF, z0, m1lt0, m1lt, m1le, nI_ne_neg, neg_ne_nI, embP_a, embL_a, embL_up, embL_up1, up2_ne, up2_at, up2_o, up1_ne, up1_at, bI_eq0, bI_eq1, or_true, true_or, and_true, true_and, or_false, false_or, and_false, false_and, not_true_eq_false, not_false_eq_true, if_true, if_false,  decide_true, decide_false, bI_t, bI_f, Nat.add_sub_cancel, Nat.zero_add, Nat.add_zero, Nat.mul_zero, upd_eq, upd_ne, h14, e1, hB, h48, fX6_tries_256, fX6_tries_257, m_its, h2, h8]
/-- the queue moves up -/
theorem sh_step {S : Nat → Int32} {v i w N : Nat} {k a b : Int32} {K : (Nat → Int32) → Int32 → Int32 → Int32 → Int32 → Int32 → Option (Nat → Int32)} (hv : v + 42 ≤ 354) (hw : w ≤ 19) (hi : i < 2 * w) (hS : S v = nI w) : fX6_tries_92b N K S k a b (nI v) (nI i) = K (upd S (v + 1 + i) (S (v + 3 + i))) k a b (nI v) (nI (i + 1)) := by
  unfold fX6_tries_92b
  simp (disch := omega) only [↓nm_s, ↓bnd_s, ↓reduceIte, nI_add, pk_mul, nI_subdiv, nI_sub', nI_m1, nI_0m1, nI_clamp, gdi_nI, gdz_nI, nI_div, nrem, nI_ltI, nI_leI, nI_eq, leT, leF, ltT, ltF, eqT, eqF, neT, neF, z0, m1lt0, m1lt, m1le, nI_ne_neg, neg_ne_nI, embP_a, embL_a, embL_up, embL_up1, up2_ne, up2_at, up2_o, up1_ne, up1_at, bI_eq0, bI_eq1, or_true, true_or, and_true, true_and, or_false, false_or, and_false, false_and, not_true_eq_false, not_false_eq_true, if_true, if_false,  decide_true, decide_false, bI_t, bI_f, Nat.add_sub_cancel, Nat.zero_add, Nat.add_zero, Nat.mul_zero, upd_eq, upd_ne, hS]
theorem sh_exit {S : Nat → Int32} {v w N : Nat} {k a b : Int32} {K : (Nat → Int32) → Int32 → Int32 → Int32 → Int32 → Int32 → Option (Nat → Int32)} (hv : v + 42 ≤ 354) (hw : w ≤ 19) (hS : S v = nI w) : fX6_tries_92b N K S k a b (nI v) (nI (2 * w)) = fX6_tries_155 N (upd (upd S (v + 1 + 2 * w) (nI 0)) (v + 2 + 2 * w) (nI 0)) k a b := by
  unfold fX6_tries_92b
  simp (disch := omega) only [↓nm_s, ↓bnd_s, ↓reduceIte, nI_add, pk_mul, nI_subdiv, nI_sub', nI_m1, nI_0m1, nI_clamp, gdi_nI, gdz_nI, nI_div, nrem, nI_ltI, nI_leI, nI_eq, leT, leF, ltT, ltF, eqT, eqF, neT, neF, z0, m1lt0, m1lt, m1le, nI_ne_neg, neg_ne_nI, embP_a, embL_a, embL_up, embL_up1, up2_ne, up2_at, up2_o, up1_ne, up1_at, bI_eq0, bI_eq1, or_true, true_or, and_true, true_and, or_false, false_or, and_false, false_and, not_true_eq_false, not_false_eq_true, if_true, if_false,  decide_true, decide_false, bI_t, bI_f, Nat.add_sub_cancel, Nat.zero_add, Nat.add_zero, Nat.mul_zero, upd_eq, upd_ne, hS]
theorem sh_loop {v w N : Nat} {k a b : Int32} (hv : v + 42 ≤ 354) (hw : w ≤ 19) : ∀ {d i u : Nat} {S : Nat → Int32}, d < u → i + d = 2 * w → S v = nI w → ∃ T, itn (fX6_tries_92b N) (fun _ _ _ _ _ _ => none) u S k a b (nI v) (nI i) = fX6_tries_155 N T k a b ∧ (∀ j, i ≤ j → j < 2 * w → T (v + 1 + j) = S (v + 3 + j)) ∧ ∀ m, m < v + 1 + i ∨ v + 2 + 2 * w < m → T m = S m
  | _, _, 0, _, h, _, _ => by omega
  | 0, i, u + 1, S, _, e, hS => by
    refine ⟨upd (upd S (v + 1 + 2 * w) (nI 0)) (v + 2 + 2 * w) (nI 0), ?_, fun j h1 h2 => by omega, fun m hm => ?_⟩
    · rw [itn_s, show i = 2 * w from by omega, sh_exit hv hw hS]
    · rw [upd_ne (by omega), upd_ne (by omega)]
  | d + 1, i, u + 1, S, hu, e, hS => by
    obtain ⟨T, i1, i2, i3⟩ := sh_loop (N := N) (k := k) (a := a) (b := b) hv hw (d := d) (i := i + 1) (u := u) (S := upd S (v + 1 + i) (S (v + 3 + i))) (by omega) (by omega) (by rw [upd_ne (by omega)]; exact hS)
    refine ⟨T, ?_, ?_, ?_⟩
    · rw [itn_s, sh_step hv hw (by omega) hS]; exact i1
    · intro j h1 h2
      by_cases c : j = i
      · subst c
        rw [i3 _ (by omega), upd_eq rfl]
      · rw [i2 j (by omega) h2, upd_ne (by omega)]
    · intro m hm
      rw [i3 m (by omega), upd_ne (by omega)]
/-- what begins: all but queues and counts -/
theorem tr_155 {p g x : Nx} {S : Nat → Int32} {k N : Nat} {b : Int32} (hp : PI p) (hg : GI p g) (hx : LI p x) (hT : x 8 0 < 2 ^ 30) (hN : 6 < N) (hk : k < p 6 0) (hi : x 1 k = x 2 k) (hc : canB p x k = true) (hst : Stat p g (x 4) (x 7 0) S) (h48 : S 48 = nI (x 8 0)) (hfr : ∀ l, l < p 7 0 → S (15 + 4 * l + 3) = nI (sFree p x l)) (hB : S (53 + 9 * k + 1) = if x 2 k = 0 then -1 else nI (sKind p (x 7 0) (x 2 k - 1))) : ∃ T, fX6_tries_155 N S (nI k) (nI (sKind p (x 7 0) (x 1 k))) b = some T ∧ (∀ l, l < p 7 0 → T (15 + 4 * l + 3) = nI (sFree p (sBeg p x k) l)) ∧ T (53 + 9 * k) = nI (sKind p (x 7 0) (x 1 k)) ∧ T (53 + 9 * k + 2) = nI (x 8 0 + sSet p x k) ∧ T (53 + 9 * k + 3) = nI (x 8 0 + sSet p x k + p 0 k) ∧ T (53 + 9 * k + 4) = b ∧ ∀ j, (∀ l, l < p 7 0 → j ≠ 15 + 4 * l + 3) → j ≠ 53 + 9 * k → j ≠ 53 + 9 * k + 2 → j ≠ 53 + 9 * k + 3 → j ≠ 53 + 9 * k + 4 → T j = S j := by
  have hq := hp.q
  have hn := hp.n
  obtain ⟨T, K, t1, t2, t3⟩ := tr_loop (N := N) (a := nI (sKind p (x 7 0) (x 1 k))) (b := b) hp hk (d := p 7 0) (l := 0) (u := N) (S := S) (by omega) (by omega) hst.1.2.2.1 (fun i hi => (hst.2.2.1 i hi).1)
  have tS : ∀ j, (∀ i, i < p 7 0 → j ≠ 15 + 4 * i + 3) → T j = S j := fun j h1 => t2 j (fun i _ hi => h1 i hi)
  have r := tr_exit (T := T) (k := k) (N := N) (t := x 8 0) (v := x 2 k) (bf := sKind p (x 7 0) (x 2 k - 1)) (kd := sKind p (x 7 0) (x 1 k)) (b := b) (K := K) hp hk (by rw [tS _ (fun i _ => by omega)]; exact hst.1.2.2.1) (by rw [tS _ (fun i _ => by omega)]; exact h48) (sKind_lt hp _ _) (sKind_lt hp _ _) (by rw [tS _ (fun i _ => by omega)]; exact hB) (by rw [tS _ (fun i _ => by omega)]; exact (hst.2.1 k hk).1) (by rw [tS _ (fun i _ => by omega)]; exact (hst.2.1 k hk).2)
  have es : sSet p x k = if x 2 k = 0 then 0 else if sKind p (x 7 0) (x 2 k - 1) = sKind p (x 7 0) (x 1 k) then 0 else p 1 k := by
    unfold sSet
    rw [hi]
  rw [← es] at r
  have r2 := (show fX6_tries_155 N S (nI k) (nI (sKind p (x 7 0) (x 1 k))) b = fX6_tries_158b N K T (nI k) (nI (sKind p (x 7 0) (x 1 k))) b (nI (p 7 0)) from by
    unfold fX6_tries_155 fX6_tries_158
    rw [nm_s]
    exact t1).trans r
  refine ⟨_, r2, ?_, ?_, ?_, ?_, ?_, ?_⟩
  · intro l hl
    rw [upd_ne (by omega), upd_ne (by omega), upd_ne (by omega), upd_ne (by omega), t3 l (by omega) hl, hfr l hl]
    by_cases c : p 2 l = k
    · have h1 := canB_l hc hl c
      have e : sFree p (sBeg p x k) l = sFree p x l - 1 := by
        unfold sFree
        simp (disch := omega) only [sBeg_o, sBeg_1, c, if_true]
        omega
      rw [if_pos c, e, nI_sub']
      unfold sFree
      omega
    · have e : sFree p (sBeg p x k) l = sFree p x l := by
        unfold sFree
        simp (disch := omega) only [sBeg_o, sBeg_1]
        rw [if_neg c]
      rw [if_neg c, e]
  · simp (disch := omega) only [↓nm_s, ↓bnd_s, ↓reduceIte, nI_add, pk_mul, nI_subdiv, nI_sub', nI_m1, nI_0m1, nI_clamp, gdi_nI, gdz_nI, nI_div, nrem, nI_ltI, nI_leI, nI_eq, leT, leF, ltT, ltF, eqT, eqF, neT, neF, z0, m1lt0, m1lt, m1le, nI_ne_neg, neg_ne_nI, embP_a, embL_a, embL_up, embL_up1, up2_ne, up2_at, up2_o, up1_ne, up1_at, bI_eq0, bI_eq1, or_true, true_or, and_true, true_and, or_false, false_or, and_false, false_and, not_true_eq_false, not_false_eq_true, if_true, if_false,  decide_true, decide_false, bI_t, bI_f, Nat.add_sub_cancel, Nat.zero_add, Nat.add_zero, Nat.mul_zero, upd_eq, upd_ne]
  · simp (disch := omega) only [↓nm_s, ↓bnd_s, ↓reduceIte, nI_add, pk_mul, nI_subdiv, nI_sub', nI_m1, nI_0m1, nI_clamp, gdi_nI, gdz_nI, nI_div, nrem, nI_ltI, nI_leI, nI_eq, leT, leF, ltT, ltF, eqT, eqF, neT, neF, z0, m1lt0, m1lt, m1le, nI_ne_neg, neg_ne_nI, embP_a, embL_a, embL_up, embL_up1, up2_ne, up2_at, up2_o, up1_ne, up1_at, bI_eq0, bI_eq1, or_true, true_or, and_true, true_and, or_false, false_or, and_false, false_and, not_true_eq_false, not_false_eq_true, if_true, if_false,  decide_true, decide_false, bI_t, bI_f, Nat.add_sub_cancel, Nat.zero_add, Nat.add_zero, Nat.mul_zero, upd_eq, upd_ne]
  · simp (disch := omega) only [↓nm_s, ↓bnd_s, ↓reduceIte, nI_add, pk_mul, nI_subdiv, nI_sub', nI_m1, nI_0m1, nI_clamp, gdi_nI, gdz_nI, nI_div, nrem, nI_ltI, nI_leI, nI_eq, leT, leF, ltT, ltF, eqT, eqF, neT, neF, z0, m1lt0, m1lt, m1le, nI_ne_neg, neg_ne_nI, embP_a, embL_a, embL_up, embL_up1, up2_ne, up2_at, up2_o, up1_ne, up1_at, bI_eq0, bI_eq1, or_true, true_or, and_true, true_and, or_false, false_or, and_false, false_and, not_true_eq_false, not_false_eq_true, if_true, if_false,  decide_true, decide_false, bI_t, bI_f, Nat.add_sub_cancel, Nat.zero_add, Nat.add_zero, Nat.mul_zero, upd_eq, upd_ne]
  · simp (disch := omega) only [↓nm_s, ↓bnd_s, ↓reduceIte, nI_add, pk_mul, nI_subdiv, nI_sub', nI_m1, nI_0m1, nI_clamp, gdi_nI, gdz_nI, nI_div, nrem, nI_ltI, nI_leI, nI_eq, leT, leF, ltT, ltF, eqT, eqF, neT, neF, z0, m1lt0, m1lt, m1le, nI_ne_neg, neg_ne_nI, embP_a, embL_a, embL_up, embL_up1, up2_ne, up2_at, up2_o, up1_ne, up1_at, bI_eq0, bI_eq1, or_true, true_or, and_true, true_and, or_false, false_or, and_false, false_and, not_true_eq_false, not_false_eq_true, if_true, if_false,  decide_true, decide_false, bI_t, bI_f, Nat.add_sub_cancel, Nat.zero_add, Nat.add_zero, Nat.mul_zero, upd_eq, upd_ne]
  · intro j h1 h2 h3 h4 h5
    rw [upd_ne h5, upd_ne h4, upd_ne h3, upd_ne h2, tS j h1]
/-- a begin keeps the relation -/
theorem tr_rel {p g x : Nx} {S U T : Nat → Int32} {k : Nat} (hp : PI p) (hg : GI p g) (hx : LI p x) (hk : k < p 6 0) (hi : x 1 k = x 2 k) (hc : canB p x k = true) (h : RelS p g x S) (hU : ∀ j, j ≠ 50 → (∀ c, c < 41 → j ≠ 107 + 41 * k + c) → U j = S j) (h50 : U 50 = nI (if k = 0 then x 1 0 + 1 else x 1 0)) (hQ0 : U (107 + 41 * k) = nI (sWait (sBeg p x k) k)) (hQ : ∀ i, i < sWait (sBeg p x k) k → U (107 + 41 * k + 1 + 2 * i) = nI (sKind p (x 7 0) (x 1 k + 1 + i)) ∧ U (107 + 41 * k + 2 + 2 * i) = nI (x 5 ((x 1 k + 1 + i) % 20))) (t1 : ∀ l, l < p 7 0 → T (15 + 4 * l + 3) = nI (sFree p (sBeg p x k) l)) (t2 : T (53 + 9 * k) = nI (sKind p (x 7 0) (x 1 k))) (t3 : T (53 + 9 * k + 2) = nI (x 8 0 + sSet p x k)) (t4 : T (53 + 9 * k + 3) = nI (x 8 0 + sSet p x k + p 0 k)) (t5 : T (53 + 9 * k + 4) = nI (if k = 0 then x 8 0 else x 5 (x 1 k % 20))) (t6 : ∀ j, (∀ l, l < p 7 0 → j ≠ 15 + 4 * l + 3) → j ≠ 53 + 9 * k → j ≠ 53 + 9 * k + 2 → j ≠ 53 + 9 * k + 3 → j ≠ 53 + 9 * k + 4 → T j = U j) : RelS p g (sBeg p x k) T ∧ sameSum S T := by
  have hq := hp.q
  have hn := hp.n
  obtain ⟨hst, hgl, hds⟩ := h
  have hkk := hx.k hk
  have hway := hx.way hp
  refine ⟨⟨?_, ⟨⟨?_, ?_, ?_, ?_, ?_⟩, t1⟩, ?_⟩, ?_⟩
  · rw [sBeg_o (by omega)]
    refine Stat.mv hp hg hst (fun l _ => sBeg_o (by omega)) (fun j hj hl => ?_)
    rw [t6 j hl (by omega) (by omega) (by omega) (by omega), hU j (by omega) (fun c _ => by omega)]
  · rw [sBeg_o (by omega), t6 48 (fun l _ => by omega) (by omega) (by omega) (by omega) (by omega), hU 48 (by omega) (fun c _ => by omega)]; exact hgl.1.1
  · rw [sBeg_o (by omega), t6 49 (fun l _ => by omega) (by omega) (by omega) (by omega) (by omega), hU 49 (by omega) (fun c _ => by omega)]; exact hgl.1.2.1
  · rw [t6 50 (fun l _ => by omega) (by omega) (by omega) (by omega) (by omega), h50, sBeg_1]
    by_cases c : k = 0
    · subst c; rfl
    · rw [if_neg c, if_neg (fun z => c z.symm)]
  · rw [sBeg_o (by omega), t6 51 (fun l _ => by omega) (by omega) (by omega) (by omega) (by omega), hU 51 (by omega) (fun c _ => by omega)]; exact hgl.1.2.2.2.1
  · rw [sBeg_o (by omega), t6 52 (fun l _ => by omega) (by omega) (by omega) (by omega) (by omega), hU 52 (by omega) (fun c _ => by omega)]; exact hgl.1.2.2.2.2
  · intro j hj
    by_cases z : j = k
    · subst z
      have hd := hds j hj
      have w20 : sWait (sBeg p x j) j ≤ 20 := by
        have := sWait_20 hp hx hj
        unfold sWait at this ⊢
        simp (disch := omega) only [sBeg_o, sBeg_1, if_true]
        by_cases c : j = 0
        · rw [if_pos c]; omega
        · rw [if_neg c] at this ⊢
          omega
      refine ⟨?_, ?_, ?_, ?_, ?_⟩
      · simp (disch := omega) only [sBeg_o, sBeg_1, if_true]
        rw [if_neg (by omega), t2]
        rfl
      · simp (disch := omega) only [sBeg_o]
        rw [t6 _ (fun l _ => by omega) (by omega) (by omega) (by omega) (by omega), hU _ (by omega) (fun c _ => by omega)]
        exact hd.2.1
      · intro _
        simp (disch := omega) only [sBeg_o, sBeg_1, sBeg_3, sBeg_5, if_true]
        refine ⟨?_, t4, ?_⟩
        · rw [t3]
          congr 1
          omega
        · rw [t5]
          congr 1
          by_cases c : j = 0
          · subst c
            rw [if_pos rfl, if_pos ⟨rfl, rfl⟩]
          · rw [if_neg c, if_neg (fun z => c z.1)]
            rfl
      · rw [t6 _ (fun l _ => by omega) (by omega) (by omega) (by omega) (by omega)]
        exact hQ0
      · intro i hi2
        rw [t6 _ (fun l _ => by omega) (by omega) (by omega) (by omega) (by omega), t6 _ (fun l _ => by omega) (by omega) (by omega) (by omega) (by omega)]
        have e := hQ i hi2
        simp (disch := omega) only [sBeg_o, sBeg_1, sBeg_5, if_true]
        by_cases c : j = 0
        · subst c
          unfold sWait at hi2
          rw [if_pos rfl] at hi2
          omega
        · rw [if_neg (fun z => c z.1)]
          exact e
    · refine Dst.mv (x := x) (S := S) (sWait_20 hp hx hj) (hds j hj) (by rw [sBeg_1, if_neg z]) (sBeg_o (by omega)) (by rw [sBeg_3, if_neg z]) (sBeg_o (by omega)) ?_ ?_ ?_ ?_ (hx.k hj).1
      · unfold sWait
        simp (disch := omega) only [sBeg_o, sBeg_1]
        rw [if_neg z]
      · intro i h1 h2 h3
        rw [sBeg_5]
        by_cases c : k = 0
        · rw [if_neg]
          rintro ⟨_, e⟩
          have hl0 := hp.l0
          have cl := canB_l hc (l := 0) (by omega) (by rw [hl0.1, c])
          have hc0 := hx.l (l := 0) (by omega)
          rw [hl0.1, show p 3 0 = p 6 0 - 1 from by omega] at cl
          have a1 := hx.mono' (j := p 6 0 - 1) (k := j) (by omega) (by omega)
          have a2 := hx.k hj
          have a3 := hx.mono' (j := j) (k := 0) (by omega) hj
          have a4 : x 1 j + sWait x j ≤ x 1 0 := by
            unfold sWait
            by_cases c2 : j = 0
            · omega
            · rw [if_neg c2]
              have b1 := hx.s (k := j - 1) (by omega)
              rw [show j - 1 + 1 = j from by omega] at b1
              have b2 := hx.k (k := j - 1) (by omega)
              have b3 := hx.mono' (j := j - 1) (k := 0) (by omega) (by omega)
              omega
          have := mod20 e (by omega) (by omega)
          omega
        · rw [if_neg (fun q => c q.1)]
      · intro c hc2
        rw [t6 _ (fun l _ => by omega) (by omega) (by omega) (by omega) (by omega), hU _ (by omega) (fun c _ => by omega)]
      · intro c hc2
        rw [t6 _ (fun l _ => by omega) (by omega) (by omega) (by omega) (by omega), hU _ (by omega) (fun c _ => by omega)]
  · intro j s hj hs
    rw [t6 _ (fun l _ => by omega) (by omega) (by omega) (by omega) (by omega), hU _ (by omega) (fun c _ => by omega)]
theorem m_tries20 {p g x : Nx} {S : Nat → Int32} {k N : Nat} (hp : PI p) (hg : GI p g) (hx : LI p x) (hT : x 8 0 < 2 ^ 30) (hN : 100 < N) (hk : k < p 6 0) (hi : x 1 k = x 2 k) (hc : canB p x k = true) (h : RelS p g x S) : ∃ T, fX6_tries_20 N S (nI k) = some T ∧ RelS p g (sBeg p x k) T ∧ sameSum S T := by
  have hq := hp.q
  have hn := hp.n
  have hkk := hx.k hk
  have hh := m_hasC (N := N) hp hx hT (by omega) hk h
  have hcc : hasC p x k 0 (p 7 0) = true := by
    unfold canB at hc
    by_cases c : k ≠ 0 ∧ sWait x k = 0
    · rw [if_pos c] at hc; cases hc
    · rw [if_neg c] at hc; exact hc
  rw [hcc] at hh
  have h48 := h.2.1.1.1
  have h50 := h.2.1.1.2.2.1
  have hd := h.2.2 k hk
  by_cases c : k = 0
  · subst c
    have kd := m_kind hg h.1 hx.f (N := N) (by omega) (m := x 1 0) (by omega)
    obtain ⟨T, r1, r2, r3, r4, r5, r6, r7⟩ := tr_155 (S := upd S 50 (nI (x 1 0 + 1))) (b := nI (x 8 0)) (N := N) hp hg hx hT (by omega) hk hi hc (Stat.mv hp hg h.1 (fun _ _ => rfl) (fun j hj _ => upd_ne (by omega))) (by rw [upd_ne (by omega)]; exact h48) (fun l hl => by rw [upd_ne (by omega)]; exact h.2.1.2 l hl) (by rw [upd_ne (by omega)]; exact hd.2.1)
    have w0 : sWait (sBeg p x 0) 0 = 0 := rfl
    have w1 : sWait x 0 = 0 := rfl
    refine ⟨T, ?_, tr_rel (U := upd S 50 (nI (x 1 0 + 1))) hp hg hx hk hi hc h (fun j h1 _ => upd_ne h1) (by rw [upd_eq rfl]; rfl) ?_ ?_ r2 r3 r4 r5 (by rw [r6]; rfl) r7⟩
    · unfold fX6_tries_20
      simp (disch := omega) only [↓nm_s, ↓bnd_s, ↓reduceIte, nI_add, pk_mul, nI_subdiv, nI_sub', nI_m1, nI_0m1, nI_clamp, gdi_nI, gdz_nI, nI_div, nrem, nI_ltI, nI_leI, nI_eq, leT, leF, ltT, ltF, eqT, eqF, neT, neF, z0, m1lt0, m1lt, m1le, nI_ne_neg, neg_ne_nI, embP_a, embL_a, embL_up, embL_up1, up2_ne, up2_at, up2_o, up1_ne, up1_at, bI_eq0, bI_eq1, or_true, true_or, and_true, true_and, or_false, false_or, and_false, false_and, not_true_eq_false, not_false_eq_true, if_true, if_false,  decide_true, decide_false, bI_t, bI_f, Nat.add_sub_cancel, Nat.zero_add, Nat.add_zero, Nat.mul_zero, upd_eq, upd_ne, hh, h48, h50, kd, r1]
    · rw [upd_ne (by omega), w0]
      have := hd.2.2.2.1
      rw [w1] at this
      exact this
    · intro i hi
      rw [w0] at hi
      omega
  · have cw := canB_w hc c
    have hs := hx.s (k := k - 1) (by omega)
    rw [show k - 1 + 1 = k from by omega] at hs
    have w20 := sWait_20 hp hx hk
    have w : sWait x k = x 2 (k - 1) - x 1 k := by unfold sWait; rw [if_neg c]
    have w' : sWait (sBeg p x k) k = sWait x k - 1 := by
      rw [w]
      unfold sWait
      simp (disch := omega) only [sBeg_o, sBeg_1, if_true]
      rw [if_neg c]
      omega
    have q0 := hd.2.2.2.1
    have q1 := hd.2.2.2.2 0 (by omega)
    rw [show x 1 k + 0 = x 1 k from rfl, show 107 + 41 * k + 1 + 2 * 0 = 107 + 41 * k + 1 from rfl, show 107 + 41 * k + 2 + 2 * 0 = 107 + 41 * k + 2 from rfl] at q1
    obtain ⟨U, s1, s2, s3⟩ := sh_loop (N := N) (v := 107 + 41 * k) (w := sWait x k - 1) (k := nI k) (a := nI (sKind p (x 7 0) (x 1 k))) (b := nI (x 5 (x 1 k % 20))) (by omega) (by omega) (d := 2 * (sWait x k - 1)) (i := 0) (u := N) (S := upd S (107 + 41 * k) (nI (sWait x k - 1))) (by omega) (by omega) (upd_eq rfl)
    have hU : ∀ j, j ≠ 50 → (∀ c, c < 41 → j ≠ 107 + 41 * k + c) → U j = S j := by
      intro j _ h2
      have a0 := h2 0 (by omega)
      by_cases e : j < 107 + 41 * k + 1 + 0 ∨ 107 + 41 * k + 2 + 2 * (sWait x k - 1) < j
      · rw [s3 j e, upd_ne (by omega)]
      · exact absurd (show j = 107 + 41 * k + (j - (107 + 41 * k)) from by omega) (h2 (j - (107 + 41 * k)) (by omega))
    obtain ⟨T, r1, r2, r3, r4, r5, r6, r7⟩ := tr_155 (S := U) (b := nI (x 5 (x 1 k % 20))) (N := N) hp hg hx hT (by omega) hk hi hc (Stat.mv hp hg h.1 (fun _ _ => rfl) (fun j hj _ => hU j (by omega) (fun c _ => by omega))) (by rw [hU _ (by omega) (fun c _ => by omega)]; exact h48) (fun l hl => by rw [hU _ (by omega) (fun c _ => by omega)]; exact h.2.1.2 l hl) (by rw [hU _ (by omega) (fun c _ => by omega)]; exact hd.2.1)
    refine ⟨T, ?_, tr_rel (U := U) hp hg hx hk hi hc h hU ?_ ?_ ?_ r2 r3 r4 r5 (by rw [r6, if_neg c]) r7⟩
    · unfold fX6_tries_20
      simp (disch := omega) only [↓nm_s, ↓bnd_s, ↓reduceIte, nI_add, pk_mul, nI_subdiv, nI_sub', nI_m1, nI_0m1, nI_clamp, gdi_nI, gdz_nI, nI_div, nrem, nI_ltI, nI_leI, nI_eq, leT, leF, ltT, ltF, eqT, eqF, neT, neF, z0, m1lt0, m1lt, m1le, nI_ne_neg, neg_ne_nI, embP_a, embL_a, embL_up, embL_up1, up2_ne, up2_at, up2_o, up1_ne, up1_at, bI_eq0, bI_eq1, or_true, true_or, and_true, true_and, or_false, false_or, and_false, false_and, not_true_eq_false, not_false_eq_true, if_true, if_false,  decide_true, decide_false, bI_t, bI_f, Nat.add_sub_cancel, Nat.zero_add, Nat.add_zero, Nat.mul_zero, upd_eq, upd_ne, hh, h48, q0, q1.1, q1.2, fX6_tries_92, s1, r1]
    · rw [s3 50 (by omega), upd_ne (by omega), h50, if_neg c]
    · rw [s3 _ (by omega), upd_eq rfl, w']
    · intro i hi2
      rw [w'] at hi2
      have e := hd.2.2.2.2 (i + 1) (by omega)
      have f1 := s2 (2 * i) (by omega) (by omega)
      have f2 := s2 (2 * i + 1) (by omega) (by omega)
      rw [upd_ne (by omega)] at f1 f2
      rw [show 107 + 41 * k + 2 + 2 * i = 107 + 41 * k + 1 + (2 * i + 1) from by omega, f1, f2, show x 1 k + 1 + i = x 1 k + (i + 1) from by omega]
      refine ⟨?_, ?_⟩
      · rw [← e.1]; congr 1; omega
      · rw [← e.2]; congr 1; omega
theorem m_tries {p g x : Nx} {S : Nat → Int32} {k N : Nat} (hp : PI p) (hg : GI p g) (hx : LI p x) (hT : x 8 0 < 2 ^ 30) (hN : 100 < N) (hk : k < p 6 0) (h : RelS p g x S) : ∃ T, fX6_tries N S (nI k) = some T ∧ RelS p g (sBegIf p x k) T ∧ sameSum S T := by
  have hn := hp.n
  have a := m_idle hp hk (h.2.2 k hk)
  have b := m_wait hp hk (h.2.2 k hk)
  have wl := sWait_le hx hk
  have hh := m_hasC (N := N) hp hx hT (by omega) hk h
  unfold sBegIf
  by_cases c : x 1 k = x 2 k
  · rw [if_pos c]
    by_cases d : canB p x k = true
    · rw [if_pos d]
      obtain ⟨T, r1, r2, r3⟩ := m_tries20 hp hg hx hT hN hk c d h
      refine ⟨T, ?_, r2, r3⟩
      unfold fX6_tries
      by_cases z : k = 0
      · simp (disch := omega) only [↓nm_s, ↓bnd_s, ↓reduceIte, nI_add, pk_mul, nI_subdiv, nI_sub', nI_m1, nI_0m1, nI_clamp, gdi_nI, gdz_nI, nI_div, nrem, nI_ltI, nI_leI, nI_eq, leT, leF, ltT, ltF, eqT, eqF, neT, neF, z0, m1lt0, m1lt, m1le, nI_ne_neg, neg_ne_nI, embP_a, embL_a, embL_up, embL_up1, up2_ne, up2_at, up2_o, up1_ne, up1_at, bI_eq0, bI_eq1, or_true, true_or, and_true, true_and, or_false, false_or, and_false, false_and, not_true_eq_false, not_false_eq_true, if_true, if_false,  decide_true, decide_false, bI_t, bI_f, Nat.add_sub_cancel, Nat.zero_add, Nat.add_zero, Nat.mul_zero, upd_eq, upd_ne, a, r1]
      · have w := canB_w d z
        have w2 : sWait x k = x 2 (k - 1) - x 1 k := by unfold sWait; rw [if_neg z]
        simp (disch := omega) only [↓nm_s, ↓bnd_s, ↓reduceIte, nI_add, pk_mul, nI_subdiv, nI_sub', nI_m1, nI_0m1, nI_clamp, gdi_nI, gdz_nI, nI_div, nrem, nI_ltI, nI_leI, nI_eq, leT, leF, ltT, ltF, eqT, eqF, neT, neF, z0, m1lt0, m1lt, m1le, nI_ne_neg, neg_ne_nI, embP_a, embL_a, embL_up, embL_up1, up2_ne, up2_at, up2_o, up1_ne, up1_at, bI_eq0, bI_eq1, or_true, true_or, and_true, true_and, or_false, false_or, and_false, false_and, not_true_eq_false, not_false_eq_true, if_true, if_false,  decide_true, decide_false, bI_t, bI_f, Nat.add_sub_cancel, Nat.zero_add, Nat.add_zero, Nat.mul_zero, upd_eq, upd_ne, a, b, r1]
    · rw [if_neg d]
      refine ⟨S, ?_, h, fun _ _ _ _ => rfl⟩
      unfold canB at d
      unfold fX6_tries
      by_cases z : k = 0
      · rw [if_neg (fun q => q.1 z)] at d
        rw [Bool.eq_false_iff.mpr d] at hh
        simp (disch := omega) only [↓nm_s, ↓bnd_s, ↓reduceIte, nI_add, pk_mul, nI_subdiv, nI_sub', nI_m1, nI_0m1, nI_clamp, gdi_nI, gdz_nI, nI_div, nrem, nI_ltI, nI_leI, nI_eq, leT, leF, ltT, ltF, eqT, eqF, neT, neF, z0, m1lt0, m1lt, m1le, nI_ne_neg, neg_ne_nI, embP_a, embL_a, embL_up, embL_up1, up2_ne, up2_at, up2_o, up1_ne, up1_at, bI_eq0, bI_eq1, or_true, true_or, and_true, true_and, or_false, false_or, and_false, false_and, not_true_eq_false, not_false_eq_true, if_true, if_false,  decide_true, decide_false, bI_t, bI_f, Nat.add_sub_cancel, Nat.zero_add, Nat.add_zero, Nat.mul_zero, upd_eq, upd_ne, a, fX6_tries_20, hh]
      · by_cases y : sWait x k = 0
        · simp (disch := omega) only [↓nm_s, ↓bnd_s, ↓reduceIte, nI_add, pk_mul, nI_subdiv, nI_sub', nI_m1, nI_0m1, nI_clamp, gdi_nI, gdz_nI, nI_div, nrem, nI_ltI, nI_leI, nI_eq, leT, leF, ltT, ltF, eqT, eqF, neT, neF, z0, m1lt0, m1lt, m1le, nI_ne_neg, neg_ne_nI, embP_a, embL_a, embL_up, embL_up1, up2_ne, up2_at, up2_o, up1_ne, up1_at, bI_eq0, bI_eq1, or_true, true_or, and_true, true_and, or_false, false_or, and_false, false_and, not_true_eq_false, not_false_eq_true, if_true, if_false,  decide_true, decide_false, bI_t, bI_f, Nat.add_sub_cancel, Nat.zero_add, Nat.add_zero, Nat.mul_zero, upd_eq, upd_ne, a, b]
        · rw [if_neg (fun q => y q.2)] at d
          rw [Bool.eq_false_iff.mpr d] at hh
          simp (disch := omega) only [↓nm_s, ↓bnd_s, ↓reduceIte, nI_add, pk_mul, nI_subdiv, nI_sub', nI_m1, nI_0m1, nI_clamp, gdi_nI, gdz_nI, nI_div, nrem, nI_ltI, nI_leI, nI_eq, leT, leF, ltT, ltF, eqT, eqF, neT, neF, z0, m1lt0, m1lt, m1le, nI_ne_neg, neg_ne_nI, embP_a, embL_a, embL_up, embL_up1, up2_ne, up2_at, up2_o, up1_ne, up1_at, bI_eq0, bI_eq1, or_true, true_or, and_true, true_and, or_false, false_or, and_false, false_and, not_true_eq_false, not_false_eq_true, if_true, if_false,  decide_true, decide_false, bI_t, bI_f, Nat.add_sub_cancel, Nat.zero_add, Nat.add_zero, Nat.mul_zero, upd_eq, upd_ne, a, b, fX6_tries_20, hh]
  · rw [if_neg c]
    refine ⟨S, ?_, h, fun _ _ _ _ => rfl⟩
    unfold fX6_tries
    simp (disch := omega) only [↓nm_s, ↓bnd_s, ↓reduceIte, nI_add, pk_mul, nI_subdiv, nI_sub', nI_m1, nI_0m1, nI_clamp, gdi_nI, gdz_nI, nI_div, nrem, nI_ltI, nI_leI, nI_eq, leT, leF, ltT, ltF, eqT, eqF, neT, neF, z0, m1lt0, m1lt, m1le, nI_ne_neg, neg_ne_nI, embP_a, embL_a, embL_up, embL_up1, up2_ne, up2_at, up2_o, up1_ne, up1_at, bI_eq0, bI_eq1, or_true, true_or, and_true, true_and, or_false, false_or, and_false, false_and, not_true_eq_false, not_false_eq_true, if_true, if_false,  decide_true, decide_false, bI_t, bI_f, Nat.add_sub_cancel, Nat.zero_add, Nat.add_zero, Nat.mul_zero, upd_eq, upd_ne, a]
end
section
/-! the model: rounds -/
theorem sameSum.rfl' {S : Nat → Int32} : sameSum S S := fun _ _ _ _ => rfl
theorem sameSum.tr {S T U : Nat → Int32} (h : sameSum S T) (g : sameSum T U) : sameSum S U := fun k s h1 h2 => (g k s h1 h2).trans (h k s h1 h2)
theorem m_r53 {p g : Nx} {N : Nat} (hp : PI p) (hg : GI p g) (hN : 100 < N) (a : Int32) : ∀ {m u : Nat} {x : Nx} {S : Nat → Int32}, m < u → m ≤ p 6 0 → LI p x → x 8 0 < 2 ^ 30 → RelS p g x S → ∃ T, itn (fX6_rounds_53b N) (fun _ _ _ => none) u S a (dI m) = some (a, T) ∧ RelS p g (down (sBegIf p) m x) T ∧ sameSum S T
  | _, 0, _, _, h, _, _, _, _ => by omega
  | 0, u + 1, x, S, _, _, _, _, h => by
    refine ⟨S, ?_, h, sameSum.rfl'⟩
    rw [itn_s, dI_0]
    unfold fX6_rounds_53b
    simp (disch := omega) only [↓nm_s, ↓bnd_s, ↓reduceIte, nI_add, pk_mul, nI_subdiv, nI_sub', nI_m1, nI_0m1, nI_clamp, gdi_nI, gdz_nI, nI_div, nrem, nI_ltI, nI_leI, nI_eq, leT, leF, ltT, ltF, eqT, eqF, neT, neF, z0, m1lt0, m1lt, m1le, nI_ne_neg, neg_ne_nI, embP_a, embL_a, embL_up, embL_up1, up2_ne, up2_at, up2_o, up1_ne, up1_at, bI_eq0, bI_eq1, or_true, true_or, and_true, true_and, or_false, false_or, and_false, false_and, not_true_eq_false, not_false_eq_true, if_true, if_false,  decide_true, decide_false, bI_t, bI_f, Nat.add_sub_cancel, Nat.zero_add, Nat.add_zero, Nat.mul_zero, upd_eq, upd_ne]
  | m + 1, u + 1, x, S, hu, hm, hx, hT, h => by
    have hn := hp.n
    obtain ⟨T, t1, t2, t3⟩ := m_tries hp hg hx hT hN (k := m) (by omega) h
    obtain ⟨U, u1, u2, u3⟩ := m_r53 hp hg hN a (m := m) (u := u) (by omega) (by omega) (LI_begIf hp hx (by omega)) (by rw [begIf_o (by omega)]; exact hT) t2
    refine ⟨U, ?_, u2, t3.tr u3⟩
    rw [itn_s, dI_s]
    generalize itn (fX6_rounds_53b N) (fun _ _ _ => none) u = K at u1 ⊢
    unfold fX6_rounds_53b
    simp (disch := omega) only [↓nm_s, ↓bnd_s, ↓reduceIte, nI_add, pk_mul, nI_subdiv, nI_sub', nI_m1, nI_0m1, nI_clamp, gdi_nI, gdz_nI, nI_div, nrem, nI_ltI, nI_leI, nI_eq, leT, leF, ltT, ltF, eqT, eqF, neT, neF, z0, m1lt0, m1lt, m1le, nI_ne_neg, neg_ne_nI, embP_a, embL_a, embL_up, embL_up1, up2_ne, up2_at, up2_o, up1_ne, up1_at, bI_eq0, bI_eq1, or_true, true_or, and_true, true_and, or_false, false_or, and_false, false_and, not_true_eq_false, not_false_eq_true, if_true, if_false,  decide_true, decide_false, bI_t, bI_f, Nat.add_sub_cancel, Nat.zero_add, Nat.add_zero, Nat.mul_zero, upd_eq, upd_ne, t1, dI_f, u1]
theorem m_r8 {p g : Nx} {N : Nat} (hp : PI p) (hg : GI p g) (hN : 100 < N) : ∀ {m u o : Nat} {x : Nx} {S : Nat → Int32}, m < u → m ≤ p 6 0 → LI p x → x 8 0 < 2 ^ 30 → RelS p g x S → ∃ T, itn (fX6_rounds_8b N) (fun _ _ _ => none) u S (nI o) (dI m) = some (nI (o + down (sFinIf p) m x 2 (p 6 0 - 1) - x 2 (p 6 0 - 1)), T) ∧ RelS p g (down (sBegIf p) (p 6 0) (down (sFinIf p) m x)) T ∧ sameSum S T
  | _, 0, _, _, _, h, _, _, _, _ => by omega
  | 0, u + 1, o, x, S, _, _, hx, hT, h => by
    have hn := hp.n
    obtain ⟨T, t1, t2, t3⟩ := m_r53 hp hg hN (nI o) (m := p 6 0) (u := N) (by omega) (by omega) hx hT h
    have h1 := h.1.1.2.1
    refine ⟨T, ?_, t2, t3⟩
    rw [itn_s, dI_0]
    unfold fX6_rounds_8b down
    simp (disch := omega) only [↓nm_s, ↓bnd_s, ↓reduceIte, nI_add, pk_mul, nI_subdiv, nI_sub', nI_m1, nI_0m1, nI_clamp, gdi_nI, gdz_nI, nI_div, nrem, nI_ltI, nI_leI, nI_eq, leT, leF, ltT, ltF, eqT, eqF, neT, neF, z0, m1lt0, m1lt, m1le, nI_ne_neg, neg_ne_nI, embP_a, embL_a, embL_up, embL_up1, up2_ne, up2_at, up2_o, up1_ne, up1_at, bI_eq0, bI_eq1, or_true, true_or, and_true, true_and, or_false, false_or, and_false, false_and, not_true_eq_false, not_false_eq_true, if_true, if_false,  decide_true, decide_false, bI_t, bI_f, Nat.add_sub_cancel, Nat.zero_add, Nat.add_zero, Nat.mul_zero, upd_eq, upd_ne, h1, dI_p, fX6_rounds_53, t1]
  | m + 1, u + 1, o, x, S, hu, hm, hx, hT, h => by
    have hn := hp.n
    have hmk := hx.k (k := m) (by omega)
    have hd := h.2.2 m (by omega)
    have a := m_idle hp (k := m) (by omega) hd
    have e3 := m_its (S := S) (k := m) (c := 3) (by omega)
    have h48 := h.2.1.1.1
    rw [show down (sFinIf p) (m + 1) x = down (sFinIf p) m (sFinIf p x m) from rfl]
    have hL := LI_finIf (k := m) hp hx (by omega)
    have hT' : sFinIf p x m 8 0 < 2 ^ 30 := by rw [finIf_o (by omega)]; exact hT
    have rest : ∀ o' S', RelS p g (sFinIf p x m) S' → ∃ T, itn (fX6_rounds_8b N) (fun _ _ _ => none) u S' (nI o') (dI m) = some (nI (o' + down (sFinIf p) m (sFinIf p x m) 2 (p 6 0 - 1) - sFinIf p x m 2 (p 6 0 - 1)), T) ∧ RelS p g (down (sBegIf p) (p 6 0) (down (sFinIf p) m (sFinIf p x m))) T ∧ sameSum S' T := fun o' S' h' => m_r8 hp hg hN (by omega) (by omega) hL hT' h'
    rw [itn_s, dI_s]
    generalize itn (fX6_rounds_8b N) (fun _ _ _ => none) u = K at rest ⊢
    unfold fX6_rounds_8b
    generalize down (sFinIf p) m (sFinIf p x m) = Y at rest ⊢
    unfold sFinIf at rest
    by_cases c : x 1 m = x 2 m
    · rw [if_pos c] at rest
      obtain ⟨T, t1, t2, t3⟩ := rest o S h
      refine ⟨T, ?_, t2, t3⟩
      simp (disch := omega) only [↓nm_s, ↓bnd_s, ↓reduceIte, nI_add, pk_mul, nI_subdiv, nI_sub', nI_m1, nI_0m1, nI_clamp, gdi_nI, gdz_nI, nI_div, nrem, nI_ltI, nI_leI, nI_eq, leT, leF, ltT, ltF, eqT, eqF, neT, neF, z0, m1lt0, m1lt, m1le, nI_ne_neg, neg_ne_nI, embP_a, embL_a, embL_up, embL_up1, up2_ne, up2_at, up2_o, up1_ne, up1_at, bI_eq0, bI_eq1, or_true, true_or, and_true, true_and, or_false, false_or, and_false, false_and, not_true_eq_false, not_false_eq_true, if_true, if_false,  decide_true, decide_false, bI_t, bI_f, Nat.add_sub_cancel, Nat.zero_add, Nat.add_zero, Nat.mul_zero, upd_eq, upd_ne, a, fX6_rounds_41, dI_f, t1]
    · rw [if_neg c] at rest
      have he := hx.e (k := m) (by omega) c
      have d3 := (hd.2.2.1 c).2.1
      by_cases d : x 8 0 < x 3 m
      · rw [if_pos d] at rest
        obtain ⟨T, t1, t2, t3⟩ := rest o S h
        refine ⟨T, ?_, t2, t3⟩
        simp (disch := omega) only [↓nm_s, ↓bnd_s, ↓reduceIte, nI_add, pk_mul, nI_subdiv, nI_sub', nI_m1, nI_0m1, nI_clamp, gdi_nI, gdz_nI, nI_div, nrem, nI_ltI, nI_leI, nI_eq, leT, leF, ltT, ltF, eqT, eqF, neT, neF, z0, m1lt0, m1lt, m1le, nI_ne_neg, neg_ne_nI, embP_a, embL_a, embL_up, embL_up1, up2_ne, up2_at, up2_o, up1_ne, up1_at, bI_eq0, bI_eq1, or_true, true_or, and_true, true_and, or_false, false_or, and_false, false_and, not_true_eq_false, not_false_eq_true, if_true, if_false,  decide_true, decide_false, bI_t, bI_f, Nat.add_sub_cancel, Nat.zero_add, Nat.add_zero, Nat.mul_zero, upd_eq, upd_ne, a, e3, d3, h48, fX6_rounds_41, dI_f, t1]
      · rw [if_neg d] at rest
        obtain ⟨U, u1, u2, u3⟩ := m_goes hp hg hx hT (by omega) (k := m) (N := N) (by omega) c h
        obtain ⟨T, t1, t2, t3⟩ := rest (o + (if m + 1 = p 6 0 then 1 else 0)) U u2
        refine ⟨T, ?_, t2, u3.tr t3⟩
        simp (disch := omega) only [↓nm_s, ↓bnd_s, ↓reduceIte, nI_add, pk_mul, nI_subdiv, nI_sub', nI_m1, nI_0m1, nI_clamp, gdi_nI, gdz_nI, nI_div, nrem, nI_ltI, nI_leI, nI_eq, leT, leF, ltT, ltF, eqT, eqF, neT, neF, z0, m1lt0, m1lt, m1le, nI_ne_neg, neg_ne_nI, embP_a, embL_a, embL_up, embL_up1, up2_ne, up2_at, up2_o, up1_ne, up1_at, bI_eq0, bI_eq1, or_true, true_or, and_true, true_and, or_false, false_or, and_false, false_and, not_true_eq_false, not_false_eq_true, if_true, if_false,  decide_true, decide_false, bI_t, bI_f, Nat.add_sub_cancel, Nat.zero_add, Nat.add_zero, Nat.mul_zero, upd_eq, upd_ne, a, e3, d3, h48, u1]
        rw [show fX6_rounds_41 N K U (nI (o + if m + 1 = p 6 0 then 1 else 0)) (nI m) = K U (nI (o + if m + 1 = p 6 0 then 1 else 0)) (dI m) from rfl, t1, sFin_2]
        by_cases z : m + 1 = p 6 0
        · rw [if_pos z, if_pos (by omega), show p 6 0 - 1 = m from by omega]
          congr 3
          omega
        · rw [if_neg z, if_neg (by omega)]
          congr 3
theorem m_rounds {p g x : Nx} {S : Nat → Int32} {N : Nat} (hp : PI p) (hg : GI p g) (hN : 100 < N) (hx : LI p x) (hT : x 8 0 < 2 ^ 30) (h : RelS p g x S) : ∃ T, fX6_rounds N S = some (nI (sRound p x 2 (p 6 0 - 1) - x 2 (p 6 0 - 1)), T) ∧ RelS p g (sRound p x) T ∧ sameSum S T := by
  have hn := hp.n
  have h1 := h.1.1.2.1
  obtain ⟨T, t1, t2, t3⟩ := m_r8 hp hg hN (m := p 6 0) (u := N) (o := 0) (by omega) (by omega) hx hT h
  refine ⟨T, ?_, t2, t3⟩
  unfold fX6_rounds
  simp (disch := omega) only [↓nm_s, ↓bnd_s, ↓reduceIte, nI_add, pk_mul, nI_subdiv, nI_sub', nI_m1, nI_0m1, nI_clamp, gdi_nI, gdz_nI, nI_div, nrem, nI_ltI, nI_leI, nI_eq, leT, leF, ltT, ltF, eqT, eqF, neT, neF, z0, m1lt0, m1lt, m1le, nI_ne_neg, neg_ne_nI, embP_a, embL_a, embL_up, embL_up1, up2_ne, up2_at, up2_o, up1_ne, up1_at, bI_eq0, bI_eq1, or_true, true_or, and_true, true_and, or_false, false_or, and_false, false_and, not_true_eq_false, not_false_eq_true, if_true, if_false,  decide_true, decide_false, bI_t, bI_f, Nat.add_sub_cancel, Nat.zero_add, Nat.add_zero, Nat.mul_zero, upd_eq, upd_ne, h1, dI_p, fX6_rounds_8, t1]
  unfold sRound
  rw [down_o (f := sBegIf p) (fun _ _ => begIf_o (by omega))]
/-! agreeing lines have the same rows -/
theorem RelS_agr {p g x y : Nx} {S : Nat → Int32} (hp : PI p) (h : Agr x y) (hS : RelS p g x S) : RelS p g y S := by
  have hn := hp.n
  have hq := hp.q
  obtain ⟨hst, hgl, hds⟩ := hS
  have e7 := h.g1 (a := 7) (by omega)
  refine ⟨⟨hst.1, hst.2.1, fun l hl => ?_, fun r hr => ?_⟩, ⟨?_, fun l hl => ?_⟩, fun k hk => ?_⟩
  · rw [h.g4 (by omega)]; exact hst.2.2.1 l hl
  · rw [e7]; exact hst.2.2.2 r hr
  · rw [h.g1 (a := 8) (by omega), h.g1 (a := 9) (by omega), h.g1 (a := 10) (by omega), h.g6 (a := 2) (by omega) (by omega), h.g6 (a := 1) (by omega) (by omega)]
    exact hgl.1
  · have hl2 := hp.l hl
    unfold sFree
    rw [h.g4 (by omega), h.g6 (a := 2) (by omega) (by omega), h.g6 (a := 1) (by omega) (by omega)]
    exact hgl.2 l hl
  · have w : sWait y k = sWait x k := by
      unfold sWait
      rw [h.g6 (a := 2) (by omega) (by omega), h.g6 (a := 1) (by omega) (by omega)]
    have hd := hds k hk
    unfold Dst
    rw [w, e7, h.g6 (a := 2) (by omega) (by omega), h.g6 (a := 1) (by omega) (by omega), h.g6 (a := 3) (by omega) (by omega), h.g5 (Nat.mod_lt _ (by omega))]
    refine ⟨hd.1, hd.2.1, hd.2.2.1, hd.2.2.2.1, fun i hi => ?_⟩
    rw [h.g5 (Nat.mod_lt _ (by omega))]
    exact hd.2.2.2.2 i hi
theorem SumS.mv {p x : Nx} {S T : Nat → Int32} (hp : PI p) (h : SumS p x S) (hs : sameSum S T) : SumS p x T := fun k s h1 h2 => (hs k s (by have := hp.n; omega) h2).trans (h k s h1 h2)
theorem SumS.o {p x y : Nx} {S : Nat → Int32} (h : SumS p x S) (he : ∀ i, y 6 i = x 6 i) : SumS p y S := fun k s h1 h2 => by rw [he]; exact h k s h1 h2
/-! from nothing -/
theorem cl3 {N : Nat} : ∀ {d j u : Nat} {S : Nat → Int32}, d < u → j + d = 353 → ∃ T K, itn (fX6_clears_3b N) (fun _ _ => none) u S (nI j) = fX6_clears_3b N K T (nI 353) ∧ (∀ i, i < j → T i = S i) ∧ ∀ i, j ≤ i → i < 353 → T i = nI 0
  | _, _, 0, _, h, _ => by omega
  | 0, j, u + 1, S, _, e => by
    refine ⟨S, itn (fX6_clears_3b N) (fun _ _ => none) u, ?_, fun _ _ => rfl, fun i h1 h2 => by omega⟩
    rw [itn_s, show j = 353 from by omega]
  | d + 1, j, u + 1, S, hu, e => by
    obtain ⟨T, K, i1, i2, i3⟩ := cl3 (N := N) (d := d) (j := j + 1) (u := u) (S := upd S j (nI 0)) (by omega) (by omega)
    refine ⟨T, K, ?_, ?_, ?_⟩
    · rw [itn_s, ← i1]
      generalize itn (fX6_clears_3b N) (fun _ _ => none) u = K
      unfold fX6_clears_3b
      simp (disch := omega) only [↓nm_s, ↓bnd_s, ↓reduceIte, nI_add, pk_mul, nI_subdiv, nI_sub', nI_m1, nI_0m1, nI_clamp, gdi_nI, gdz_nI, nI_div, nrem, nI_ltI, nI_leI, nI_eq, leT, leF, ltT, ltF, eqT, eqF, neT, neF, z0, m1lt0, m1lt, m1le, nI_ne_neg, neg_ne_nI, embP_a, embL_a, embL_up, embL_up1, up2_ne, up2_at, up2_o, up1_ne, up1_at, bI_eq0, bI_eq1, or_true, true_or, and_true, true_and, or_false, false_or, and_false, false_and, not_true_eq_false, not_false_eq_true, if_true, if_false,  decide_true, decide_false, bI_t, bI_f, Nat.add_sub_cancel, Nat.zero_add, Nat.add_zero, Nat.mul_zero, upd_eq, upd_ne]
    · intro i hi
      rw [i2 i (by omega), upd_ne (by omega)]
    · intro i h1 h2
      by_cases c : i = j
      · subst c
        rw [i2 i (by omega), upd_eq rfl]
      · exact i3 i (by omega) h2
theorem cl32 {N : Nat} : ∀ {d k u : Nat} {S : Nat → Int32}, d < u → k + d = 6 → ∃ T K, itn (fX6_clears_32b N) (fun _ _ => none) u S (nI k) = fX6_clears_32b N K T (nI 6) ∧ (∀ i, (∀ c, k ≤ c → c < 6 → i ≠ 53 + 9 * c ∧ i ≠ 53 + 9 * c + 1) → T i = S i) ∧ ∀ c, k ≤ c → c < 6 → T (53 + 9 * c) = -1 ∧ T (53 + 9 * c + 1) = -1
  | _, _, 0, _, h, _ => by omega
  | 0, k, u + 1, S, _, e => by
    refine ⟨S, itn (fX6_clears_32b N) (fun _ _ => none) u, ?_, fun _ _ => rfl, fun i h1 h2 => by omega⟩
    rw [itn_s, show k = 6 from by omega]
  | d + 1, k, u + 1, S, hu, e => by
    obtain ⟨T, K, i1, i2, i3⟩ := cl32 (N := N) (d := d) (k := k + 1) (u := u) (S := upd (upd S (53 + 9 * k) (-1)) (53 + 9 * k + 1) (-1)) (by omega) (by omega)
    refine ⟨T, K, ?_, ?_, ?_⟩
    · rw [itn_s, ← i1]
      generalize itn (fX6_clears_32b N) (fun _ _ => none) u = K
      unfold fX6_clears_32b
      simp (disch := omega) only [↓nm_s, ↓bnd_s, ↓reduceIte, nI_add, pk_mul, nI_subdiv, nI_sub', nI_m1, nI_0m1, nI_clamp, gdi_nI, gdz_nI, nI_div, nrem, nI_ltI, nI_leI, nI_eq, leT, leF, ltT, ltF, eqT, eqF, neT, neF, z0, m1lt0, m1lt, m1le, nI_ne_neg, neg_ne_nI, embP_a, embL_a, embL_up, embL_up1, up2_ne, up2_at, up2_o, up1_ne, up1_at, bI_eq0, bI_eq1, or_true, true_or, and_true, true_and, or_false, false_or, and_false, false_and, not_true_eq_false, not_false_eq_true, if_true, if_false,  decide_true, decide_false, bI_t, bI_f, Nat.add_sub_cancel, Nat.zero_add, Nat.add_zero, Nat.mul_zero, upd_eq, upd_ne]
    · intro i hi
      have := hi k (by omega) (by omega)
      rw [i2 i (fun c h1 h2 => hi c (by omega) h2), upd_ne this.2, upd_ne this.1]
    · intro c h1 h2
      by_cases z : c = k
      · subst z
        rw [i2 _ (fun c h1 h2 => by omega), upd_ne (by omega), upd_eq rfl, i2 _ (fun c h1 h2 => by omega), upd_eq rfl]
        exact ⟨rfl, rfl⟩
      · exact i3 c (by omega) h2
theorem cl70 {N q : Nat} (hq : q ≤ 5) : ∀ {d l u : Nat} {S : Nat → Int32}, d < u → l + d = q → S 14 = nI q → ∃ T, itn (fX6_clears_70b N) (fun _ _ => none) u S (nI l) = some T ∧ (∀ i, (∀ c, l ≤ c → c < q → i ≠ 15 + 4 * c + 3) → T i = S i) ∧ ∀ c, l ≤ c → c < q → T (15 + 4 * c + 3) = S (15 + 4 * c + 2)
  | _, _, 0, _, h, _, _ => by omega
  | 0, l, u + 1, S, _, e, h14 => by
    refine ⟨S, ?_, fun _ _ => rfl, fun i h1 h2 => by omega⟩
    rw [itn_s]
    unfold fX6_clears_70b
    simp (disch := omega) only [↓nm_s, ↓bnd_s, ↓reduceIte, nI_add, pk_mul, nI_subdiv, nI_sub', nI_m1, nI_0m1, nI_clamp, gdi_nI, gdz_nI, nI_div, nrem, nI_ltI, nI_leI, nI_eq, leT, leF, ltT, ltF, eqT, eqF, neT, neF, z0, m1lt0, m1lt, m1le, nI_ne_neg, neg_ne_nI, embP_a, embL_a, embL_up, embL_up1, up2_ne, up2_at, up2_o, up1_ne, up1_at, bI_eq0, bI_eq1, or_true, true_or, and_true, true_and, or_false, false_or, and_false, false_and, not_true_eq_false, not_false_eq_true, if_true, if_false,  decide_true, decide_false, bI_t, bI_f, Nat.add_sub_cancel, Nat.zero_add, Nat.add_zero, Nat.mul_zero, upd_eq, upd_ne, h14]
  | d + 1, l, u + 1, S, hu, e, h14 => by
    obtain ⟨T, i1, i2, i3⟩ := cl70 (N := N) hq (d := d) (l := l + 1) (u := u) (S := upd S (15 + 4 * l + 3) (S (15 + 4 * l + 2))) (by omega) (by omega) (by rw [upd_ne (by omega)]; exact h14)
    refine ⟨T, ?_, ?_, ?_⟩
    · rw [itn_s]
      generalize itn (fX6_clears_70b N) (fun _ _ => none) u = K at i1 ⊢
      unfold fX6_clears_70b
      simp (disch := omega) only [↓nm_s, ↓bnd_s, ↓reduceIte, nI_add, pk_mul, nI_subdiv, nI_sub', nI_m1, nI_0m1, nI_clamp, gdi_nI, gdz_nI, nI_div, nrem, nI_ltI, nI_leI, nI_eq, leT, leF, ltT, ltF, eqT, eqF, neT, neF, z0, m1lt0, m1lt, m1le, nI_ne_neg, neg_ne_nI, embP_a, embL_a, embL_up, embL_up1, up2_ne, up2_at, up2_o, up1_ne, up1_at, bI_eq0, bI_eq1, or_true, true_or, and_true, true_and, or_false, false_or, and_false, false_and, not_true_eq_false, not_false_eq_true, if_true, if_false,  decide_true, decide_false, bI_t, bI_f, Nat.add_sub_cancel, Nat.zero_add, Nat.add_zero, Nat.mul_zero, upd_eq, upd_ne, h14, i1]
    · intro i hi
      rw [i2 i (fun c h1 h2 => hi c (by omega) h2), upd_ne (hi l (by omega) (by omega))]
    · intro c h1 h2
      by_cases z : c = l
      · subst z
        rw [i2 _ (fun c h1 h2 => by omega), upd_eq rfl]
      · rw [i3 c (by omega) h2, upd_ne (by omega)]
theorem m_clears {N q : Nat} (hq : q ≤ 5) (hN : 400 < N) {S : Nat → Int32} (h14 : S 14 = nI q) : ∃ T, fX6_clears N S = some T ∧ (∀ j, j < 48 → (∀ l, l < q → j ≠ 15 + 4 * l + 3) → T j = S j) ∧ (∀ l, l < q → T (15 + 4 * l + 3) = S (15 + 4 * l + 2)) ∧ (∀ k, k < 6 → T (53 + 9 * k) = -1 ∧ T (53 + 9 * k + 1) = -1) ∧ T 51 = -1 ∧ T 52 = -1 ∧ ∀ j, 48 ≤ j → j < 353 → j ≠ 51 → j ≠ 52 → (∀ k, k < 6 → j ≠ 53 + 9 * k ∧ j ≠ 53 + 9 * k + 1) → T j = nI 0 := by
  obtain ⟨A, K, a1, a2, a3⟩ := cl3 (N := N) (d := 305) (j := 48) (u := N) (S := S) (by omega) (by omega)
  obtain ⟨B, K2, b1, b2, b3⟩ := cl32 (N := N) (d := 6) (k := 0) (u := N) (S := upd (upd A 51 (-1)) 52 (-1)) (by omega) (by omega)
  have e14 : B 14 = nI q := by rw [b2 14 (fun c h1 h2 => by omega), upd_ne (by omega), upd_ne (by omega), a2 14 (by omega)]; exact h14
  obtain ⟨T, t1, t2, t3⟩ := cl70 (N := N) hq (d := q) (l := 0) (u := N) (S := B) (by omega) (by omega) e14
  refine ⟨T, ?_, ?_, ?_, ?_, ?_, ?_, ?_⟩
  · unfold fX6_clears
    rw [nm_s]
    unfold fX6_clears_3
    rw [a1]
    unfold fX6_clears_3b
    simp (disch := omega) only [↓nm_s, ↓bnd_s, ↓reduceIte, nI_add, pk_mul, nI_subdiv, nI_sub', nI_m1, nI_0m1, nI_clamp, gdi_nI, gdz_nI, nI_div, nrem, nI_ltI, nI_leI, nI_eq, leT, leF, ltT, ltF, eqT, eqF, neT, neF, z0, m1lt0, m1lt, m1le, nI_ne_neg, neg_ne_nI, embP_a, embL_a, embL_up, embL_up1, up2_ne, up2_at, up2_o, up1_ne, up1_at, bI_eq0, bI_eq1, or_true, true_or, and_true, true_and, or_false, false_or, and_false, false_and, not_true_eq_false, not_false_eq_true, if_true, if_false,  decide_true, decide_false, bI_t, bI_f, Nat.add_sub_cancel, Nat.zero_add, Nat.add_zero, Nat.mul_zero, upd_eq, upd_ne, fX6_clears_32, b1]
    unfold fX6_clears_32b
    simp (disch := omega) only [↓nm_s, ↓bnd_s, ↓reduceIte, nI_add, pk_mul, nI_subdiv, nI_sub', nI_m1, nI_0m1, nI_clamp, gdi_nI, gdz_nI, nI_div, nrem, nI_ltI, nI_leI, nI_eq, leT, leF, ltT, ltF, eqT, eqF, neT, neF, z0, m1lt0, m1lt, m1le, nI_ne_neg, neg_ne_nI, embP_a, embL_a, embL_up, embL_up1, up2_ne, up2_at, up2_o, up1_ne, up1_at, bI_eq0, bI_eq1, or_true, true_or, and_true, true_and, or_false, false_or, and_false, false_and, not_true_eq_false, not_false_eq_true, if_true, if_false,  decide_true, decide_false, bI_t, bI_f, Nat.add_sub_cancel, Nat.zero_add, Nat.add_zero, Nat.mul_zero, upd_eq, upd_ne, fX6_clears_70, t1]
  · intro j hj hl
    rw [t2 j (fun c _ h2 => hl c h2), b2 j (fun c h1 h2 => by omega), upd_ne (by omega), upd_ne (by omega), a2 j hj]
  · intro l hl
    rw [t3 l (by omega) hl, b2 _ (fun c h1 h2 => by omega), upd_ne (by omega), upd_ne (by omega), a2 _ (by omega)]
  · intro k hk
    rw [t2 _ (fun c h1 h2 => by omega), t2 _ (fun c h1 h2 => by omega)]
    exact b3 k (by omega) hk
  · rw [t2 _ (fun c h1 h2 => by omega), b2 _ (fun c h1 h2 => by omega), upd_ne (by omega), upd_eq rfl]
  · rw [t2 _ (fun c h1 h2 => by omega), b2 _ (fun c h1 h2 => by omega), upd_eq rfl]
  · intro j h1 h2 h3 h4 h5
    rw [t2 _ (fun c h1 h2 => by omega), b2 _ (fun c h6 h7 => h5 c h7), upd_ne h4, upd_ne h3, a3 j h1 h2]
theorem clr_1 {x : Nx} {C : Nat → Nat} {f a i : Nat} (ha : a = 1 ∨ a = 2) (hi : i < 6) : sClr x C f a i = 0 := by
  rcases ha with rfl | rfl <;> simp [sClr, hi]
theorem clr_4 {x : Nx} {C : Nat → Nat} {f i : Nat} (hi : i < 5) : sClr x C f 4 i = C i := by simp [sClr, hi]
theorem clr_6 {x : Nx} {C : Nat → Nat} {f i : Nat} (hi : i < 24) : sClr x C f 6 i = 0 := by simp [sClr, hi]
theorem clr_7 {x : Nx} {C : Nat → Nat} {f i : Nat} : sClr x C f 7 i = f := by simp [sClr]
theorem clr_8 {x : Nx} {C : Nat → Nat} {f a i : Nat} (ha : a = 8 ∨ a = 9 ∨ a = 10) : sClr x C f a i = 0 := by
  rcases ha with rfl | rfl | rfl <;> simp [sClr]
theorem rel_clr {p g x : Nx} {C : Nat → Nat} {f : Nat} {S T : Nat → Int32} (hp : PI p) (hg : GI p g) (h : Stat p g C f S) (t1 : ∀ j, j < 48 → (∀ l, l < p 7 0 → j ≠ 15 + 4 * l + 3) → T j = S j) (t2 : ∀ l, l < p 7 0 → T (15 + 4 * l + 3) = S (15 + 4 * l + 2)) (t3 : ∀ k, k < 6 → T (53 + 9 * k) = -1 ∧ T (53 + 9 * k + 1) = -1) (t4 : T 51 = -1) (t5 : T 52 = -1) (t6 : ∀ j, 48 ≤ j → j < 353 → j ≠ 51 → j ≠ 52 → (∀ k, k < 6 → j ≠ 53 + 9 * k ∧ j ≠ 53 + 9 * k + 1) → T j = nI 0) : RelS p g (sClr x C f) T ∧ SumS p (sClr x C f) T := by
  have hn := hp.n
  have hq := hp.q
  have m1 : nI 0 - nI 1 = -1 := by decide
  refine ⟨⟨?_, ⟨⟨?_, ?_, ?_, ?_, ?_⟩, ?_⟩, ?_⟩, ?_⟩
  · rw [clr_7]
    exact Stat.mv hp hg h (fun l hl => clr_4 (by omega)) t1
  · rw [clr_8 (by omega)]; exact t6 48 (by omega) (by omega) (by omega) (by omega) (fun k _ => by omega)
  · rw [clr_1 (by omega) (by omega)]; exact t6 49 (by omega) (by omega) (by omega) (by omega) (fun k _ => by omega)
  · rw [clr_1 (by omega) (by omega)]; exact t6 50 (by omega) (by omega) (by omega) (by omega) (fun k _ => by omega)
  · rw [clr_8 (by omega), m1]; exact t4
  · rw [clr_8 (by omega), m1]; exact t5
  · intro l hl
    have hl2 := hp.l hl
    rw [t2 l hl, (h.2.2.1 l hl).2.2]
    unfold sFree
    rw [clr_4 (by omega), clr_1 (by omega) (by omega), clr_1 (by omega) (by omega)]
    rfl
  · intro k hk
    have w : sWait (sClr x C f) k = 0 := by
      unfold sWait
      rw [clr_1 (by omega) (by omega), clr_1 (by omega) (by omega)]
      split <;> rfl
    unfold Dst
    rw [w, clr_1 (a := 1) (by omega) (by omega), clr_1 (a := 2) (by omega) (by omega)]
    refine ⟨(t3 k (by omega)).1, (t3 k (by omega)).2, fun z => absurd rfl z, t6 _ (by omega) (by omega) (by omega) (by omega) (fun c _ => by omega), fun i hi => by omega⟩
  · intro k s hk hs
    rw [clr_6 (by omega)]
    exact t6 _ (by omega) (by omega) (by omega) (by omega) (fun c _ => by omega)
theorem m_begins {p g x : Nx} {C : Nat → Nat} {f N : Nat} {S : Nat → Int32} (hp : PI p) (hg : GI p g) (hN : 400 < N) (hf : 1 ≤ f ∧ f ≤ 5) (hC : ∀ l, l < p 7 0 → 1 ≤ C l ∧ C l ≤ 20) (h : Stat p g C f S) : ∃ T, fX6_begins N S = some T ∧ RelS p g (sRound p (sClr x C f)) T ∧ SumS p (sRound p (sClr x C f)) T := by
  have hq := hp.q
  obtain ⟨T, c1, c2, c3, c4, c5, c6, c7⟩ := m_clears (N := N) (q := p 7 0) (by omega) hN h.1.2.2.1
  have r := rel_clr (x := x) hp hg h c2 c3 c4 c5 c6 c7
  obtain ⟨U, u1, u2, u3⟩ := m_rounds (N := N) hp hg (by omega) (LI_clr (x := x) hp hf hC) (by rw [clr_8 (by omega)]; omega) r.1
  refine ⟨U, ?_, u2, SumS.o (r.2.mv hp u3) (fun i => round_o (by omega))⟩
  unfold fX6_begins
  simp (disch := omega) only [↓nm_s, ↓bnd_s, ↓reduceIte, nI_add, pk_mul, nI_subdiv, nI_sub', nI_m1, nI_0m1, nI_clamp, gdi_nI, gdz_nI, nI_div, nrem, nI_ltI, nI_leI, nI_eq, leT, leF, ltT, ltF, eqT, eqF, neT, neF, z0, m1lt0, m1lt, m1le, nI_ne_neg, neg_ne_nI, embP_a, embL_a, embL_up, embL_up1, up2_ne, up2_at, up2_o, up1_ne, up1_at, bI_eq0, bI_eq1, or_true, true_or, and_true, true_and, or_false, false_or, and_false, false_and, not_true_eq_false, not_false_eq_true, if_true, if_false,  decide_true, decide_false, bI_t, bI_f, Nat.add_sub_cancel, Nat.zero_add, Nat.add_zero, Nat.mul_zero, upd_eq, upd_ne, c1, u1]
end
section
/-! the model: minutes, who is through next, steps -/
theorem m_doing {p g x : Nx} {S : Nat → Int32} {k : Nat} (hp : PI p) (hx : LI p x) (hT : x 8 0 < 2 ^ 30) (hk : k < p 6 0) (h : RelS p g x S) : fX6_doing S (nI k) = some (nI (sState p x k)) := by
  have hn := hp.n
  have hd := h.2.2 k hk
  have a := m_idle hp hk hd
  have w := m_wait hp hk hd
  have wl := sWait_le hx hk
  have h48 := h.2.1.1.1
  have e2 := m_its (S := S) (k := k) (c := 2) (by omega)
  unfold fX6_doing sState
  by_cases c : x 1 k = x 2 k
  · by_cases d : k = 0
    · simp (disch := omega) only [↓nm_s, ↓bnd_s, ↓reduceIte, nI_add, pk_mul, nI_subdiv, nI_sub', nI_m1, nI_0m1, nI_clamp, gdi_nI, gdz_nI, nI_div, nrem, nI_ltI, nI_leI, nI_eq, leT, leF, ltT, ltF, eqT, eqF, neT, neF, z0, m1lt0, m1lt, m1le, nI_ne_neg, neg_ne_nI, embP_a, embL_a, embL_up, embL_up1, up2_ne, up2_at, up2_o, up1_ne, up1_at, bI_eq0, bI_eq1, or_true, true_or, and_true, true_and, or_false, false_or, and_false, false_and, not_true_eq_false, not_false_eq_true, if_true, if_false,  decide_true, decide_false, bI_t, bI_f, Nat.add_sub_cancel, Nat.zero_add, Nat.add_zero, Nat.mul_zero, upd_eq, upd_ne, a, fX6_doing_24]
    · by_cases e : sWait x k = 0
      · simp (disch := omega) only [↓nm_s, ↓bnd_s, ↓reduceIte, nI_add, pk_mul, nI_subdiv, nI_sub', nI_m1, nI_0m1, nI_clamp, gdi_nI, gdz_nI, nI_div, nrem, nI_ltI, nI_leI, nI_eq, leT, leF, ltT, ltF, eqT, eqF, neT, neF, z0, m1lt0, m1lt, m1le, nI_ne_neg, neg_ne_nI, embP_a, embL_a, embL_up, embL_up1, up2_ne, up2_at, up2_o, up1_ne, up1_at, bI_eq0, bI_eq1, or_true, true_or, and_true, true_and, or_false, false_or, and_false, false_and, not_true_eq_false, not_false_eq_true, if_true, if_false,  decide_true, decide_false, bI_t, bI_f, Nat.add_sub_cancel, Nat.zero_add, Nat.add_zero, Nat.mul_zero, upd_eq, upd_ne, a, w, fX6_doing_24]
      · simp (disch := omega) only [↓nm_s, ↓bnd_s, ↓reduceIte, nI_add, pk_mul, nI_subdiv, nI_sub', nI_m1, nI_0m1, nI_clamp, gdi_nI, gdz_nI, nI_div, nrem, nI_ltI, nI_leI, nI_eq, leT, leF, ltT, ltF, eqT, eqF, neT, neF, z0, m1lt0, m1lt, m1le, nI_ne_neg, neg_ne_nI, embP_a, embL_a, embL_up, embL_up1, up2_ne, up2_at, up2_o, up1_ne, up1_at, bI_eq0, bI_eq1, or_true, true_or, and_true, true_and, or_false, false_or, and_false, false_and, not_true_eq_false, not_false_eq_true, if_true, if_false,  decide_true, decide_false, bI_t, bI_f, Nat.add_sub_cancel, Nat.zero_add, Nat.add_zero, Nat.mul_zero, upd_eq, upd_ne, a, w, fX6_doing_24]
  · have d3 := (hd.2.2.1 c).1
    have he := hx.e hk c
    by_cases d : x 3 k - p 0 k ≤ x 8 0
    · simp (disch := omega) only [↓nm_s, ↓bnd_s, ↓reduceIte, nI_add, pk_mul, nI_subdiv, nI_sub', nI_m1, nI_0m1, nI_clamp, gdi_nI, gdz_nI, nI_div, nrem, nI_ltI, nI_leI, nI_eq, leT, leF, ltT, ltF, eqT, eqF, neT, neF, z0, m1lt0, m1lt, m1le, nI_ne_neg, neg_ne_nI, embP_a, embL_a, embL_up, embL_up1, up2_ne, up2_at, up2_o, up1_ne, up1_at, bI_eq0, bI_eq1, or_true, true_or, and_true, true_and, or_false, false_or, and_false, false_and, not_true_eq_false, not_false_eq_true, if_true, if_false,  decide_true, decide_false, bI_t, bI_f, Nat.add_sub_cancel, Nat.zero_add, Nat.add_zero, Nat.mul_zero, upd_eq, upd_ne, a, e2, d3, h48]
    · simp (disch := omega) only [↓nm_s, ↓bnd_s, ↓reduceIte, nI_add, pk_mul, nI_subdiv, nI_sub', nI_m1, nI_0m1, nI_clamp, gdi_nI, gdz_nI, nI_div, nrem, nI_ltI, nI_leI, nI_eq, leT, leF, ltT, ltF, eqT, eqF, neT, neF, z0, m1lt0, m1lt, m1le, nI_ne_neg, neg_ne_nI, embP_a, embL_a, embL_up, embL_up1, up2_ne, up2_at, up2_o, up1_ne, up1_at, bI_eq0, bI_eq1, or_true, true_or, and_true, true_and, or_false, false_or, and_false, false_and, not_true_eq_false, not_false_eq_true, if_true, if_false,  decide_true, decide_false, bI_t, bI_f, Nat.add_sub_cancel, Nat.zero_add, Nat.add_zero, Nat.mul_zero, upd_eq, upd_ne, a, e2, d3, h48]
def addM (p : Nx) (u : Nat) (x : Nx) (k s : Nat) : Nat := if x 1 k = x 2 k then (if s = (if k = 0 ∨ sWait x k ≠ 0 then 1 else 0) then u - x 8 0 else 0) else if s = 2 then min u (x 3 k - p 0 k) - x 8 0 else if s = 3 then u - x 8 0 - (min u (x 3 k - p 0 k) - x 8 0) else 0
theorem addM_o {p x y : Nx} {u k s : Nat} (h : ∀ a i, a ≠ 6 → y a i = x a i) : addM p u y k s = addM p u x k s := by
  unfold addM sWait
  rw [h 1 k (by omega), h 2 k (by omega), h 3 k (by omega), h 8 0 (by omega), h 2 (k - 1) (by omega)]
theorem mIf_6 {p x : Nx} {u k s j : Nat} (hs : s < 4) : mIf p u x j 6 (k * 4 + s) = x 6 (k * 4 + s) + if k = j then addM p u x k s else 0 := by
  unfold mIf addM
  by_cases c : x 1 j = x 2 j
  · rw [if_pos c, up2_if]
    by_cases e : k = j
    · subst e
      rw [if_pos rfl, if_pos c]
      by_cases z : k = 0 ∨ sWait x k ≠ 0
      · simp only [if_pos z]
        by_cases y : s = 1
        · rw [if_pos (by omega), if_pos y, y]
        · rw [if_neg (by omega), if_neg y]; rfl
      · simp only [if_neg z]
        by_cases y : s = 0
        · rw [if_pos (by omega), if_pos y, y]
        · rw [if_neg (by omega), if_neg y]; rfl
    · rw [if_neg e, if_neg]
      · rfl
      · split <;> omega
  · rw [if_neg c, up2_if, up2_if]
    by_cases e : k = j
    · subst e
      rw [if_pos rfl, if_neg c]
      by_cases y : s = 2
      · rw [if_neg (by omega), if_pos (by omega), if_pos y, y]
      · rw [if_neg y]
        by_cases y3 : s = 3
        · rw [if_pos (by omega), if_pos y3, y3]
        · rw [if_neg (by omega), if_neg (by omega), if_neg y3]; rfl
    · rw [if_neg e, if_neg (by omega), if_neg (by omega)]; rfl
theorem upw_6 {p : Nx} {u k s : Nat} (hs : s < 4) : ∀ {n l : Nat} {x : Nx}, upw (mIf p u) l n x 6 (k * 4 + s) = x 6 (k * 4 + s) + if l ≤ k ∧ k < l + n then addM p u x k s else 0
  | 0, l, x => by
    rw [if_neg (by omega)]; rfl
  | n + 1, l, x => by
    show upw (mIf p u) (l + 1) n (mIf p u x l) 6 (k * 4 + s) = _
    rw [upw_6 hs, mIf_6 hs, addM_o (y := mIf p u x l) (x := x) (fun a i h => mIf_o h)]
    by_cases e : k = l
    · subst e
      rw [if_pos rfl, if_neg (by omega), if_pos (by omega)]; rfl
    · rw [if_neg e]
      by_cases z : l ≤ k ∧ k < l + (n + 1)
      · rw [if_pos z, if_pos (by omega)]; rfl
      · rw [if_neg z, if_neg (by omega)]
theorem sMin_6 {p x : Nx} {u k s : Nat} (hk : k < p 6 0) (hs : s < 4) : sMin p u x 6 (k * 4 + s) = x 6 (k * 4 + s) + addM p u x k s := by
  unfold sMin
  rw [upw_6 hs, if_pos (by omega)]
/-- one station's minutes -/
theorem w_one {p g x : Nx} {S : Nat → Int32} {k u N : Nat} {K : (Nat → Int32) → Int32 → Int32 → Option (Nat → Int32)} (hp : PI p) (hx : LI p x) (hu : u < 2 ^ 30) (hT : x 8 0 ≤ u) (hk : k < p 6 0) (hS1 : S 1 = nI (p 6 0)) (hdo : fX6_doing S (nI k) = some (nI (sState p x k))) (h2 : x 1 k ≠ x 2 k → S (53 + 9 * k + 2) = nI (x 3 k - p 0 k)) (h48 : S 48 = nI (x 8 0)) : ∃ T, fX6_waits_2b N K S (nI (u - x 8 0)) (nI k) = K T (nI (u - x 8 0)) (nI (k + 1)) ∧ (∀ j, (∀ s, s < 4 → j ≠ 53 + 9 * k + 5 + s) → T j = S j) ∧ ∀ s, s < 4 → T (53 + 9 * k + 5 + s) = S (53 + 9 * k + 5 + s) + nI (addM p u x k s) := by
  have hn := hp.n
  have e2 := m_its (S := S) (k := k) (c := 2) (by omega)
  have n0 : ∀ z : Int32, z + nI 0 = z := fun z => by rw [← z0]; exact Int32.add_zero z
  unfold sState at hdo
  by_cases c : x 1 k = x 2 k
  · rw [if_pos c] at hdo
    generalize hst : (if k = 0 ∨ sWait x k ≠ 0 then 1 else 0) = st at hdo
    have hst2 : st = 0 ∨ st = 1 := by rw [← hst]; split <;> omega
    refine ⟨upd (upd S (53 + 9 * k + 5 + st) (S (53 + 9 * k + 5 + st) + nI (u - x 8 0))) (53 + 9 * k + 5 + 3) (S (53 + 9 * k + 5 + 3) + nI (u - x 8 0 - (u - x 8 0))), ?_, ?_, ?_⟩
    · unfold fX6_waits_2b
      simp (disch := omega) only [↓nm_s, ↓bnd_s, ↓reduceIte, nI_add, pk_mul, nI_subdiv, nI_sub', nI_m1, nI_0m1, nI_clamp, gdi_nI, gdz_nI, nI_div, nrem, nI_ltI, nI_leI, nI_eq, leT, leF, ltT, ltF, eqT, eqF, neT, neF, z0, m1lt0, m1lt, m1le, nI_ne_neg, neg_ne_nI, embP_a, embL_a, embL_up, embL_up1, up2_ne, up2_at, up2_o, up1_ne, up1_at, bI_eq0, bI_eq1, or_true, true_or, and_true, true_and, or_false, false_or, and_false, false_and, not_true_eq_false, not_false_eq_true, if_true, if_false,  decide_true, decide_false, bI_t, bI_f, Nat.add_sub_cancel, Nat.zero_add, Nat.add_zero, Nat.mul_zero, upd_eq, upd_ne, hS1, hdo, fX6_waits_49, fX6_waits_50]
    · intro j hj
      rw [upd_ne (hj 3 (by omega)), upd_ne (hj st (by omega))]
    · intro s hs
      unfold addM
      rw [if_pos c, hst]
      by_cases y : s = st
      · subst y
        rw [if_pos rfl, upd_ne (by omega), upd_eq rfl]
      · rw [if_neg y]
        by_cases y3 : s = 3
        · subst y3
          rw [upd_eq rfl, Nat.sub_self]
        · rw [upd_ne (by omega), upd_ne (by omega), n0]
  · rw [if_neg c] at hdo
    have d2 := h2 c
    have he := hx.e hk c
    by_cases d : x 3 k - p 0 k ≤ x 8 0
    · rw [if_pos d] at hdo
      refine ⟨upd (upd S (53 + 9 * k + 5 + 3) (S (53 + 9 * k + 5 + 3) + nI (u - x 8 0))) (53 + 9 * k + 5 + 3) (S (53 + 9 * k + 5 + 3) + nI (u - x 8 0) + nI (u - x 8 0 - (u - x 8 0))), ?_, ?_, ?_⟩
      · unfold fX6_waits_2b
        simp (disch := omega) only [↓nm_s, ↓bnd_s, ↓reduceIte, nI_add, pk_mul, nI_subdiv, nI_sub', nI_m1, nI_0m1, nI_clamp, gdi_nI, gdz_nI, nI_div, nrem, nI_ltI, nI_leI, nI_eq, leT, leF, ltT, ltF, eqT, eqF, neT, neF, z0, m1lt0, m1lt, m1le, nI_ne_neg, neg_ne_nI, embP_a, embL_a, embL_up, embL_up1, up2_ne, up2_at, up2_o, up1_ne, up1_at, bI_eq0, bI_eq1, or_true, true_or, and_true, true_and, or_false, false_or, and_false, false_and, not_true_eq_false, not_false_eq_true, if_true, if_false,  decide_true, decide_false, bI_t, bI_f, Nat.add_sub_cancel, Nat.zero_add, Nat.add_zero, Nat.mul_zero, upd_eq, upd_ne, hS1, hdo, fX6_waits_49, fX6_waits_50]
      · intro j hj
        rw [upd_ne (hj 3 (by omega)), upd_ne (hj 3 (by omega))]
      · intro s hs
        unfold addM
        rw [if_neg c, show min u (x 3 k - p 0 k) - x 8 0 = 0 from by omega]
        by_cases y : s = 3
        · subst y
          rw [upd_eq rfl, if_neg (by omega), if_pos rfl, Nat.sub_self, n0]; rfl
        · rw [upd_ne (by omega), upd_ne (by omega), if_neg y]
          by_cases y2 : s = 2
          · rw [if_pos y2, n0]
          · rw [if_neg y2, n0]
    · rw [if_neg d] at hdo
      refine ⟨upd (upd S (53 + 9 * k + 5 + 2) (S (53 + 9 * k + 5 + 2) + nI (min u (x 3 k - p 0 k) - x 8 0))) (53 + 9 * k + 5 + 3) (S (53 + 9 * k + 5 + 3) + nI (u - x 8 0 - (min u (x 3 k - p 0 k) - x 8 0))), ?_, ?_, ?_⟩
      · unfold fX6_waits_2b
        by_cases z : x 3 k - p 0 k < u
        · rw [Nat.min_eq_right (by omega)]
          simp (disch := omega) only [↓nm_s, ↓bnd_s, ↓reduceIte, nI_add, pk_mul, nI_subdiv, nI_sub', nI_m1, nI_0m1, nI_clamp, gdi_nI, gdz_nI, nI_div, nrem, nI_ltI, nI_leI, nI_eq, leT, leF, ltT, ltF, eqT, eqF, neT, neF, z0, m1lt0, m1lt, m1le, nI_ne_neg, neg_ne_nI, embP_a, embL_a, embL_up, embL_up1, up2_ne, up2_at, up2_o, up1_ne, up1_at, bI_eq0, bI_eq1, or_true, true_or, and_true, true_and, or_false, false_or, and_false, false_and, not_true_eq_false, not_false_eq_true, if_true, if_false,  decide_true, decide_false, bI_t, bI_f, Nat.add_sub_cancel, Nat.zero_add, Nat.add_zero, Nat.mul_zero, upd_eq, upd_ne, hS1, hdo, e2, d2, h48, fX6_waits_49, fX6_waits_50]
        · rw [Nat.min_eq_left (by omega)]
          simp (disch := omega) only [↓nm_s, ↓bnd_s, ↓reduceIte, nI_add, pk_mul, nI_subdiv, nI_sub', nI_m1, nI_0m1, nI_clamp, gdi_nI, gdz_nI, nI_div, nrem, nI_ltI, nI_leI, nI_eq, leT, leF, ltT, ltF, eqT, eqF, neT, neF, z0, m1lt0, m1lt, m1le, nI_ne_neg, neg_ne_nI, embP_a, embL_a, embL_up, embL_up1, up2_ne, up2_at, up2_o, up1_ne, up1_at, bI_eq0, bI_eq1, or_true, true_or, and_true, true_and, or_false, false_or, and_false, false_and, not_true_eq_false, not_false_eq_true, if_true, if_false,  decide_true, decide_false, bI_t, bI_f, Nat.add_sub_cancel, Nat.zero_add, Nat.add_zero, Nat.mul_zero, upd_eq, upd_ne, hS1, hdo, e2, d2, h48, fX6_waits_49, fX6_waits_50]
      · intro j hj
        rw [upd_ne (hj 3 (by omega)), upd_ne (hj 2 (by omega))]
      · intro s hs
        unfold addM
        rw [if_neg c]
        by_cases y : s = 2
        · subst y
          rw [if_pos rfl, upd_ne (by omega), upd_eq rfl]
        · rw [if_neg y]
          by_cases y3 : s = 3
          · subst y3
            rw [if_pos rfl, upd_eq rfl]
          · rw [if_neg y3, upd_ne (by omega), upd_ne (by omega), n0]
/-- rows that differ in minutes alone -/
theorem RelS_sum {p g x : Nx} {S T : Nat → Int32} (hp : PI p) (hg : GI p g) (hx : LI p x) (h : RelS p g x S) (hT : ∀ j, (∀ k s, k < 6 → s < 4 → j ≠ 53 + 9 * k + 5 + s) → T j = S j) : RelS p g x T := by
  have hn := hp.n
  have hq := hp.q
  obtain ⟨hst, hgl, hds⟩ := h
  refine ⟨Stat.mv hp hg hst (fun _ _ => rfl) (fun j hj _ => hT j (fun _ _ _ _ => by omega)), ⟨⟨?_, ?_, ?_, ?_, ?_⟩, fun l hl => ?_⟩, fun k hk => ?_⟩
  · rw [hT _ (fun _ _ _ _ => by omega)]; exact hgl.1.1
  · rw [hT _ (fun _ _ _ _ => by omega)]; exact hgl.1.2.1
  · rw [hT _ (fun _ _ _ _ => by omega)]; exact hgl.1.2.2.1
  · rw [hT _ (fun _ _ _ _ => by omega)]; exact hgl.1.2.2.2.1
  · rw [hT _ (fun _ _ _ _ => by omega)]; exact hgl.1.2.2.2.2
  · rw [hT _ (fun _ _ _ _ => by omega)]; exact hgl.2 l hl
  · exact Dst.mv (x := x) (S := S) (sWait_20 hp hx hk) (hds k hk) rfl rfl rfl rfl rfl (fun _ _ _ _ => rfl) (fun c hc => hT _ (fun _ _ _ _ => by omega)) (fun c hc => hT _ (fun _ _ _ _ => by omega)) (hx.k hk).1
theorem w_loop {p g x : Nx} {u N : Nat} (hp : PI p) (hg : GI p g) (hx : LI p x) (hu : u < 2 ^ 30) (hT : x 8 0 ≤ u) : ∀ {d l f : Nat} {S : Nat → Int32}, d < f → l + d = p 6 0 → RelS p g x S → ∃ T, itn (fX6_waits_2b N) (fun _ _ _ => none) f S (nI (u - x 8 0)) (nI l) = some (upd T 48 (nI u)) ∧ (∀ j, (∀ k s, k < 6 → s < 4 → j ≠ 53 + 9 * k + 5 + s) → T j = S j) ∧ (∀ k s, k < l → s < 4 → T (53 + 9 * k + 5 + s) = S (53 + 9 * k + 5 + s)) ∧ ∀ k s, l ≤ k → k < p 6 0 → s < 4 → T (53 + 9 * k + 5 + s) = S (53 + 9 * k + 5 + s) + nI (addM p u x k s)
  | _, _, 0, _, h, _, _ => by omega
  | 0, l, f + 1, S, _, e, h => by
    have hn := hp.n
    have h1 := h.1.1.2.1
    have h48 := h.2.1.1.1
    refine ⟨S, ?_, fun _ _ => rfl, fun _ _ _ _ => rfl, fun k s h1 h2 => by omega⟩
    rw [itn_s]
    unfold fX6_waits_2b
    simp (disch := omega) only [↓nm_s, ↓bnd_s, ↓reduceIte, nI_add, pk_mul, nI_subdiv, nI_sub', nI_m1, nI_0m1, nI_clamp, gdi_nI, gdz_nI, nI_div, nrem, nI_ltI, nI_leI, nI_eq, leT, leF, ltT, ltF, eqT, eqF, neT, neF, z0, m1lt0, m1lt, m1le, nI_ne_neg, neg_ne_nI, embP_a, embL_a, embL_up, embL_up1, up2_ne, up2_at, up2_o, up1_ne, up1_at, bI_eq0, bI_eq1, or_true, true_or, and_true, true_and, or_false, false_or, and_false, false_and, not_true_eq_false, not_false_eq_true, if_true, if_false,  decide_true, decide_false, bI_t, bI_f, Nat.add_sub_cancel, Nat.zero_add, Nat.add_zero, Nat.mul_zero, upd_eq, upd_ne, h1, h48]
    rw [show x 8 0 + (u - x 8 0) = u from by omega]
  | d + 1, l, f + 1, S, hf, e, h => by
    have hn := hp.n
    obtain ⟨A, a1, a2, a3⟩ := w_one (g := g) (N := N) (K := itn (fX6_waits_2b N) (fun _ _ _ => none) f) hp hx hu hT (k := l) (by omega) h.1.1.2.1 (m_doing hp hx (by omega) (by omega) h) (fun z => ((h.2.2 l (by omega)).2.2.1 z).1) h.2.1.1.1
    have a2' : ∀ j, (∀ k s, k < 6 → s < 4 → j ≠ 53 + 9 * k + 5 + s) → A j = S j := fun j hj => a2 j (fun s hs => hj l s (by omega) hs)
    obtain ⟨T, t1, t2, t3, t4⟩ := w_loop (N := N) hp hg hx hu hT (d := d) (l := l + 1) (f := f) (S := A) (by omega) (by omega) (RelS_sum hp hg hx h a2')
    refine ⟨T, ?_, ?_, ?_, ?_⟩
    · rw [itn_s, a1]; exact t1
    · intro j hj
      rw [t2 j hj, a2' j hj]
    · intro k s hk hs
      rw [t3 k s (by omega) hs, a2 _ (fun s hs => by omega)]
    · intro k s h1 h2 hs
      by_cases z : k = l
      · subst z
        rw [t3 k s (by omega) hs, a3 s hs]
      · rw [t4 k s (by omega) h2 hs, a2 _ (fun s hs => by omega)]
theorem m_waits {p g x : Nx} {S : Nat → Int32} {u N : Nat} (hp : PI p) (hg : GI p g) (hN : 100 < N) (hx : LI p x) (hu : u < 2 ^ 30) (hT : x 8 0 ≤ u) (h : RelS p g x S) : ∃ T, fX6_waits N S (nI (u - x 8 0)) = some T ∧ RelS p g (up1 x 8 u) T ∧ (SumS p x S → SumS p (sMin p u x) T) := by
  have hn := hp.n
  have hq := hp.q
  obtain ⟨T, t1, t2, t3, t4⟩ := w_loop (N := N) hp hg hx hu hT (d := p 6 0) (l := 0) (f := N) (S := S) (by omega) (by omega) h
  have r := RelS_sum hp hg hx h t2
  refine ⟨upd T 48 (nI u), ?_, ?_, ?_⟩
  · unfold fX6_waits
    simp (disch := omega) only [↓nm_s, ↓bnd_s, ↓reduceIte, nI_add, pk_mul, nI_subdiv, nI_sub', nI_m1, nI_0m1, nI_clamp, gdi_nI, gdz_nI, nI_div, nrem, nI_ltI, nI_leI, nI_eq, leT, leF, ltT, ltF, eqT, eqF, neT, neF, z0, m1lt0, m1lt, m1le, nI_ne_neg, neg_ne_nI, embP_a, embL_a, embL_up, embL_up1, up2_ne, up2_at, up2_o, up1_ne, up1_at, bI_eq0, bI_eq1, or_true, true_or, and_true, true_and, or_false, false_or, and_false, false_and, not_true_eq_false, not_false_eq_true, if_true, if_false,  decide_true, decide_false, bI_t, bI_f, Nat.add_sub_cancel, Nat.zero_add, Nat.add_zero, Nat.mul_zero, upd_eq, upd_ne, fX6_waits_2, t1]
  · obtain ⟨hst, hgl, hds⟩ := r
    refine ⟨?_, ⟨⟨?_, ?_, ?_, ?_, ?_⟩, ?_⟩, ?_⟩
    · rw [up1_ne (by omega)]
      exact Stat.mv hp hg hst (fun l _ => up1_ne (by omega)) (fun j hj _ => upd_ne (by omega))
    · rw [up1_at, upd_eq rfl]
    · rw [up1_ne (by omega), upd_ne (by omega)]; exact hgl.1.2.1
    · rw [up1_ne (by omega), upd_ne (by omega)]; exact hgl.1.2.2.1
    · rw [up1_ne (by omega), upd_ne (by omega)]; exact hgl.1.2.2.2.1
    · rw [up1_ne (by omega), upd_ne (by omega)]; exact hgl.1.2.2.2.2
    · intro l hl
      unfold sFree
      rw [up1_ne (by omega), up1_ne (by omega), up1_ne (by omega), upd_ne (by omega)]
      exact hgl.2 l hl
    · intro k hk
      refine Dst.mv (x := x) (S := T) (sWait_20 hp hx hk) (hds k hk) (up1_ne (by omega)) (up1_ne (by omega)) (up1_ne (by omega)) (up1_ne (by omega)) ?_ (fun _ _ _ _ => up1_ne (by omega)) (fun c hc => upd_ne (by omega)) (fun c hc => upd_ne (by omega)) (hx.k hk).1
      unfold sWait
      rw [up1_ne (by omega), up1_ne (by omega)]
  · intro hs k s hk hs4
    rw [upd_ne (by omega), t4 k s (by omega) hk hs4, hs k s hk hs4, sMin_6 hk hs4, nI_add]
theorem m_next4 {p g x : Nx} {S : Nat → Int32} {N : Nat} (hp : PI p) (hx : LI p x) (hT : x 8 0 < 2 ^ 30) (h : RelS p g x S) : ∀ {d l f a : Nat} {r : Int32}, d < f → l + d = p 6 0 → (a = 2147483647 ∧ r = -1) ∨ (a < 2147483647 ∧ r = nI a) → ∃ r', itn (fX6_nextTime_4b N) (fun _ _ _ => none) f S r (nI l) = some r' ∧ ((nextF x l d a = 2147483647 ∧ r' = -1) ∨ (nextF x l d a < 2147483647 ∧ r' = nI (nextF x l d a)))
  | _, _, 0, _, _, h, _, _ => by omega
  | 0, l, f + 1, a, r, _, e, hr => by
    have hn := hp.n
    have h1 := h.1.1.2.1
    refine ⟨r, ?_, hr⟩
    rw [itn_s]
    unfold fX6_nextTime_4b
    simp (disch := omega) only [↓nm_s, ↓bnd_s, ↓reduceIte, nI_add, pk_mul, nI_subdiv, nI_sub', nI_m1, nI_0m1, nI_clamp, gdi_nI, gdz_nI, nI_div, nrem, nI_ltI, nI_leI, nI_eq, leT, leF, ltT, ltF, eqT, eqF, neT, neF, z0, m1lt0, m1lt, m1le, nI_ne_neg, neg_ne_nI, embP_a, embL_a, embL_up, embL_up1, up2_ne, up2_at, up2_o, up1_ne, up1_at, bI_eq0, bI_eq1, or_true, true_or, and_true, true_and, or_false, false_or, and_false, false_and, not_true_eq_false, not_false_eq_true, if_true, if_false,  decide_true, decide_false, bI_t, bI_f, Nat.add_sub_cancel, Nat.zero_add, Nat.add_zero, Nat.mul_zero, upd_eq, upd_ne, h1]
  | d + 1, l, f + 1, a, r, hf, e, hr => by
    have hn := hp.n
    have h1 := h.1.1.2.1
    have hd := h.2.2 l (by omega)
    have i := m_idle hp (k := l) (by omega) hd
    have e3 := m_its (S := S) (k := l) (c := 3) (by omega)
    rw [itn_s]
    unfold nextF
    by_cases c : x 1 l = x 2 l
    · rw [if_pos c]
      obtain ⟨r', t1, t2⟩ := m_next4 (N := N) hp hx hT h (d := d) (l := l + 1) (f := f) (a := a) (r := r) (by omega) (by omega) hr
      refine ⟨r', ?_, t2⟩
      generalize itn (fX6_nextTime_4b N) (fun _ _ _ => none) f = K at t1 ⊢
      unfold fX6_nextTime_4b
      simp (disch := omega) only [↓nm_s, ↓bnd_s, ↓reduceIte, nI_add, pk_mul, nI_subdiv, nI_sub', nI_m1, nI_0m1, nI_clamp, gdi_nI, gdz_nI, nI_div, nrem, nI_ltI, nI_leI, nI_eq, leT, leF, ltT, ltF, eqT, eqF, neT, neF, z0, m1lt0, m1lt, m1le, nI_ne_neg, neg_ne_nI, embP_a, embL_a, embL_up, embL_up1, up2_ne, up2_at, up2_o, up1_ne, up1_at, bI_eq0, bI_eq1, or_true, true_or, and_true, true_and, or_false, false_or, and_false, false_and, not_true_eq_false, not_false_eq_true, if_true, if_false,  decide_true, decide_false, bI_t, bI_f, Nat.add_sub_cancel, Nat.zero_add, Nat.add_zero, Nat.mul_zero, upd_eq, upd_ne, h1, i, fX6_nextTime_41, t1]
    · rw [if_neg c]
      have he := hx.e (k := l) (by omega) c
      have d3 := (hd.2.2.1 c).2.1
      by_cases z : a ≤ x 3 l
      · rw [if_pos z]
        obtain ⟨r', t1, t2⟩ := m_next4 (N := N) hp hx hT h (d := d) (l := l + 1) (f := f) (a := a) (r := r) (by omega) (by omega) hr
        refine ⟨r', ?_, t2⟩
        generalize itn (fX6_nextTime_4b N) (fun _ _ _ => none) f = K at t1 ⊢
        unfold fX6_nextTime_4b
        rcases hr with ⟨ra, rfl⟩ | ⟨ra, rfl⟩
        · omega
        · simp (disch := omega) only [↓nm_s, ↓bnd_s, ↓reduceIte, nI_add, pk_mul, nI_subdiv, nI_sub', nI_m1, nI_0m1, nI_clamp, gdi_nI, gdz_nI, nI_div, nrem, nI_ltI, nI_leI, nI_eq, leT, leF, ltT, ltF, eqT, eqF, neT, neF, z0, m1lt0, m1lt, m1le, nI_ne_neg, neg_ne_nI, embP_a, embL_a, embL_up, embL_up1, up2_ne, up2_at, up2_o, up1_ne, up1_at, bI_eq0, bI_eq1, or_true, true_or, and_true, true_and, or_false, false_or, and_false, false_and, not_true_eq_false, not_false_eq_true, if_true, if_false,  decide_true, decide_false, bI_t, bI_f, Nat.add_sub_cancel, Nat.zero_add, Nat.add_zero, Nat.mul_zero, upd_eq, upd_ne, h1, i, e3, d3, fX6_nextTime_41, t1]
      · rw [if_neg z]
        obtain ⟨r', t1, t2⟩ := m_next4 (N := N) hp hx hT h (d := d) (l := l + 1) (f := f) (a := x 3 l) (r := nI (x 3 l)) (by omega) (by omega) (Or.inr ⟨by omega, rfl⟩)
        refine ⟨r', ?_, t2⟩
        generalize itn (fX6_nextTime_4b N) (fun _ _ _ => none) f = K at t1 ⊢
        unfold fX6_nextTime_4b
        rcases hr with ⟨ra, rfl⟩ | ⟨ra, rfl⟩
        · simp (disch := omega) only [↓nm_s, ↓bnd_s, ↓reduceIte, nI_add, pk_mul, nI_subdiv, nI_sub', nI_m1, nI_0m1, nI_clamp, gdi_nI, gdz_nI, nI_div, nrem, nI_ltI, nI_leI, nI_eq, leT, leF, ltT, ltF, eqT, eqF, neT, neF, z0, m1lt0, m1lt, m1le, nI_ne_neg, neg_ne_nI, embP_a, embL_a, embL_up, embL_up1, up2_ne, up2_at, up2_o, up1_ne, up1_at, bI_eq0, bI_eq1, or_true, true_or, and_true, true_and, or_false, false_or, and_false, false_and, not_true_eq_false, not_false_eq_true, if_true, if_false,  decide_true, decide_false, bI_t, bI_f, Nat.add_sub_cancel, Nat.zero_add, Nat.add_zero, Nat.mul_zero, upd_eq, upd_ne, h1, i, fX6_nextTime_34, e3, d3, fX6_nextTime_41, t1]
        · simp (disch := omega) only [↓nm_s, ↓bnd_s, ↓reduceIte, nI_add, pk_mul, nI_subdiv, nI_sub', nI_m1, nI_0m1, nI_clamp, gdi_nI, gdz_nI, nI_div, nrem, nI_ltI, nI_leI, nI_eq, leT, leF, ltT, ltF, eqT, eqF, neT, neF, z0, m1lt0, m1lt, m1le, nI_ne_neg, neg_ne_nI, embP_a, embL_a, embL_up, embL_up1, up2_ne, up2_at, up2_o, up1_ne, up1_at, bI_eq0, bI_eq1, or_true, true_or, and_true, true_and, or_false, false_or, and_false, false_and, not_true_eq_false, not_false_eq_true, if_true, if_false,  decide_true, decide_false, bI_t, bI_f, Nat.add_sub_cancel, Nat.zero_add, Nat.add_zero, Nat.mul_zero, upd_eq, upd_ne, h1, i, fX6_nextTime_34, e3, d3, fX6_nextTime_41, t1]
theorem m_next {p g x : Nx} {S : Nat → Int32} {N : Nat} (hp : PI p) (hN : 100 < N) (hx : LZ p x) (hT : x 8 0 < 2 ^ 30) (h : RelS p g x S) : fX6_nextTime N S = some (nI (sNext p x)) := by
  have hn := hp.n
  have hb := sNext_b hp hx hT
  obtain ⟨r, t1, t2⟩ := m_next4 (N := N) hp hx.1 hT h (d := p 6 0) (l := 0) (f := N) (a := 2147483647) (r := -1) (by omega) (by omega) (Or.inl ⟨rfl, rfl⟩)
  unfold sNext at hb ⊢
  rcases t2 with ⟨t2, rfl⟩ | ⟨t2, rfl⟩
  · omega
  · unfold fX6_nextTime
    simp (disch := omega) only [↓nm_s, ↓bnd_s, ↓reduceIte, nI_add, pk_mul, nI_subdiv, nI_sub', nI_m1, nI_0m1, nI_clamp, gdi_nI, gdz_nI, nI_div, nrem, nI_ltI, nI_leI, nI_eq, leT, leF, ltT, ltF, eqT, eqF, neT, neF, z0, m1lt0, m1lt, m1le, nI_ne_neg, neg_ne_nI, embP_a, embL_a, embL_up, embL_up1, up2_ne, up2_at, up2_o, up1_ne, up1_at, bI_eq0, bI_eq1, or_true, true_or, and_true, true_and, or_false, false_or, and_false, false_and, not_true_eq_false, not_false_eq_true, if_true, if_false,  decide_true, decide_false, bI_t, bI_f, Nat.add_sub_cancel, Nat.zero_add, Nat.add_zero, Nat.mul_zero, upd_eq, upd_ne, fX6_nextTime_4, t1]
/-- a step on paper: minutes don't matter -/
theorem m_step {p g x : Nx} {S : Nat → Int32} {N : Nat} (hp : PI p) (hg : GI p g) (hN : 100 < N) (hx : LZ p x) (hT : x 8 0 < 2 ^ 29) (h : RelS p g x S) : ∃ T, fX6_steps N S = some (nI (sStep p x 2 (p 6 0 - 1) - x 2 (p 6 0 - 1)), T) ∧ RelS p g (sStep p x) T := by
  have hb := sNext_b hp hx (by omega)
  have h48 := h.2.1.1.1
  have nx := m_next hp hN hx (by omega) h
  obtain ⟨A, a1, a2, _⟩ := m_waits (u := sNext p x) (N := N) hp hg hN hx.1 (by omega) (by omega) h
  obtain ⟨T, t1, t2, _⟩ := m_rounds (N := N) hp hg hN (LI_step hp hx (by omega)) (by rw [up1_at]; omega) a2
  rw [up1_ne (by omega)] at t1
  refine ⟨T, ?_, t2⟩
  unfold fX6_steps
  simp (disch := omega) only [↓nm_s, ↓bnd_s, ↓reduceIte, nI_add, pk_mul, nI_subdiv, nI_sub', nI_m1, nI_0m1, nI_clamp, gdi_nI, gdz_nI, nI_div, nrem, nI_ltI, nI_leI, nI_eq, leT, leF, ltT, ltF, eqT, eqF, neT, neF, z0, m1lt0, m1lt, m1le, nI_ne_neg, neg_ne_nI, embP_a, embL_a, embL_up, embL_up1, up2_ne, up2_at, up2_o, up1_ne, up1_at, bI_eq0, bI_eq1, or_true, true_or, and_true, true_and, or_false, false_or, and_false, false_and, not_true_eq_false, not_false_eq_true, if_true, if_false,  decide_true, decide_false, bI_t, bI_f, Nat.add_sub_cancel, Nat.zero_add, Nat.add_zero, Nat.mul_zero, upd_eq, upd_ne, nx, h48, a1, t1]
  rfl
/-- a step of the works itself -/
theorem m_stepM {p g x : Nx} {S : Nat → Int32} {N : Nat} (hp : PI p) (hg : GI p g) (hN : 100 < N) (hx : LZ p x) (hT : x 8 0 < 2 ^ 29) (h : RelS p g x S) (hs : SumS p x S) : ∃ T, fX6_steps N S = some (nI (sMove1 p (sNext p x) x 2 (p 6 0 - 1) - x 2 (p 6 0 - 1)), T) ∧ RelS p g (sMove1 p (sNext p x) x) T ∧ SumS p (sMove1 p (sNext p x) x) T := by
  have hb := sNext_b hp hx (by omega)
  have h48 := h.2.1.1.1
  have nx := m_next hp hN hx (by omega) h
  obtain ⟨A, a1, a2, a3⟩ := m_waits (u := sNext p x) (N := N) hp hg hN hx.1 (by omega) (by omega) h
  have ag : Agr (up1 x 8 (sNext p x)) (up1 (sMin p (sNext p x) x) 8 (sNext p x)) := by
    refine Agr.of6 (fun a i ha => ?_)
    by_cases c : a = 8
    · subst c; rw [up1_at, up1_at]
    · rw [up1_ne c, up1_ne c, sMin_o ha]
  obtain ⟨T, t1, t2, t3⟩ := m_rounds (N := N) hp hg hN (LI_move1 hp hx (u := sNext p x) (by omega) (by omega)) (by rw [up1_at]; omega) (RelS_agr hp ag a2)
  rw [up1_ne (by omega), sMin_o (by omega)] at t1
  refine ⟨T, ?_, t2, ?_⟩
  · unfold fX6_steps
    simp (disch := omega) only [↓nm_s, ↓bnd_s, ↓reduceIte, nI_add, pk_mul, nI_subdiv, nI_sub', nI_m1, nI_0m1, nI_clamp, gdi_nI, gdz_nI, nI_div, nrem, nI_ltI, nI_leI, nI_eq, leT, leF, ltT, ltF, eqT, eqF, neT, neF, z0, m1lt0, m1lt, m1le, nI_ne_neg, neg_ne_nI, embP_a, embL_a, embL_up, embL_up1, up2_ne, up2_at, up2_o, up1_ne, up1_at, bI_eq0, bI_eq1, or_true, true_or, and_true, true_and, or_false, false_or, and_false, false_and, not_true_eq_false, not_false_eq_true, if_true, if_false,  decide_true, decide_false, bI_t, bI_f, Nat.add_sub_cancel, Nat.zero_add, Nat.add_zero, Nat.mul_zero, upd_eq, upd_ne, nx, h48, a1, t1]
    rfl
  · refine SumS.o ((a3 hs).mv hp t3) (fun i => ?_)
    unfold sMove1
    rw [round_o (by omega), up1_ne (by omega)]
end
section
/-! looks: the class's side of the pace -/
def left (x : Nx) (k : Nat) : Nat := if x 1 k = x 2 k then 0 else x 3 k - x 8 0
def place (p x : Nx) : Nat := if p 9 0 * x 7 0 = 0 then 0 else x 1 0 % (p 9 0 * x 7 0)
def bzF (x : Nx) : Nat → Nat → Nat → Nat
  | _, 0, a => a
  | l, d + 1, a => bzF x (l + 1) d (a * 128 + left x l)
def qzF (x : Nx) : Nat → Nat → Nat → Nat
  | _, 0, a => a
  | l, d + 1, a => qzF x (l + 1) d (a * 32 + sWait x l)
def bz (p x : Nx) : Nat := bzF x 0 (p 6 0) (place p x)
def qz (p x : Nx) : Nat := qzF x 0 (p 6 0) 0
theorem left_lt {p x : Nx} (hx : LI p x) {k : Nat} (hk : k < p 6 0) : left x k < 128 := by
  unfold left
  by_cases c : x 1 k = x 2 k
  · rw [if_pos c]; omega
  · rw [if_neg c]
    have := hx.e hk c
    omega
theorem place_lt {p x : Nx} (hp : PI p) (hx : LI p x) : place p x < 1024 := by
  unfold place
  by_cases c : p 9 0 * x 7 0 = 0
  · rw [if_pos c]; omega
  · rw [if_neg c]
    have h1 : p 9 0 * x 7 0 ≤ 120 * 5 := Nat.mul_le_mul hp.pl hx.f.2
    have h2 : x 1 0 % (p 9 0 * x 7 0) < p 9 0 * x 7 0 := Nat.mod_lt _ (by omega)
    omega
theorem pow1 (b : Nat) {d : Nat} (hb : 0 < b) : 1 ≤ b ^ d := Nat.pow_pos hb
theorem bnd128 {a v d M : Nat} (h : (a + 1) * 128 ^ (d + 1) ≤ M) (hv : v < 128) : (a * 128 + v + 1) * 128 ^ d ≤ M ∧ a * 128 < M := by
  have e : (a + 1) * 128 ^ (d + 1) = (a * 128 + 128) * 128 ^ d := by
    rw [Nat.pow_succ, Nat.mul_comm (128 ^ d) 128, ← Nat.mul_assoc]
    congr 1
    omega
  have h1 : (a * 128 + v + 1) * 128 ^ d ≤ (a * 128 + 128) * 128 ^ d := Nat.mul_le_mul_right _ (by omega)
  have h2 : (a * 128 + 128) * 1 ≤ (a * 128 + 128) * 128 ^ d := Nat.mul_le_mul_left _ (pow1 128 (by omega))
  omega
theorem bnd32 {a v d M : Nat} (h : (a + 1) * 32 ^ (d + 1) ≤ M) (hv : v < 32) : (a * 32 + v + 1) * 32 ^ d ≤ M ∧ a * 32 < M := by
  have e : (a + 1) * 32 ^ (d + 1) = (a * 32 + 32) * 32 ^ d := by
    rw [Nat.pow_succ, Nat.mul_comm (32 ^ d) 32, ← Nat.mul_assoc]
    congr 1
    omega
  have h1 : (a * 32 + v + 1) * 32 ^ d ≤ (a * 32 + 32) * 32 ^ d := Nat.mul_le_mul_right _ (by omega)
  have h2 : (a * 32 + 32) * 1 ≤ (a * 32 + 32) * 32 ^ d := Nat.mul_le_mul_left _ (pow1 32 (by omega))
  omega
theorem lN_shl7 {a : Nat} (h : a * 128 < 2 ^ 60) : lN a <<< ((nI 7).toInt64 &&& 63) = lN (a * 128) := by
  apply Int64.toInt_inj.mp
  have h1 : (lN a).toInt = (a : Int) := pk_lT (by omega)
  rw [Jvm.Kit.i64_shl (lN a) _ (k := 7) (by decide) (by rw [h1]; omega) (by rw [h1]; omega), h1, pk_lT (by omega)]
  omega
theorem nI_shl5 {a : Nat} (h : a * 32 < 2 ^ 32) : nI a <<< (nI 5 &&& 31) = nI (a * 32) := pk_shlN _ 5 (by decide) h
theorem s_look15 {p x : Nx} {F : Rc} {FL : RcL} {n N : Nat} (hp : PI p) (hx : LI p x) (hT : x 8 0 < 2 ^ 29) (hn : n < 1500) : ∀ {d l u a b : Nat}, d < u → l + d = p 6 0 → (a + 1) * 128 ^ d ≤ 2 ^ 60 → (b + 1) * 32 ^ d ≤ 2 ^ 31 → itn (fX2_lookAround_15b N) (fun _ _ _ _ _ _ _ _ => none) u (embP p) (embL x) F FL (nI n) (lN a) (nI b) (nI l) = some (va_up (va_up F 2 (upd (F 2) n (nI (qzF x l d b)))) 3 (upd (va_up F 2 (upd (F 2) n (nI (qzF x l d b))) 3) n (nI (x 8 0))), va_up FL 1 (vp_updL (FL 1) n (lN (bzF x l d a))))
  | _, _, 0, _, _, h, _, _, _ => by omega
  | 0, l, u + 1, a, b, _, e, ha, hb => by
    have hn6 := hp.n
    rw [itn_s]
    unfold fX2_lookAround_15b bzF qzF
    simp (disch := omega) only [↓nm_s, ↓bnd_s, ↓reduceIte, nI_add, pk_mul, nI_subdiv, nI_sub', nI_m1, nI_0m1, nI_clamp, gdi_nI, gdz_nI, nI_div, nrem, nI_ltI, nI_leI, nI_eq, leT, leF, ltT, ltF, eqT, eqF, neT, neF, z0, m1lt0, m1lt, m1le, nI_ne_neg, neg_ne_nI, embP_a, embL_a, embL_up, embL_up1, up2_ne, up2_at, up2_o, up1_ne, up1_at, bI_eq0, bI_eq1, or_true, true_or, and_true, true_and, or_false, false_or, and_false, false_and, not_true_eq_false, not_false_eq_true, if_true, if_false,  decide_true, decide_false, bI_t, bI_f, Nat.add_sub_cancel, Nat.zero_add, Nat.add_zero, Nat.mul_zero, upd_eq, upd_ne]
  | d + 1, l, u + 1, a, b, hu, e, ha, hb => by
    have hn6 := hp.n
    have h3 := hx.k (k := l) (by omega)
    have hl := left_lt hx (k := l) (by omega)
    have hw := sWait_20 hp hx (k := l) (by omega)
    have ba := bnd128 ha hl
    have bb := bnd32 hb (show sWait x l < 32 from by omega)
    have g := s_isIdle (x := x) (k := l) (by omega) (by omega) (by omega)
    have w := s_wait hp hx (by omega) (k := l) (by omega)
    have i := s_look15 (F := F) (FL := FL) (N := N) hp hx hT hn (d := d) (l := l + 1) (u := u) (a := a * 128 + left x l) (b := b * 32 + sWait x l) (by omega) (by omega) ba.1 bb.1
    have s1 := lN_shl7 (a := a) (by omega)
    have s2 := nI_shl5 (a := b) (by omega)
    rw [itn_s]
    generalize itn (fX2_lookAround_15b N) (fun _ _ _ _ _ _ _ _ => none) u = K at i ⊢
    unfold fX2_lookAround_15b bzF qzF
    unfold left at hl i ⊢
    by_cases c : x 1 l = x 2 l
    · rw [if_pos c] at i ⊢
      have l1 := nI_l (n := 0) (by omega)
      simp (disch := omega) only [↓nm_s, ↓bnd_s, ↓reduceIte, nI_add, pk_mul, nI_subdiv, nI_sub', nI_m1, nI_0m1, nI_clamp, gdi_nI, gdz_nI, nI_div, nrem, nI_ltI, nI_leI, nI_eq, leT, leF, ltT, ltF, eqT, eqF, neT, neF, z0, m1lt0, m1lt, m1le, nI_ne_neg, neg_ne_nI, embP_a, embL_a, embL_up, embL_up1, up2_ne, up2_at, up2_o, up1_ne, up1_at, bI_eq0, bI_eq1, or_true, true_or, and_true, true_and, or_false, false_or, and_false, false_and, not_true_eq_false, not_false_eq_true, if_true, if_false,  decide_true, decide_false, bI_t, bI_f, Nat.add_sub_cancel, Nat.zero_add, Nat.add_zero, Nat.mul_zero, upd_eq, upd_ne, g]
      unfold fX2_lookAround_64
      simp only [nm_s, w, bnd_s, s1, s2, l1, lN_add, nI_add]
      exact i
    · rw [if_neg c] at i hl ⊢
      have he := hx.e (k := l) (by omega) c
      have l1 := nI_l (n := x 3 l - x 8 0) (by omega)
      simp (disch := omega) only [↓nm_s, ↓bnd_s, ↓reduceIte, nI_add, pk_mul, nI_subdiv, nI_sub', nI_m1, nI_0m1, nI_clamp, gdi_nI, gdz_nI, nI_div, nrem, nI_ltI, nI_leI, nI_eq, leT, leF, ltT, ltF, eqT, eqF, neT, neF, z0, m1lt0, m1lt, m1le, nI_ne_neg, neg_ne_nI, embP_a, embL_a, embL_up, embL_up1, up2_ne, up2_at, up2_o, up1_ne, up1_at, bI_eq0, bI_eq1, or_true, true_or, and_true, true_and, or_false, false_or, and_false, false_and, not_true_eq_false, not_false_eq_true, if_true, if_false,  decide_true, decide_false, bI_t, bI_f, Nat.add_sub_cancel, Nat.zero_add, Nat.add_zero, Nat.mul_zero, upd_eq, upd_ne, g]
      unfold fX2_lookAround_64
      simp only [nm_s, w, bnd_s, s1, s2, l1, lN_add, nI_add]
      exact i
theorem s_place {p x : Nx} (hp : PI p) (hx : LI p x) (hT : x 8 0 < 2 ^ 29) : fX1_placeInRuns (embP p) (embL x) = some (nI (place p x)) := by
  have hn6 := hp.n
  have h3 := hx.k (k := 0) (by omega)
  have h1 : p 9 0 * x 7 0 ≤ 120 * 5 := Nat.mul_le_mul hp.pl hx.f.2
  unfold fX1_placeInRuns place
  by_cases c : p 9 0 * x 7 0 = 0
  · simp (disch := omega) only [↓nm_s, ↓bnd_s, ↓reduceIte, nI_add, pk_mul, nI_subdiv, nI_sub', nI_m1, nI_0m1, nI_clamp, gdi_nI, gdz_nI, nI_div, nrem, nI_ltI, nI_leI, nI_eq, leT, leF, ltT, ltF, eqT, eqF, neT, neF, z0, m1lt0, m1lt, m1le, nI_ne_neg, neg_ne_nI, embP_a, embL_a, embL_up, embL_up1, up2_ne, up2_at, up2_o, up1_ne, up1_at, bI_eq0, bI_eq1, or_true, true_or, and_true, true_and, or_false, false_or, and_false, false_and, not_true_eq_false, not_false_eq_true, if_true, if_false,  decide_true, decide_false, bI_t, bI_f, Nat.add_sub_cancel, Nat.zero_add, Nat.add_zero, Nat.mul_zero, upd_eq, upd_ne]
  · simp (disch := omega) only [↓nm_s, ↓bnd_s, ↓reduceIte, nI_add, pk_mul, nI_subdiv, nI_sub', nI_m1, nI_0m1, nI_clamp, gdi_nI, gdz_nI, nI_div, nrem, nI_ltI, nI_leI, nI_eq, leT, leF, ltT, ltF, eqT, eqF, neT, neF, z0, m1lt0, m1lt, m1le, nI_ne_neg, neg_ne_nI, embP_a, embL_a, embL_up, embL_up1, up2_ne, up2_at, up2_o, up1_ne, up1_at, bI_eq0, bI_eq1, or_true, true_or, and_true, true_and, or_false, false_or, and_false, false_and, not_true_eq_false, not_false_eq_true, if_true, if_false,  decide_true, decide_false, bI_t, bI_f, Nat.add_sub_cancel, Nat.zero_add, Nat.add_zero, Nat.mul_zero, upd_eq, upd_ne]
theorem s_look {p x : Nx} {F : Rc} {FL : RcL} {n N : Nat} (hp : PI p) (hN : 6 < N) (hx : LI p x) (hT : x 8 0 < 2 ^ 29) (hn : n < 1500) : fX2_lookAround N (embP p) (embL x) F FL (nI n) = some (va_up (va_up F 2 (upd (F 2) n (nI (qz p x)))) 3 (upd (F 3) n (nI (x 8 0))), va_up FL 1 (vp_updL (FL 1) n (lN (bz p x)))) := by
  have hn6 := hp.n
  have pl := place_lt hp hx
  have e6 : 128 ^ p 6 0 ≤ 128 ^ 6 := Nat.pow_le_pow_right (by omega) hn6.2
  have e7 : 32 ^ p 6 0 ≤ 32 ^ 6 := Nat.pow_le_pow_right (by omega) hn6.2
  have i := s_look15 (F := F) (FL := FL) (N := N) hp hx hT hn (d := p 6 0) (l := 0) (u := N) (a := place p x) (b := 0) (by omega) (by omega) (Nat.le_trans (Nat.mul_le_mul (show place p x + 1 ≤ 1024 from pl) e6) (by decide)) (Nat.le_trans (Nat.mul_le_mul (Nat.le_refl _) e7) (by decide))
  have pr := s_place hp hx hT
  rw [va_up_ne F _ (show (3 : Nat) ≠ 2 from by omega)] at i
  unfold fX2_lookAround bz qz
  simp only [pr, bnd_s, nm_s, nI_l (show place p x < 2 ^ 31 from by omega)]
  unfold fX2_lookAround_15
  exact i
/-! greatest divisors -/
theorem gcd_step (a b : Nat) : Nat.gcd b (a % b) = Nat.gcd a b := by
  rw [Nat.gcd_comm b, ← Nat.gcd_rec, Nat.gcd_comm]
theorem half {b r : Nat} (h0 : 0 < r) (h : r < b) : 2 * (b % r) < b := by
  have h1 : b % r < r := Nat.mod_lt _ h0
  have h2 : b % r = (b - r) % r := by
    rw [← Nat.mod_eq_sub_mod (by omega)]
  have h3 : (b - r) % r ≤ b - r := Nat.mod_le _ _
  omega
theorem s_gcd7 (N : Nat) : ∀ {j i a b u : Nat}, a < 2 ^ 31 → b < 2 ^ 31 → b < 2 ^ j → i + 2 * j ≤ 63 → 2 * j + 1 < u → itn (fX5_commonDivisor_7b N) (fun _ _ _ => none) u (nI a) (nI b) (nI i) = some (nI (max (Nat.gcd a b) 1))
  | 0, i, a, b, u, ha, hb, h1, h2, hu => by
    have hb0 : b = 0 := by simp at h1; exact h1
    subst hb0
    rw [itn_u _ _ (by omega)]
    unfold fX5_commonDivisor_7b
    rw [Nat.gcd_zero_right]
    by_cases c : a < 1
    · simp (disch := omega) only [↓nm_s, ↓bnd_s, ↓reduceIte, nI_add, pk_mul, nI_subdiv, nI_sub', nI_m1, nI_0m1, nI_clamp, gdi_nI, gdz_nI, nI_div, nrem, nI_ltI, nI_leI, nI_eq, leT, leF, ltT, ltF, eqT, eqF, neT, neF, z0, m1lt0, m1lt, m1le, nI_ne_neg, neg_ne_nI, embP_a, embL_a, embL_up, embL_up1, up2_ne, up2_at, up2_o, up1_ne, up1_at, bI_eq0, bI_eq1, or_true, true_or, and_true, true_and, or_false, false_or, and_false, false_and, not_true_eq_false, not_false_eq_true, if_true, if_false,  decide_true, decide_false, bI_t, bI_f, Nat.add_sub_cancel, Nat.zero_add, Nat.add_zero, Nat.mul_zero, upd_eq, upd_ne, fX5_commonDivisor_34]
      rw [Nat.max_eq_right (by omega)]
    · simp (disch := omega) only [↓nm_s, ↓bnd_s, ↓reduceIte, nI_add, pk_mul, nI_subdiv, nI_sub', nI_m1, nI_0m1, nI_clamp, gdi_nI, gdz_nI, nI_div, nrem, nI_ltI, nI_leI, nI_eq, leT, leF, ltT, ltF, eqT, eqF, neT, neF, z0, m1lt0, m1lt, m1le, nI_ne_neg, neg_ne_nI, embP_a, embL_a, embL_up, embL_up1, up2_ne, up2_at, up2_o, up1_ne, up1_at, bI_eq0, bI_eq1, or_true, true_or, and_true, true_and, or_false, false_or, and_false, false_and, not_true_eq_false, not_false_eq_true, if_true, if_false,  decide_true, decide_false, bI_t, bI_f, Nat.add_sub_cancel, Nat.zero_add, Nat.add_zero, Nat.mul_zero, upd_eq, upd_ne, fX5_commonDivisor_34]
      rw [Nat.max_eq_left (by omega)]
  | j + 1, i, a, b, u, ha, hb, h1, h2, hu => by
    by_cases z : b = 0
    · subst z
      rw [itn_u _ _ (by omega)]
      unfold fX5_commonDivisor_7b
      rw [Nat.gcd_zero_right]
      by_cases c : a < 1
      · simp (disch := omega) only [↓nm_s, ↓bnd_s, ↓reduceIte, nI_add, pk_mul, nI_subdiv, nI_sub', nI_m1, nI_0m1, nI_clamp, gdi_nI, gdz_nI, nI_div, nrem, nI_ltI, nI_leI, nI_eq, leT, leF, ltT, ltF, eqT, eqF, neT, neF, z0, m1lt0, m1lt, m1le, nI_ne_neg, neg_ne_nI, embP_a, embL_a, embL_up, embL_up1, up2_ne, up2_at, up2_o, up1_ne, up1_at, bI_eq0, bI_eq1, or_true, true_or, and_true, true_and, or_false, false_or, and_false, false_and, not_true_eq_false, not_false_eq_true, if_true, if_false,  decide_true, decide_false, bI_t, bI_f, Nat.add_sub_cancel, Nat.zero_add, Nat.add_zero, Nat.mul_zero, upd_eq, upd_ne, fX5_commonDivisor_34]
        rw [Nat.max_eq_right (by omega)]
      · simp (disch := omega) only [↓nm_s, ↓bnd_s, ↓reduceIte, nI_add, pk_mul, nI_subdiv, nI_sub', nI_m1, nI_0m1, nI_clamp, gdi_nI, gdz_nI, nI_div, nrem, nI_ltI, nI_leI, nI_eq, leT, leF, ltT, ltF, eqT, eqF, neT, neF, z0, m1lt0, m1lt, m1le, nI_ne_neg, neg_ne_nI, embP_a, embL_a, embL_up, embL_up1, up2_ne, up2_at, up2_o, up1_ne, up1_at, bI_eq0, bI_eq1, or_true, true_or, and_true, true_and, or_false, false_or, and_false, false_and, not_true_eq_false, not_false_eq_true, if_true, if_false,  decide_true, decide_false, bI_t, bI_f, Nat.add_sub_cancel, Nat.zero_add, Nat.add_zero, Nat.mul_zero, upd_eq, upd_ne, fX5_commonDivisor_34]
        rw [Nat.max_eq_left (by omega)]
    · have hr : a % b < b := Nat.mod_lt _ (by omega)
      have first : itn (fX5_commonDivisor_7b N) (fun _ _ _ => none) u (nI a) (nI b) (nI i) = itn (fX5_commonDivisor_7b N) (fun _ _ _ => none) (u - 1) (nI b) (nI (a % b)) (nI (i + 1)) := by
        rw [itn_u _ _ (by omega)]
        generalize itn (fX5_commonDivisor_7b N) (fun _ _ _ => none) (u - 1) = K
        unfold fX5_commonDivisor_7b
        simp (disch := omega) only [↓nm_s, ↓bnd_s, ↓reduceIte, nI_add, pk_mul, nI_subdiv, nI_sub', nI_m1, nI_0m1, nI_clamp, gdi_nI, gdz_nI, nI_div, nrem, nI_ltI, nI_leI, nI_eq, leT, leF, ltT, ltF, eqT, eqF, neT, neF, z0, m1lt0, m1lt, m1le, nI_ne_neg, neg_ne_nI, embP_a, embL_a, embL_up, embL_up1, up2_ne, up2_at, up2_o, up1_ne, up1_at, bI_eq0, bI_eq1, or_true, true_or, and_true, true_and, or_false, false_or, and_false, false_and, not_true_eq_false, not_false_eq_true, if_true, if_false,  decide_true, decide_false, bI_t, bI_f, Nat.add_sub_cancel, Nat.zero_add, Nat.add_zero, Nat.mul_zero, upd_eq, upd_ne]
      rw [first, ← gcd_step a b]
      by_cases y : a % b = 0
      · rw [y, itn_u _ _ (by omega), Nat.gcd_zero_right]
        unfold fX5_commonDivisor_7b
        simp (disch := omega) only [↓nm_s, ↓bnd_s, ↓reduceIte, nI_add, pk_mul, nI_subdiv, nI_sub', nI_m1, nI_0m1, nI_clamp, gdi_nI, gdz_nI, nI_div, nrem, nI_ltI, nI_leI, nI_eq, leT, leF, ltT, ltF, eqT, eqF, neT, neF, z0, m1lt0, m1lt, m1le, nI_ne_neg, neg_ne_nI, embP_a, embL_a, embL_up, embL_up1, up2_ne, up2_at, up2_o, up1_ne, up1_at, bI_eq0, bI_eq1, or_true, true_or, and_true, true_and, or_false, false_or, and_false, false_and, not_true_eq_false, not_false_eq_true, if_true, if_false,  decide_true, decide_false, bI_t, bI_f, Nat.add_sub_cancel, Nat.zero_add, Nat.add_zero, Nat.mul_zero, upd_eq, upd_ne, fX5_commonDivisor_34]
        rw [Nat.max_eq_left (by omega)]
      · have hh := half (b := b) (r := a % b) (by omega) hr
        have second : itn (fX5_commonDivisor_7b N) (fun _ _ _ => none) (u - 1) (nI b) (nI (a % b)) (nI (i + 1)) = itn (fX5_commonDivisor_7b N) (fun _ _ _ => none) (u - 2) (nI (a % b)) (nI (b % (a % b))) (nI (i + 2)) := by
          rw [itn_u _ _ (by omega), show u - 1 - 1 = u - 2 from by omega]
          generalize itn (fX5_commonDivisor_7b N) (fun _ _ _ => none) (u - 2) = K
          unfold fX5_commonDivisor_7b
          simp (disch := omega) only [↓nm_s, ↓bnd_s, ↓reduceIte, nI_add, pk_mul, nI_subdiv, nI_sub', nI_m1, nI_0m1, nI_clamp, gdi_nI, gdz_nI, nI_div, nrem, nI_ltI, nI_leI, nI_eq, leT, leF, ltT, ltF, eqT, eqF, neT, neF, z0, m1lt0, m1lt, m1le, nI_ne_neg, neg_ne_nI, embP_a, embL_a, embL_up, embL_up1, up2_ne, up2_at, up2_o, up1_ne, up1_at, bI_eq0, bI_eq1, or_true, true_or, and_true, true_and, or_false, false_or, and_false, false_and, not_true_eq_false, not_false_eq_true, if_true, if_false,  decide_true, decide_false, bI_t, bI_f, Nat.add_sub_cancel, Nat.zero_add, Nat.add_zero, Nat.mul_zero, upd_eq, upd_ne]
        rw [second, ← gcd_step b (a % b)]
        have pw : 2 ^ (j + 1) = 2 * 2 ^ j := by rw [Nat.pow_succ, Nat.mul_comm]
        exact s_gcd7 N (j := j) (i := i + 2) (by omega) (by omega) (by omega) (by omega) (by omega)
theorem s_gcd {a b N : Nat} (hN : 100 < N) (ha : a < 2 ^ 31) (hb : b < 2 ^ 25) : fX5_commonDivisor N (nI a) (nI b) = some (nI (max (Nat.gcd a b) 1)) := by
  have i := s_gcd7 N (j := 25) (i := 0) (a := a) (b := b) (u := N) ha (by omega) hb (by omega) (by omega)
  unfold fX5_commonDivisor
  simp (disch := omega) only [↓nm_s, ↓bnd_s, ↓reduceIte, nI_add, pk_mul, nI_subdiv, nI_sub', nI_m1, nI_0m1, nI_clamp, gdi_nI, gdz_nI, nI_div, nrem, nI_ltI, nI_leI, nI_eq, leT, leF, ltT, ltF, eqT, eqF, neT, neF, z0, m1lt0, m1lt, m1le, nI_ne_neg, neg_ne_nI, embP_a, embL_a, embL_up, embL_up1, up2_ne, up2_at, up2_o, up1_ne, up1_at, bI_eq0, bI_eq1, or_true, true_or, and_true, true_and, or_false, false_or, and_false, false_and, not_true_eq_false, not_false_eq_true, if_true, if_false,  decide_true, decide_false, bI_t, bI_f, Nat.add_sub_cancel, Nat.zero_add, Nat.add_zero, Nat.mul_zero, upd_eq, upd_ne, fX5_commonDivisor_7, i]
theorem m_gcdN : ∀ {n a b : Nat}, a < 2 ^ 31 → b < 2 ^ 31 → b < n → fX6_divisorN n (nI a) (nI b) = some (nI (Nat.gcd a b))
  | 0, _, _, _, _, h => by omega
  | n + 1, a, b, ha, hb, h => by
    unfold fX6_divisorN
    by_cases z : b = 0
    · subst z
      rw [Nat.gcd_zero_right]
      simp (disch := omega) only [↓nm_s, ↓bnd_s, ↓reduceIte, nI_add, pk_mul, nI_subdiv, nI_sub', nI_m1, nI_0m1, nI_clamp, gdi_nI, gdz_nI, nI_div, nrem, nI_ltI, nI_leI, nI_eq, leT, leF, ltT, ltF, eqT, eqF, neT, neF, z0, m1lt0, m1lt, m1le, nI_ne_neg, neg_ne_nI, embP_a, embL_a, embL_up, embL_up1, up2_ne, up2_at, up2_o, up1_ne, up1_at, bI_eq0, bI_eq1, or_true, true_or, and_true, true_and, or_false, false_or, and_false, false_and, not_true_eq_false, not_false_eq_true, if_true, if_false,  decide_true, decide_false, bI_t, bI_f, Nat.add_sub_cancel, Nat.zero_add, Nat.add_zero, Nat.mul_zero, upd_eq, upd_ne]
    · have hr : a % b < b := Nat.mod_lt _ (by omega)
      have i := m_gcdN (n := n) (a := b) (b := a % b) hb (by omega) (by omega)
      rw [gcd_step] at i
      simp (disch := omega) only [↓nm_s, ↓bnd_s, ↓reduceIte, nI_add, pk_mul, nI_subdiv, nI_sub', nI_m1, nI_0m1, nI_clamp, gdi_nI, gdz_nI, nI_div, nrem, nI_ltI, nI_leI, nI_eq, leT, leF, ltT, ltF, eqT, eqF, neT, neF, z0, m1lt0, m1lt, m1le, nI_ne_neg, neg_ne_nI, embP_a, embL_a, embL_up, embL_up1, up2_ne, up2_at, up2_o, up1_ne, up1_at, bI_eq0, bI_eq1, or_true, true_or, and_true, true_and, or_false, false_or, and_false, false_and, not_true_eq_false, not_false_eq_true, if_true, if_false,  decide_true, decide_false, bI_t, bI_f, Nat.add_sub_cancel, Nat.zero_add, Nat.add_zero, Nat.mul_zero, upd_eq, upd_ne, i]
theorem m_gcd {a b : Nat} (ha : a < 1500) (hb : b < 2 ^ 31) : fX6_divisor (nI a) (nI b) = some (nI (Nat.gcd a b)) := by
  unfold fX6_divisor
  show fX6_divisorN (1599 + 1) _ _ = _
  unfold fX6_divisorN
  by_cases z : b = 0
  · subst z
    rw [Nat.gcd_zero_right]
    simp (disch := omega) only [↓nm_s, ↓bnd_s, ↓reduceIte, nI_add, pk_mul, nI_subdiv, nI_sub', nI_m1, nI_0m1, nI_clamp, gdi_nI, gdz_nI, nI_div, nrem, nI_ltI, nI_leI, nI_eq, leT, leF, ltT, ltF, eqT, eqF, neT, neF, z0, m1lt0, m1lt, m1le, nI_ne_neg, neg_ne_nI, embP_a, embL_a, embL_up, embL_up1, up2_ne, up2_at, up2_o, up1_ne, up1_at, bI_eq0, bI_eq1, or_true, true_or, and_true, true_and, or_false, false_or, and_false, false_and, not_true_eq_false, not_false_eq_true, if_true, if_false,  decide_true, decide_false, bI_t, bI_f, Nat.add_sub_cancel, Nat.zero_add, Nat.add_zero, Nat.mul_zero, upd_eq, upd_ne]
  · have hr : a % b < b := Nat.mod_lt _ (by omega)
    have hr2 : a % b ≤ a := Nat.mod_le _ _
    have i := m_gcdN (n := 1599) (a := b) (b := a % b) hb (by omega) (by omega)
    rw [gcd_step] at i
    simp (disch := omega) only [↓nm_s, ↓bnd_s, ↓reduceIte, nI_add, pk_mul, nI_subdiv, nI_sub', nI_m1, nI_0m1, nI_clamp, gdi_nI, gdz_nI, nI_div, nrem, nI_ltI, nI_leI, nI_eq, leT, leF, ltT, ltF, eqT, eqF, neT, neF, z0, m1lt0, m1lt, m1le, nI_ne_neg, neg_ne_nI, embP_a, embL_a, embL_up, embL_up1, up2_ne, up2_at, up2_o, up1_ne, up1_at, bI_eq0, bI_eq1, or_true, true_or, and_true, true_and, or_false, false_or, and_false, false_and, not_true_eq_false, not_false_eq_true, if_true, if_false,  decide_true, decide_false, bI_t, bI_f, Nat.add_sub_cancel, Nat.zero_add, Nat.add_zero, Nat.mul_zero, upd_eq, upd_ne, i]
end
section
/-! the class's search -/
def pre (p x : Nx) : Nat → Nx
  | 0 => x
  | n + 1 => sLeap p (pre p x n)
def Stt (p : Nx) (C : Nat → Nat) (f : Nat) (x : Nx) : Prop := LZ p x ∧ x 8 0 = 0 ∧ x 2 (p 6 0 - 1) = 0 ∧ x 7 0 = f ∧ ∀ l, l < p 7 0 → x 4 l = C l
theorem Stt_new {p x : Nx} (hp : PI p) {C : Nat → Nat} {f : Nat} (hf : 1 ≤ f ∧ f ≤ 5) (hC : ∀ l, l < p 7 0 → 1 ≤ C l ∧ C l ≤ 20) : Stt p C f (sRound p (sClr x C f)) := by
  have hn := hp.n
  have hq := hp.q
  refine ⟨LZ_round hp (LI_clr hp hf hC), ?_, ?_, ?_, ?_⟩
  · rw [round_o (by omega), clr_8 (by omega)]
  · rw [round_2 (by omega), clr_1 (a := 2) (by omega) (by omega), clr_1 (a := 1) (by omega) (by omega), if_neg (fun z => z.1 rfl)]
  · rw [round_o (by omega), clr_7]
  · intro l hl
    rw [round_o (by omega), clr_4 (by omega)]
theorem pre_ok {p x : Nx} {C : Nat → Nat} {f : Nat} (hp : PI p) (h : Stt p C f x) : ∀ {n : Nat}, n ≤ 1501 → LZ p (pre p x n) ∧ pre p x n 2 (p 6 0 - 1) = n ∧ pre p x n 8 0 ≤ 12120 * n ∧ pre p x n 7 0 = f ∧ ∀ l, l < p 7 0 → pre p x n 4 l = C l
  | 0, _ => ⟨h.1, h.2.2.1, by show x 8 0 ≤ _; have := h.2.1; omega, h.2.2.2.1, h.2.2.2.2⟩
  | n + 1, hn => by
    have i := pre_ok hp h (n := n) (by omega)
    have s := sLeap_ok hp i.1 (by omega)
    refine ⟨s.1, ?_, ?_, ?_, fun l hl => ?_⟩
    · show sLeap p (pre p x n) 2 (p 6 0 - 1) = _
      omega
    · show sLeap p (pre p x n) 8 0 ≤ _
      omega
    · show sLeap p (pre p x n) 7 0 = _
      rw [sLeap_o (by omega)]; exact i.2.2.2.1
    · show sLeap p (pre p x n) 4 l = _
      rw [sLeap_o (by omega)]; exact i.2.2.2.2 l hl
theorem pre_time {p x : Nx} {C : Nat → Nat} {f : Nat} (hp : PI p) (h : Stt p C f x) : ∀ {d m : Nat}, m + d ≤ 1501 → pre p x m 8 0 + d ≤ pre p x (m + d) 8 0 ∧ pre p x (m + d) 8 0 ≤ pre p x m 8 0 + 12120 * d
  | 0, m, _ => ⟨Nat.le_refl _, Nat.le_refl _⟩
  | d + 1, m, hm => by
    have i := pre_time hp h (d := d) (m := m) (by omega)
    have j := pre_ok hp h (n := m + d) (by omega)
    have s := sLeap_ok hp j.1 (by omega)
    have e : pre p x (m + (d + 1)) = sLeap p (pre p x (m + d)) := rfl
    rw [e]
    omega
def kE (p a b : Nx) : Bool := decide (bz p a = bz p b) && decide (qz p a = qz p b)
theorem kE_iff {p a b : Nx} : kE p a b = true ↔ bz p a = bz p b ∧ qz p a = qz p b := by
  unfold kE
  rw [Bool.and_eq_true, decide_eq_true_eq, decide_eq_true_eq]
/-- the latest look ahead of m that is like look n -/
def lastEq (p x : Nx) (n : Nat) : Nat → Option Nat
  | 0 => none
  | m + 1 => if kE p (pre p x (m + 1)) (pre p x (n + 1)) = true then some m else lastEq p x n m
def paceAt (p x : Nx) : Nat → Nat → Option (Nat × Nat)
  | 0, _ => none
  | d + 1, n => match lastEq p x n n with
    | some k => some (k, n)
    | none => paceAt p x d (n + 1)
theorem lastEq_lt {p x : Nx} {n k : Nat} : ∀ {m : Nat}, lastEq p x n m = some k → k < m ∧ kE p (pre p x (k + 1)) (pre p x (n + 1)) = true
  | 0, h => by cases h
  | m + 1, h => by
    unfold lastEq at h
    by_cases c : kE p (pre p x (m + 1)) (pre p x (n + 1)) = true
    · rw [if_pos c] at h
      cases h
      exact ⟨by omega, c⟩
    · rw [if_neg c] at h
      have := lastEq_lt h
      exact ⟨by omega, this.2⟩
theorem paceAt_some {p x : Nx} {k m : Nat} : ∀ {d n : Nat}, paceAt p x d n = some (k, m) → k < m ∧ m < n + d ∧ kE p (pre p x (k + 1)) (pre p x (m + 1)) = true
  | 0, n, h => by cases h
  | d + 1, n, h => by
    unfold paceAt at h
    cases e : lastEq p x n n with
    | some j =>
      rw [e] at h
      cases h
      have := lastEq_lt e
      exact ⟨this.1, by omega, this.2⟩
    | none =>
      rw [e] at h
      have := paceAt_some (d := d) (n := n + 1) h
      exact ⟨this.1, by omega, this.2.2⟩
def pcD (p x : Nx) (k n : Nat) : Nat := Nat.gcd (n - k) (pre p x (n + 1) 8 0 - pre p x (k + 1) 8 0)
def pcP (p x : Nx) (o : Option (Nat × Nat)) : Int32 := match o with
  | none => -1
  | some (k, n) => nI ((n - k) / pcD p x k n)
def pcM (p x : Nx) (o : Option (Nat × Nat)) : Int32 := match o with
  | none => -1
  | some (k, n) => nI ((pre p x (n + 1) 8 0 - pre p x (k + 1) 8 0) / pcD p x k n)
/-- chains of looks by their hash -/
def hsh (b : Int64) (q : Int32) : Nat := ((((b * (-7046029254386353131 : Int64) + q.toInt64 * (-4417276706812531889 : Int64)).toUInt64 >>> ((nI 40).toInt64.toUInt64 &&& Int64.toUInt64 63)).toInt64).toInt32).toBitVec.toNat % 1024
def hs (p x : Nx) (j : Nat) : Nat := hsh (lN (bz p (pre p x (j + 1)))) (nI (qz p (pre p x (j + 1))))
def ChOk (p x : Nx) (F : Rc) (h : Nat) : Nat → Int32 → Prop
  | 0, c => c = -1
  | m + 1, c => if hs p x m = h then c = nI m ∧ ChOk p x F h m (F 5 m) else ChOk p x F h m c
theorem ChOk_mv {p x : Nx} {F G : Rc} {h : Nat} : ∀ {m : Nat} {c : Int32}, (∀ j, j < m → G 5 j = F 5 j) → ChOk p x F h m c → ChOk p x G h m c
  | 0, c, _, h1 => h1
  | m + 1, c, hg, h1 => by
    unfold ChOk at h1 ⊢
    by_cases e : hs p x m = h
    · rw [if_pos e] at h1 ⊢
      rw [hg m (by omega)]
      exact ⟨h1.1, ChOk_mv (fun j hj => hg j (by omega)) h1.2⟩
    · rw [if_neg e] at h1 ⊢
      exact ChOk_mv (fun j hj => hg j (by omega)) h1
theorem ChOk_0 {p x : Nx} {F : Rc} {h : Nat} : ChOk p x F h 0 (-1) := rfl
def FI (p x : Nx) (n : Nat) (F : Rc) (FL : RcL) : Prop := (∀ j, j < n → FL 1 j = lN (bz p (pre p x (j + 1))) ∧ F 2 j = nI (qz p (pre p x (j + 1))) ∧ F 3 j = nI (pre p x (j + 1) 8 0)) ∧ ∀ h, h < 1024 → ChOk p x F h n (F 4 h)
theorem bzF_lt {p x : Nx} (hx : LI p x) {M : Nat} : ∀ {d l a : Nat}, l + d = p 6 0 → (a + 1) * 128 ^ d ≤ M → bzF x l d a < M
  | 0, l, a, _, h => by
    simp only [Nat.pow_zero, Nat.mul_one] at h
    exact h
  | d + 1, l, a, e, h => by
    unfold bzF
    exact bzF_lt hx (by omega) (bnd128 h (left_lt hx (by omega))).1
theorem qzF_lt {p x : Nx} (hp : PI p) (hx : LI p x) {M : Nat} : ∀ {d l a : Nat}, l + d = p 6 0 → (a + 1) * 32 ^ d ≤ M → qzF x l d a < M
  | 0, l, a, _, h => by
    simp only [Nat.pow_zero, Nat.mul_one] at h
    exact h
  | d + 1, l, a, e, h => by
    unfold qzF
    exact qzF_lt hp hx (by omega) (bnd32 h (by have := sWait_20 hp hx (k := l) (by omega); omega)).1
theorem bz_lt {p x : Nx} (hp : PI p) (hx : LI p x) : bz p x < 2 ^ 60 := by
  have pl := place_lt hp hx
  have e6 : 128 ^ p 6 0 ≤ 128 ^ 6 := Nat.pow_le_pow_right (by omega) hp.n.2
  exact bzF_lt hx (by omega) (Nat.le_trans (Nat.mul_le_mul (show place p x + 1 ≤ 1024 from pl) e6) (by decide))
theorem qz_lt {p x : Nx} (hp : PI p) (hx : LI p x) : qz p x < 2 ^ 31 := by
  have e7 : 32 ^ p 6 0 ≤ 32 ^ 6 := Nat.pow_le_pow_right (by omega) hp.n.2
  exact qzF_lt hp hx (by omega) (Nat.le_trans (Nat.mul_le_mul (Nat.le_refl _) e7) (by decide))
theorem s_ent46 {p x : Nx} {C : Nat → Nat} {f : Nat} (hp : PI p) (h : Stt p C f x) {n N : Nat} (hn : n < 1500) {F : Rc} {FL : RcL} (hF : ∀ j, j ≤ n → FL 1 j = lN (bz p (pre p x (j + 1))) ∧ F 2 j = nI (qz p (pre p x (j + 1)))) : ∀ {m i u : Nat} {c : Int32}, m < u → m ≤ n → i + m ≤ 1499 → ChOk p x F (hs p x n) m c → itn (fX2_enter_46b N) (fun _ _ _ _ _ _ => none) u F FL (nI n) (nI (hs p x n)) c (nI i) = match lastEq p x n m with
    | some k => some (nI k, F)
    | none => fX2_enter_111 N F FL (nI n) (nI (hs p x n))
  | _, _, 0, _, h, _, _, _ => by omega
  | 0, i, u + 1, c, hu, _, hi, hc => by
    rw [show c = -1 from hc, itn_s]
    unfold fX2_enter_46b lastEq
    simp (disch := omega) only [↓nm_s, ↓bnd_s, ↓reduceIte, nI_add, pk_mul, nI_subdiv, nI_sub', nI_m1, nI_0m1, nI_clamp, gdi_nI, gdz_nI, nI_div, nrem, nI_ltI, nI_leI, nI_eq, leT, leF, ltT, ltF, eqT, eqF, neT, neF, z0, m1lt0, m1lt, m1le, nI_ne_neg, neg_ne_nI, embP_a, embL_a, embL_up, embL_up1, up2_ne, up2_at, up2_o, up1_ne, up1_at, bI_eq0, bI_eq1, or_true, true_or, and_true, true_and, or_false, false_or, and_false, false_and, not_true_eq_false, not_false_eq_true, if_true, if_false,  decide_true, decide_false, bI_t, bI_f, Nat.add_sub_cancel, Nat.zero_add, Nat.add_zero, Nat.mul_zero, upd_eq, upd_ne]
  | m + 1, i, u + 1, c, hu, hm, hi, hc => by
    have a := hF m (by omega)
    have b := hF n (by omega)
    have pm := (pre_ok hp h (n := m + 1) (by omega)).1
    have pn := (pre_ok hp h (n := n + 1) (by omega)).1
    have bm := bz_lt hp pm.1
    have bn := bz_lt hp pn.1
    have qm := qz_lt hp pm.1
    have qn := qz_lt hp pn.1
    unfold ChOk at hc
    unfold lastEq
    by_cases e : hs p x m = hs p x n
    · rw [if_pos e] at hc
      obtain ⟨rfl, hc⟩ := hc
      have i1 := s_ent46 hp h hn hF (N := N) (m := m) (i := i + 1) (u := u) (c := F 5 m) (by omega) (by omega) (by omega) hc
      rw [itn_s]
      generalize itn (fX2_enter_46b N) (fun _ _ _ _ _ _ => none) u = K at i1 ⊢
      unfold fX2_enter_46b
      have cmp : (lg_cmp (FL 1 m) (FL 1 n) = nI 0) = (bz p (pre p x (m + 1)) = bz p (pre p x (n + 1))) := by
        apply propext
        rw [← z0, lg_cmp_eq, a.1, b.1]
        exact pk_lEQ (by omega) (by omega)
      by_cases k1 : bz p (pre p x (m + 1)) = bz p (pre p x (n + 1))
      · by_cases k2 : qz p (pre p x (m + 1)) = qz p (pre p x (n + 1))
        · rw [if_pos (kE_iff.mpr ⟨k1, k2⟩)]
          simp (disch := omega) only [↓nm_s, ↓bnd_s, ↓reduceIte, nI_add, pk_mul, nI_subdiv, nI_sub', nI_m1, nI_0m1, nI_clamp, gdi_nI, gdz_nI, nI_div, nrem, nI_ltI, nI_leI, nI_eq, leT, leF, ltT, ltF, eqT, eqF, neT, neF, z0, m1lt0, m1lt, m1le, nI_ne_neg, neg_ne_nI, embP_a, embL_a, embL_up, embL_up1, up2_ne, up2_at, up2_o, up1_ne, up1_at, bI_eq0, bI_eq1, or_true, true_or, and_true, true_and, or_false, false_or, and_false, false_and, not_true_eq_false, not_false_eq_true, if_true, if_false,  decide_true, decide_false, bI_t, bI_f, Nat.add_sub_cancel, Nat.zero_add, Nat.add_zero, Nat.mul_zero, upd_eq, upd_ne, cmp, a.2, b.2]
        · rw [if_neg (fun z => k2 (kE_iff.mp z).2), ← i1]
          simp (disch := omega) only [↓nm_s, ↓bnd_s, ↓reduceIte, nI_add, pk_mul, nI_subdiv, nI_sub', nI_m1, nI_0m1, nI_clamp, gdi_nI, gdz_nI, nI_div, nrem, nI_ltI, nI_leI, nI_eq, leT, leF, ltT, ltF, eqT, eqF, neT, neF, z0, m1lt0, m1lt, m1le, nI_ne_neg, neg_ne_nI, embP_a, embL_a, embL_up, embL_up1, up2_ne, up2_at, up2_o, up1_ne, up1_at, bI_eq0, bI_eq1, or_true, true_or, and_true, true_and, or_false, false_or, and_false, false_and, not_true_eq_false, not_false_eq_true, if_true, if_false,  decide_true, decide_false, bI_t, bI_f, Nat.add_sub_cancel, Nat.zero_add, Nat.add_zero, Nat.mul_zero, upd_eq, upd_ne, cmp, a.2, b.2, fX2_enter_96]
      · rw [if_neg (fun z => k1 (kE_iff.mp z).1), ← i1]
        simp (disch := omega) only [↓nm_s, ↓bnd_s, ↓reduceIte, nI_add, pk_mul, nI_subdiv, nI_sub', nI_m1, nI_0m1, nI_clamp, gdi_nI, gdz_nI, nI_div, nrem, nI_ltI, nI_leI, nI_eq, leT, leF, ltT, ltF, eqT, eqF, neT, neF, z0, m1lt0, m1lt, m1le, nI_ne_neg, neg_ne_nI, embP_a, embL_a, embL_up, embL_up1, up2_ne, up2_at, up2_o, up1_ne, up1_at, bI_eq0, bI_eq1, or_true, true_or, and_true, true_and, or_false, false_or, and_false, false_and, not_true_eq_false, not_false_eq_true, if_true, if_false,  decide_true, decide_false, bI_t, bI_f, Nat.add_sub_cancel, Nat.zero_add, Nat.add_zero, Nat.mul_zero, upd_eq, upd_ne, cmp, fX2_enter_96]
    · rw [if_neg e] at hc
      rw [if_neg]
      · exact s_ent46 hp h hn hF (N := N) (m := m) (i := i) (u := u + 1) (c := c) (by omega) (by omega) (by omega) hc
      · intro z
        have := kE_iff.mp z
        apply e
        unfold hs
        rw [this.1, this.2]
end
section
/-! entering a look -/
theorem ent_hash {F : Rc} {FL : RcL} {n b q : Nat} (h1 : FL 1 n = lN b) (h2 : F 2 n = nI q) : (((FL 1 n * (-7046029254386353131 : Int64) + (F 2 n).toInt64 * (-4417276706812531889 : Int64)).toUInt64 >>> ((nI 40).toInt64.toUInt64 &&& Int64.toUInt64 63)).toInt64).toInt32 &&& nI 1023 = nI (hsh (lN b) (nI q)) := by
  rw [h1, h2]
  unfold hsh
  exact pk_and _ 10 (by decide)
theorem ent_111 {F : Rc} {FL : RcL} {n v N : Nat} (hn : n < 1500) (hl : v < 1024) : fX2_enter_111 N F FL (nI n) (nI v) = some (-1, va_up (va_up F 5 (upd (F 5) n (F 4 v))) 4 (upd (F 4) v (nI n))) := by
  unfold fX2_enter_111
  simp (disch := omega) only [↓nm_s, ↓bnd_s, ↓reduceIte, nI_add, pk_mul, nI_subdiv, nI_sub', nI_m1, nI_0m1, nI_clamp, gdi_nI, gdz_nI, nI_div, nrem, nI_ltI, nI_leI, nI_eq, leT, leF, ltT, ltF, eqT, eqF, neT, neF, z0, m1lt0, m1lt, m1le, nI_ne_neg, neg_ne_nI, embP_a, embL_a, embL_up, embL_up1, up2_ne, up2_at, up2_o, up1_ne, up1_at, bI_eq0, bI_eq1, or_true, true_or, and_true, true_and, or_false, false_or, and_false, false_and, not_true_eq_false, not_false_eq_true, if_true, if_false,  decide_true, decide_false, bI_t, bI_f, Nat.add_sub_cancel, Nat.zero_add, Nat.add_zero, Nat.mul_zero, upd_eq, upd_ne]
  rw [va_up_ne F _ (show (4 : Nat) ≠ 5 from by omega)]
theorem ent_run {F : Rc} {FL : RcL} {n v N : Nat} (hn : n < 1500) (hl : v < 1024) (e : (((FL 1 n * (-7046029254386353131 : Int64) + (F 2 n).toInt64 * (-4417276706812531889 : Int64)).toUInt64 >>> ((nI 40).toInt64.toUInt64 &&& Int64.toUInt64 63)).toInt64).toInt32 &&& nI 1023 = nI v) : fX2_enter N F FL (nI n) = fX2_enter_46 N F FL (nI n) (nI v) (F 4 v) (nI 0) := by
  unfold fX2_enter
  rw [gdi_nI hn (by omega), gdi_nI hn (by omega), nI_clamp (by omega), nm_s, nm_s, e, gdi_nI hl (by omega), nm_s, nm_s, nI_clamp (by omega)]
theorem s_enter {p x : Nx} {C : Nat → Nat} {f : Nat} (hp : PI p) (h : Stt p C f x) {n N : Nat} (hn : n < 1500) (hN : 1600 < N) {F : Rc} {FL : RcL} (hF : ∀ j, j ≤ n → FL 1 j = lN (bz p (pre p x (j + 1))) ∧ F 2 j = nI (qz p (pre p x (j + 1)))) (hc : ∀ h, h < 1024 → ChOk p x F h n (F 4 h)) : (∀ k, lastEq p x n n = some k → fX2_enter N F FL (nI n) = some (nI k, F)) ∧ (lastEq p x n n = none → fX2_enter N F FL (nI n) = some (-1, va_up (va_up F 5 (upd (F 5) n (F 4 (hs p x n)))) 4 (upd (F 4) (hs p x n) (nI n)))) := by
  have b := hF n (by omega)
  have hl : hs p x n < 1024 := by
    unfold hs hsh
    exact Nat.mod_lt _ (by omega)
  have e := ent_hash b.1 b.2
  rw [show hsh (lN (bz p (pre p x (n + 1)))) (nI (qz p (pre p x (n + 1)))) = hs p x n from rfl] at e
  have i := s_ent46 hp h hn hF (N := N) (m := n) (i := 0) (u := N) (c := F 4 (hs p x n)) (by omega) (by omega) (by omega) (hc _ hl)
  rw [ent_111 hn hl] at i
  rw [ent_run hn hl e]
  unfold fX2_enter_46
  refine ⟨fun k hk => ?_, fun hk => ?_⟩
  · rw [hk] at i
    exact i
  · rw [hk] at i
    exact i
theorem s_srch29 {p x : Nx} {C : Nat → Nat} {f : Nat} (hp : PI p) (h : Stt p C f x) {N : Nat} (hN : 1600 < N) (D : Nat → Int32) : ∀ {d n u : Nat} {F : Rc} {FL : RcL}, d < u → n + d = 1500 → FI p x n F FL → F 6 0 = -1 → F 7 0 = -1 → ∃ y G GL, itn (fX2_search_29b N) (fun _ _ _ _ _ _ => none) u (embP p) (embL (pre p x n)) F FL D (nI n) = some (embL y, G, GL) ∧ G 6 0 = pcP p x (paceAt p x d n) ∧ G 7 0 = pcM p x (paceAt p x d n)
  | _, _, 0, _, _, h, _, _, _, _ => by omega
  | 0, n, u + 1, F, FL, _, e, _, h6, h7 => by
    refine ⟨pre p x n, F, FL, ?_, h6, h7⟩
    rw [itn_s]
    unfold fX2_search_29b
    simp (disch := omega) only [↓nm_s, ↓bnd_s, ↓reduceIte, nI_add, pk_mul, nI_subdiv, nI_sub', nI_m1, nI_0m1, nI_clamp, gdi_nI, gdz_nI, nI_div, nrem, nI_ltI, nI_leI, nI_eq, leT, leF, ltT, ltF, eqT, eqF, neT, neF, z0, m1lt0, m1lt, m1le, nI_ne_neg, neg_ne_nI, embP_a, embL_a, embL_up, embL_up1, up2_ne, up2_at, up2_o, up1_ne, up1_at, bI_eq0, bI_eq1, or_true, true_or, and_true, true_and, or_false, false_or, and_false, false_and, not_true_eq_false, not_false_eq_true, if_true, if_false,  decide_true, decide_false, bI_t, bI_f, Nat.add_sub_cancel, Nat.zero_add, Nat.add_zero, Nat.mul_zero, upd_eq, upd_ne]
  | d + 1, n, u + 1, F, FL, hu, e, hFI, h6, h7 => by
    have pn := pre_ok hp h (n := n) (by omega)
    have pn1 := pre_ok hp h (n := n + 1) (by omega)
    have lp := s_leap (N := N) hp (by omega) pn.1 (by omega)
    have lo := s_look (F := F) (FL := FL) (n := n) (N := N) hp (by omega) pn1.1.1 (by omega) (by omega)
    rw [show sLeap p (pre p x n) = pre p x (n + 1) from rfl] at lp
    obtain ⟨hF, hC⟩ := hFI
    generalize hG : va_up (va_up F 2 (upd (F 2) n (nI (qz p (pre p x (n + 1)))))) 3 (upd (F 3) n (nI (pre p x (n + 1) 8 0))) = G at lo
    generalize hGL : va_up FL 1 (vp_updL (FL 1) n (lN (bz p (pre p x (n + 1))))) = GL at lo
    have g1 : ∀ j, j ≤ n → GL 1 j = lN (bz p (pre p x (j + 1))) ∧ G 2 j = nI (qz p (pre p x (j + 1))) := by
      intro j hj
      rw [← hG, ← hGL, va_up_self, va_up_ne _ _ (by omega), va_up_self]
      by_cases c : j = n
      · subst c
        rw [pk_uLs, pk_us]
        exact ⟨rfl, rfl⟩
      · rw [pk_uLn c, pk_un c]
        exact ⟨(hF j (by omega)).1, (hF j (by omega)).2.1⟩
    have g3 : ∀ j, j ≤ n → G 3 j = nI (pre p x (j + 1) 8 0) := by
      intro j hj
      rw [← hG, va_up_self]
      by_cases c : j = n
      · subst c
        rw [pk_us]
      · rw [pk_un c]
        exact (hF j (by omega)).2.2
    have g4 : G 4 = F 4 := by rw [← hG, va_up_ne _ _ (by omega), va_up_ne _ _ (by omega)]
    have g5 : G 5 = F 5 := by rw [← hG, va_up_ne _ _ (by omega), va_up_ne _ _ (by omega)]
    have g6 : G 6 = F 6 := by rw [← hG, va_up_ne _ _ (by omega), va_up_ne _ _ (by omega)]
    have g7 : G 7 = F 7 := by rw [← hG, va_up_ne _ _ (by omega), va_up_ne _ _ (by omega)]
    have en := s_enter hp h (n := n) (N := N) (by omega) hN (F := G) (FL := GL) g1 (fun hh hhl => by rw [g4]; exact ChOk_mv (fun j _ => by rw [g5]) (hC hh hhl))
    unfold paceAt
    rw [itn_s]
    cases le : lastEq p x n n with
    | none =>
      have en := en.2 le
      simp only
      generalize hH : va_up (va_up G 5 (upd (G 5) n (G 4 (hs p x n)))) 4 (upd (G 4) (hs p x n) (nI n)) = H at en
      have hFI' : FI p x (n + 1) H GL := by
        refine ⟨fun j hj => ?_, fun hh hhl => ?_⟩
        · have a := g1 j (by omega)
          have b := g3 j (by omega)
          rw [← hH, va_up_ne _ _ (by omega), va_up_ne _ _ (by omega), va_up_ne _ _ (by omega), va_up_ne _ _ (by omega)]
          exact ⟨a.1, a.2, b⟩
        · have old : ChOk p x H hh n (F 4 hh) := ChOk_mv (fun j hj => by rw [← hH, va_up_ne _ _ (by omega), va_up_self, pk_un (by omega), g5]) (hC hh hhl)
          have h5 : H 5 n = F 4 (hs p x n) := by rw [← hH, va_up_ne _ _ (by omega), va_up_self, pk_us, g4]
          unfold ChOk
          by_cases c : hs p x n = hh
          · have h4 : H 4 hh = nI n := by rw [← hH, va_up_self, c, pk_us]
            rw [if_pos c, h4]
            refine ⟨rfl, ?_⟩
            rw [h5, c]
            exact old
          · have h4 : H 4 hh = F 4 hh := by rw [← hH, va_up_self, pk_un (fun z => c z.symm), g4]
            rw [if_neg c, h4]
            exact old
      obtain ⟨y, A, AL, a1, a2, a3⟩ := s_srch29 hp h hN D (d := d) (n := n + 1) (u := u) (F := H) (FL := GL) (by omega) (by omega) hFI' (by rw [← hH, va_up_ne _ _ (by omega), va_up_ne _ _ (by omega), g6]; exact h6) (by rw [← hH, va_up_ne _ _ (by omega), va_up_ne _ _ (by omega), g7]; exact h7)
      refine ⟨y, A, AL, ?_, a2, a3⟩
      generalize itn (fX2_search_29b N) (fun _ _ _ _ _ _ => none) u = K at a1 ⊢
      unfold fX2_search_29b
      simp (disch := omega) only [↓nm_s, ↓bnd_s, ↓reduceIte, nI_add, pk_mul, nI_subdiv, nI_sub', nI_m1, nI_0m1, nI_clamp, gdi_nI, gdz_nI, nI_div, nrem, nI_ltI, nI_leI, nI_eq, leT, leF, ltT, ltF, eqT, eqF, neT, neF, z0, m1lt0, m1lt, m1le, nI_ne_neg, neg_ne_nI, embP_a, embL_a, embL_up, embL_up1, up2_ne, up2_at, up2_o, up1_ne, up1_at, bI_eq0, bI_eq1, or_true, true_or, and_true, true_and, or_false, false_or, and_false, false_and, not_true_eq_false, not_false_eq_true, if_true, if_false,  decide_true, decide_false, bI_t, bI_f, Nat.add_sub_cancel, Nat.zero_add, Nat.add_zero, Nat.mul_zero, upd_eq, upd_ne, lp, lo, en, a1]
    | some k =>
      have en := en.1 k le
      simp only
      have hk := lastEq_lt le
      have tt := pre_time hp h (d := n - k) (m := k + 1) (by omega)
      rw [show k + 1 + (n - k) = n + 1 from by omega] at tt
      have gp : 0 < pcD p x k n := Nat.gcd_pos_of_pos_left _ (by omega)
      have gl : pcD p x k n ≤ n - k := Nat.le_of_dvd (by omega) (Nat.gcd_dvd_left _ _)
      have cd := s_gcd (a := n - k) (b := pre p x (n + 1) 8 0 - pre p x (k + 1) 8 0) (N := N) (by omega) (by omega) (by omega)
      rw [show Nat.gcd (n - k) (pre p x (n + 1) 8 0 - pre p x (k + 1) 8 0) = pcD p x k n from rfl, Nat.max_eq_left (by omega)] at cd
      have t1 := g3 n (by omega)
      have t2 := g3 k (by omega)
      refine ⟨pre p x (n + 1), va_up (va_up G 6 (fun _ => nI ((n - k) / pcD p x k n))) 7 (fun _ => nI ((pre p x (n + 1) 8 0 - pre p x (k + 1) 8 0) / pcD p x k n)), GL, ?_, ?_, ?_⟩
      · generalize itn (fX2_search_29b N) (fun _ _ _ _ _ _ => none) u = K
        unfold fX2_search_29b
        simp (disch := omega) only [↓nm_s, ↓bnd_s, ↓reduceIte, nI_add, pk_mul, nI_subdiv, nI_sub', nI_m1, nI_0m1, nI_clamp, gdi_nI, gdz_nI, nI_div, nrem, nI_ltI, nI_leI, nI_eq, leT, leF, ltT, ltF, eqT, eqF, neT, neF, z0, m1lt0, m1lt, m1le, nI_ne_neg, neg_ne_nI, embP_a, embL_a, embL_up, embL_up1, up2_ne, up2_at, up2_o, up1_ne, up1_at, bI_eq0, bI_eq1, or_true, true_or, and_true, true_and, or_false, false_or, and_false, false_and, not_true_eq_false, not_false_eq_true, if_true, if_false,  decide_true, decide_false, bI_t, bI_f, Nat.add_sub_cancel, Nat.zero_add, Nat.add_zero, Nat.mul_zero, upd_eq, upd_ne, lp, lo, en, t1, t2, cd, va_up_ne]
      · rw [va_up_ne _ _ (by omega), va_up_self]; rfl
      · rw [va_up_self]; rfl
theorem s_search {p x : Nx} {C : Nat → Nat} {f N : Nat} (hp : PI p) (hN : 1600 < N) (hf : 1 ≤ f ∧ f ≤ 5) (hC : ∀ l, l < p 7 0 → 1 ≤ C l ∧ C l ≤ 20) {D : Nat → Int32} (hD : ∀ l, l < 5 → D l = nI (C l)) (F : Rc) (FL : RcL) : ∃ y G GL, fX2_search N (embP p) (embL x) F FL D (nI f) = some (embL y, G, GL) ∧ G 6 0 = pcP p (sRound p (sClr x C f)) (paceAt p (sRound p (sClr x C f)) 1500 0) ∧ G 7 0 = pcM p (sRound p (sClr x C f)) (paceAt p (sRound p (sClr x C f)) 1500 0) := by
  have nw := s_new (x := x) hp (N := N) (by omega) hf hC hD
  have st := Stt_new (x := x) hp hf hC
  generalize sRound p (sClr x C f) = x0 at nw st ⊢
  generalize hH : va_up (va_up (va_up F 6 (fun _ => -1)) 7 (fun _ => -1)) 4 (fun j => if j < 1024 then -1 else (va_up (va_up F 6 (fun _ => -1)) 7 (fun _ => -1)) 4 j) = H
  have hFI : FI p x0 0 H FL := by
    refine ⟨fun j hj => by omega, fun hh hhl => ?_⟩
    rw [← hH, va_up_self, if_pos hhl]
    exact ChOk_0
  obtain ⟨y, A, AL, a1, a2, a3⟩ := s_srch29 hp st hN D (d := 1500) (n := 0) (u := N) (F := H) (FL := FL) (by omega) (by omega) hFI (by rw [← hH, va_up_ne _ _ (by omega), va_up_ne _ _ (by omega), va_up_self]) (by rw [← hH, va_up_ne _ _ (by omega), va_up_self])
  refine ⟨y, A, AL, ?_, a2, a3⟩
  unfold fX2_search
  simp only [nm_s, bnd_s, s_fill (show (1024 : Nat) < 2 ^ 31 from by omega) (show 1024 < N from by omega), nw, hH]
  unfold fX2_search_29
  exact a1
end
section
/-! choices over naturals -/
theorem if_le {α : Type} {a b : Nat} {x y : α} (h : a ≤ b) (hb : b < 2 ^ 31) : (if nI a ≤ nI b then x else y) = x := if_pos (by rw [nI_leI (by omega) hb]; exact h)
theorem if_nle {α : Type} {a b : Nat} {x y : α} (h : b < a) (ha : a < 2 ^ 31) : (if nI a ≤ nI b then x else y) = y := if_neg (by rw [nI_leI ha (by omega)]; omega)
theorem if_lt {α : Type} {a b : Nat} {x y : α} (h : a < b) (hb : b < 2 ^ 31) : (if nI a < nI b then x else y) = x := if_pos (by rw [nI_ltI (by omega) hb]; exact h)
theorem if_nlt {α : Type} {a b : Nat} {x y : α} (h : b ≤ a) (ha : a < 2 ^ 31) : (if nI a < nI b then x else y) = y := if_neg (by rw [nI_ltI ha (by omega)]; omega)
theorem if_eq {α : Type} {a b : Nat} {x y : α} (h : a = b) : (if nI a = nI b then x else y) = x := if_pos (by rw [h])
theorem if_neq {α : Type} {a b : Nat} {x y : α} (h : a ≠ b) (ha : a < 2 ^ 31) (hb : b < 2 ^ 31) : (if nI a = nI b then x else y) = y := if_neg (by rw [nI_eq ha hb]; exact h)
theorem if_e0 {α : Type} {a : Nat} {x y : α} (h : a = 0) : (if nI a = 0 then x else y) = x := if_pos (by rw [h]; rfl)
theorem if_n0 {α : Type} {a : Nat} {x y : α} (h : a ≠ 0) (ha : a < 2 ^ 31) : (if nI a = 0 then x else y) = y := if_neg (by rw [z0, nI_eq ha (by omega)]; exact h)
theorem if_l0 {α : Type} {a : Nat} {x y : α} (h : a < 2 ^ 31) : (if nI a < 0 then x else y) = y := if_neg (by rw [z0, nI_ltI h (by omega)]; omega)
theorem if_le0 {α : Type} {a : Nat} {x y : α} (h : a = 0) : (if nI a ≤ 0 then x else y) = x := if_pos (by rw [h]; decide)
theorem if_nle0 {α : Type} {a : Nat} {x y : α} (h : a ≠ 0) (ha : a < 2 ^ 31) : (if nI a ≤ 0 then x else y) = y := if_neg (by rw [z0, nI_leI ha (by omega)]; omega)
theorem if_bT {α : Type} {b : Bool} {x y : α} (h : b = true) : (if bI b = 0 then x else y) = y := by subst h; exact if_neg (by decide)
theorem if_bF {α : Type} {b : Bool} {x y : α} (h : b = false) : (if bI b = 0 then x else y) = x := by subst h; exact if_pos (by decide)
/-! what the model lays down of a look -/
def lay1 (n : Nat) (v : Int32) (M : Rc) : Rc := va_up (va_up M 16 (upd (M 16) (58 * n + (M 21 0).toNatClampNeg) v)) 21 (fun _ => M 21 0 + nI 1)
def lay (n : Nat) : List Int32 → Rc → Rc
  | [], M => M
  | v :: R, M => lay n R (lay1 n v M)
theorem lay_app {n : Nat} : ∀ {A B : List Int32} {M : Rc}, lay n (A ++ B) M = lay n B (lay n A M)
  | [], _, _ => rfl
  | v :: A, B, M => lay_app (A := A) (B := B) (M := lay1 n v M)
theorem lay1_o {n : Nat} {v : Int32} {M : Rc} {a : Nat} (h : a ≠ 16 ∧ a ≠ 21) : lay1 n v M a = M a := by
  unfold lay1
  rw [va_up_ne _ _ h.2, va_up_ne _ _ h.1]
theorem lay1_21 {n j : Nat} {v : Int32} {M : Rc} (h : M 21 0 = nI j) : lay1 n v M 21 0 = nI (j + 1) := by
  unfold lay1
  rw [va_up_self, h, nI_add]
theorem lay1_16 {n j i : Nat} {v : Int32} {M : Rc} (hj : j < 2 ^ 31) (h : M 21 0 = nI j) : lay1 n v M 16 i = if i = 58 * n + j then v else M 16 i := by
  unfold lay1
  rw [va_up_ne _ _ (show (16 : Nat) ≠ 21 from by omega), va_up_self, h, nI_clamp hj]
  by_cases c : i = 58 * n + j
  · rw [if_pos c, upd_eq c]
  · rw [if_neg c, upd_ne c]
theorem lay_o {n a : Nat} (h : a ≠ 16 ∧ a ≠ 21) : ∀ {R : List Int32} {M : Rc}, lay n R M a = M a
  | [], _ => rfl
  | v :: R, M => (lay_o h (R := R) (M := lay1 n v M)).trans (lay1_o h)
theorem lay_21 {n : Nat} : ∀ {R : List Int32} {M : Rc} {j : Nat}, M 21 0 = nI j → lay n R M 21 0 = nI (j + R.length)
  | [], _, _, h => h
  | v :: R, M, j, h => by
    have := lay_21 (n := n) (R := R) (M := lay1 n v M) (j := j + 1) (lay1_21 h)
    rw [show lay n (v :: R) M = lay n R (lay1 n v M) from rfl, this, List.length_cons]
    congr 1
    omega
theorem lay_16 {n : Nat} : ∀ {R : List Int32} {M : Rc} {j i : Nat}, j + R.length < 2 ^ 31 → M 21 0 = nI j → lay n R M 16 i = if 58 * n + j ≤ i ∧ i < 58 * n + j + R.length then R.getD (i - (58 * n + j)) 0 else M 16 i
  | [], _, j, i, _, _ => by
    rw [if_neg (by simp only [List.length_nil]; omega)]
    rfl
  | v :: R, M, j, i, hl, h => by
    rw [List.length_cons] at hl
    have a := lay_16 (n := n) (R := R) (M := lay1 n v M) (j := j + 1) (i := i) (by omega) (lay1_21 h)
    rw [show lay n (v :: R) M = lay n R (lay1 n v M) from rfl, a, lay1_16 (by omega) h, List.length_cons]
    by_cases c : i = 58 * n + j
    · rw [if_neg (by omega), if_pos c, if_pos (by omega), c, Nat.sub_self]
      rfl
    · rw [if_neg c]
      by_cases d : 58 * n + (j + 1) ≤ i ∧ i < 58 * n + (j + 1) + R.length
      · rw [if_pos d, if_pos (by omega), show i - (58 * n + j) = (i - (58 * n + (j + 1))) + 1 from by omega]
        rfl
      · rw [if_neg d, if_neg (by omega)]
theorem lays_ok {M : Rc} {ML : RcL} {n j : Nat} {v : Int32} (hn : n < 1500) (hj : j < 58) (h : M 21 0 = nI j) : fX6_lays_ M ML (nI (58 * n)) v = some (lay1 n v M) := by
  unfold fX6_lays_ lay1
  rw [h, nI_add, gdi_nI (by omega) (by omega), nm_s, nm_s, nI_clamp (by omega), va_up_ne _ _ (show (21 : Nat) ≠ 16 from by omega), h, nI_clamp (by omega)]
/-! the row of a look -/
def eL (x : Nx) (k : Nat) : Int32 := if x 1 k = x 2 k then -1 else nI (x 3 k - x 8 0)
def eS (p x : Nx) (k : Nat) : Int32 := if x 1 k = x 2 k then nI 0 else nI (x 3 k - p 0 k - x 8 0)
def eK (p x : Nx) (k : Nat) : Int32 := if x 1 k = x 2 k then -1 else nI (sKind p (x 7 0) (x 1 k - 1))
def eB (p x : Nx) (k : Nat) : Int32 := if x 2 k = 0 then -1 else nI (sKind p (x 7 0) (x 2 k - 1))
def kds (p x : Nx) : Nat → Nat → List Int32
  | _, 0 => []
  | m, w + 1 => nI (sKind p (x 7 0) m) :: kds p x (m + 1) w
def frs (p x : Nx) : Nat → Nat → List Int32
  | _, 0 => []
  | l, d + 1 => nI (sFree p x l) :: frs p x (l + 1) d
def stR (p x : Nx) (k : Nat) : List Int32 := eL x k :: eS p x k :: eK p x k :: eB p x k :: nI (sWait x k) :: kds p x (x 1 k) (sWait x k)
def rowF (p x : Nx) : Nat → Nat → List Int32
  | _, 0 => frs p x 0 (p 7 0) ++ [nI (place p x)]
  | l, d + 1 => stR p x l ++ rowF p x (l + 1) d
theorem kds_len {p x : Nx} : ∀ {w m : Nat}, (kds p x m w).length = w
  | 0, _ => rfl
  | w + 1, m => by rw [kds, List.length_cons, kds_len]
theorem frs_len {p x : Nx} : ∀ {d l : Nat}, (frs p x l d).length = d
  | 0, _ => rfl
  | d + 1, l => by rw [frs, List.length_cons, frs_len]
theorem stR_len {p x : Nx} {k : Nat} : (stR p x k).length = sWait x k + 5 := by
  unfold stR
  simp only [List.length_cons, kds_len]
theorem rowF_len {p x : Nx} (hx : LI p x) : ∀ {d l : Nat}, l + d = p 6 0 → 0 < p 6 0 → (rowF p x l d).length + x 2 (p 6 0 - 1) ≤ 5 * d + p 7 0 + 1 + (if l = 0 then x 1 0 else x 2 (l - 1))
  | 0, l, e, h0 => by
    unfold rowF
    rw [List.length_append, frs_len, List.length_singleton, if_neg (by omega), show l - 1 = p 6 0 - 1 from by omega]
    omega
  | d + 1, l, e, h0 => by
    have i := rowF_len hx (d := d) (l := l + 1) (by omega) h0
    have a := hx.k (k := l) (by omega)
    rw [if_neg (by omega), show l + 1 - 1 = l from rfl] at i
    unfold rowF
    rw [List.length_append, stR_len]
    unfold sWait
    by_cases c : l = 0
    · subst c
      rw [if_pos rfl, if_pos rfl]
      omega
    · have b := hx.s (k := l - 1) (by omega)
      rw [show l - 1 + 1 = l from by omega] at b
      rw [if_neg c, if_neg c]
      omega
theorem row_len {p x : Nx} (hp : PI p) (hx : LI p x) : (rowF p x 0 (p 6 0)).length ≤ 56 := by
  have h1 := hp.n
  have h2 := hp.q
  have a := rowF_len hx (d := p 6 0) (l := 0) (by omega) (by omega)
  have b := hx.way hp
  rw [if_pos rfl] at a
  omega
theorem me_kds {p g x : Nx} {ML : RcL} {N n k : Nat} {K : Rc → RcL → Int32 → Int32 → Int32 → Option (Rc × RcL)} (hp : PI p) (hx : LI p x) (hn : n < 1500) (hk : k < p 6 0) : ∀ {d i j u : Nat} {M : Rc}, d < u → i + d = sWait x k → RelS p g x (M 13) → M 21 0 = nI j → j + d ≤ 57 → itn (fX6_meets_133b N K) (fun _ _ _ _ _ _ => none) u M ML (nI n) (nI (58 * n)) (nI k) (nI i) = K (lay n (kds p x (x 1 k + i) d) M) ML (nI n) (nI (58 * n)) (nI (k + 1))
  | _, _, _, 0, _, h, _, _, _, _ => by omega
  | 0, i, j, u + 1, M, _, e, h, h21, hj => by
    have hn6 := hp.n
    have w := m_wait hp hk (h.2.2 k hk)
    have w20 := sWait_20 hp hx hk
    rw [itn_s]
    unfold fX6_meets_133b kds lay
    simp (disch := omega) only [↓nm_s, ↓bnd_s, ↓reduceIte, nI_add, pk_mul, nI_subdiv, nI_sub', nI_m1, nI_0m1, nI_clamp, gdi_nI, gdz_nI, nI_div, nrem, nI_ltI, nI_leI, nI_eq, leT, leF, ltT, ltF, eqT, eqF, neT, neF, z0, m1lt0, m1lt, m1le, nI_ne_neg, neg_ne_nI, embP_a, embL_a, embL_up, embL_up1, up2_ne, up2_at, up2_o, up1_ne, up1_at, bI_eq0, bI_eq1, or_true, true_or, and_true, true_and, or_false, false_or, and_false, false_and, not_true_eq_false, not_false_eq_true, if_true, if_false,  decide_true, decide_false, bI_t, bI_f, Nat.add_sub_cancel, Nat.zero_add, Nat.add_zero, Nat.mul_zero, upd_eq, upd_ne, w]
  | d + 1, i, j, u + 1, M, hu, e, h, h21, hj => by
    have hn6 := hp.n
    have w := m_wait hp hk (h.2.2 k hk)
    have w20 := sWait_20 hp hx hk
    have q := ((h.2.2 k hk).2.2.2.2 i (by omega)).1
    have l1 := lays_ok (M := M) (ML := ML) (n := n) (v := nI (sKind p (x 7 0) (x 1 k + i))) hn (by omega) h21
    have r := me_kds (ML := ML) (N := N) (K := K) hp hx hn hk (d := d) (i := i + 1) (j := j + 1) (u := u) (M := lay1 n (nI (sKind p (x 7 0) (x 1 k + i))) M) (by omega) (by omega) (by rw [lay1_o (by omega)]; exact h) (lay1_21 h21) (by omega)
    rw [itn_s]
    generalize itn (fX6_meets_133b N K) (fun _ _ _ _ _ _ => none) u = K2 at r ⊢
    unfold fX6_meets_133b kds lay
    simp (disch := omega) only [↓nm_s, ↓bnd_s, ↓reduceIte, nI_add, pk_mul, nI_subdiv, nI_sub', nI_m1, nI_0m1, nI_clamp, gdi_nI, gdz_nI, nI_div, nrem, nI_ltI, nI_leI, nI_eq, leT, leF, ltT, ltF, eqT, eqF, neT, neF, z0, m1lt0, m1lt, m1le, nI_ne_neg, neg_ne_nI, embP_a, embL_a, embL_up, embL_up1, up2_ne, up2_at, up2_o, up1_ne, up1_at, bI_eq0, bI_eq1, or_true, true_or, and_true, true_and, or_false, false_or, and_false, false_and, not_true_eq_false, not_false_eq_true, if_true, if_false,  decide_true, decide_false, bI_t, bI_f, Nat.add_sub_cancel, Nat.zero_add, Nat.add_zero, Nat.mul_zero, upd_eq, upd_ne, w, q, l1, r]
    rfl
theorem me_92 {p g x : Nx} {ML : RcL} {N n k j : Nat} {v : Int32} {K : Rc → RcL → Int32 → Int32 → Int32 → Option (Rc × RcL)} {M : Rc} (hp : PI p) (hx : LI p x) (hn : n < 1500) (hN : 100 < N) (hk : k < p 6 0) (h : RelS p g x (M 13)) (h21 : M 21 0 = nI j) (hj : j + 4 + sWait x k ≤ 57) : fX6_meets_92 N K M ML (nI n) (nI (58 * n)) (nI k) (nI (58 * n)) v = K (lay n (v :: eK p x k :: eB p x k :: nI (sWait x k) :: kds p x (x 1 k) (sWait x k)) M) ML (nI n) (nI (58 * n)) (nI (k + 1)) := by
  have hn6 := hp.n
  have w20 := sWait_20 hp hx hk
  have D := h.2.2 k hk
  have w := m_wait hp hk D
  have l1 := lays_ok (M := M) (ML := ML) (v := v) hn (by omega) h21
  have g1 := lay1_21 (n := n) (v := v) h21
  have o1 : lay1 n v M 13 = M 13 := lay1_o (by omega)
  have l2 := lays_ok (M := lay1 n v M) (ML := ML) (v := eK p x k) hn (by omega) g1
  have g2 := lay1_21 (n := n) (v := eK p x k) g1
  have o2 : lay1 n (eK p x k) (lay1 n v M) 13 = M 13 := (lay1_o (by omega)).trans o1
  have l3 := lays_ok (M := lay1 n (eK p x k) (lay1 n v M)) (ML := ML) (v := eB p x k) hn (by omega) g2
  have g3 := lay1_21 (n := n) (v := eB p x k) g2
  have o3 : lay1 n (eB p x k) (lay1 n (eK p x k) (lay1 n v M)) 13 = M 13 := (lay1_o (by omega)).trans o2
  have l4 := lays_ok (M := lay1 n (eB p x k) (lay1 n (eK p x k) (lay1 n v M))) (ML := ML) (v := nI (sWait x k)) hn (by omega) g3
  have g4 := lay1_21 (n := n) (v := nI (sWait x k)) g3
  have o4 : lay1 n (nI (sWait x k)) (lay1 n (eB p x k) (lay1 n (eK p x k) (lay1 n v M))) 13 = M 13 := (lay1_o (by omega)).trans o3
  have r := me_kds (g := g) (ML := ML) (N := N) (K := K) hp hx hn hk (d := sWait x k) (i := 0) (j := j + 1 + 1 + 1 + 1) (u := N) (M := lay1 n (nI (sWait x k)) (lay1 n (eB p x k) (lay1 n (eK p x k) (lay1 n v M)))) (by omega) (by omega) (by rw [o4]; exact h) g4 (by omega)
  have i0 : fX6_its (M 13) (nI k) (nI 0) = some (eK p x k) := (m_its (c := 0) (by omega)).trans (congrArg some D.1)
  have i1 : fX6_its (M 13) (nI k) (nI 1) = some (eB p x k) := (m_its (c := 1) (by omega)).trans (congrArg some D.2.1)
  unfold fX6_meets_92
  rw [l1, bnd_s, o1, i0, bnd_s, l2, bnd_s, o2, i1, bnd_s, l3, bnd_s, o3, w, bnd_s, l4, bnd_s, nm_s]
  unfold fX6_meets_133
  rw [r]
  rfl
theorem me_st {p g x : Nx} {ML : RcL} {N n k j : Nat} {K : Rc → RcL → Int32 → Int32 → Int32 → Option (Rc × RcL)} {M : Rc} (hp : PI p) (hx : LI p x) (hT : x 8 0 < 2 ^ 30) (hn : n < 1500) (hN : 100 < N) (hk : k < p 6 0) (h : RelS p g x (M 13)) (h21 : M 21 0 = nI j) (hj : j + 5 + sWait x k ≤ 57) : fX6_meets_13b N K M ML (nI n) (nI (58 * n)) (nI k) = K (lay n (stR p x k) M) ML (nI n) (nI (58 * n)) (nI (k + 1)) := by
  have hn6 := hp.n
  have D := h.2.2 k hk
  have id := m_idle hp hk D
  have h48 := h.2.1.1.1
  have l1 := lays_ok (M := M) (ML := ML) (v := eL x k) hn (by omega) h21
  have g1 := lay1_21 (n := n) (v := eL x k) h21
  have o1 : lay1 n (eL x k) M 13 = M 13 := lay1_o (by omega)
  have r := fun v => me_92 (ML := ML) (N := N) (K := K) (v := v) (M := lay1 n (eL x k) M) hp hx hn hN hk (by rw [o1]; exact h) g1 (by omega)
  have S1 := h.1.1.2.1
  unfold fX6_meets_13b
  rw [S1, if_nle (by omega) (by omega), id, bnd_s, nm_s]
  by_cases c : x 1 k = x 2 k
  · have e1 : eL x k = -1 := if_pos c
    have e2 : eS p x k = nI 0 := if_pos c
    rw [if_bT (decide_eq_true c)]
    unfold fX6_meets_52
    rw [← e1, l1, bnd_s, if_bT (decide_eq_true c)]
    unfold fX6_meets_76
    rw [r, ← e2]
    rfl
  · have E := hx.e hk c
    have B := D.2.2.1 c
    have e1 : eL x k = nI (x 3 k - x 8 0) := if_neg c
    have e2 : eS p x k = nI (x 3 k - p 0 k - x 8 0) := if_neg c
    have i3 : fX6_its (M 13) (nI k) (nI 3) = some (nI (x 3 k)) := (m_its (c := 3) (by omega)).trans (congrArg some B.2.1)
    have i2 : fX6_its (M 13) (nI k) (nI 2) = some (nI (x 3 k - p 0 k)) := (m_its (c := 2) (by omega)).trans (congrArg some B.1)
    rw [if_bF (decide_eq_false c), i3, bnd_s, h48, nI_sub' (by omega), ← e1]
    unfold fX6_meets_52
    rw [l1, bnd_s, if_bF (decide_eq_false c), o1, i2, bnd_s, h48]
    by_cases d : x 8 0 ≤ x 3 k - p 0 k
    · rw [if_le d (by omega), bnd_s, nI_sub' d, ← e2, r]
      rfl
    · rw [if_nle (by omega) (by omega)]
      unfold fX6_meets_76
      rw [show nI 0 = eS p x k from by rw [e2, show x 3 k - p 0 k - x 8 0 = 0 from by omega], r]
      rfl
theorem me_frs {p g x : Nx} {ML : RcL} {N n : Nat} (hp : PI p) (hg : GI p g) (hx : LI p x) (hT : x 8 0 < 2 ^ 30) (hn : n < 1500) (hN : 100 < N) : ∀ {d l j u : Nat} {M : Rc}, d < u → l + d = p 7 0 → RelS p g x (M 13) → M 21 0 = nI j → j + d + 1 ≤ 57 → itn (fX6_meets_181b N) (fun _ _ _ _ _ => none) u M ML (nI n) (nI (58 * n)) (nI l) = fX6_meets_237 N (lay n (frs p x l d ++ [nI (place p x)]) M) ML (nI n) (nI (58 * n))
  | _, _, _, 0, _, h, _, _, _, _ => by omega
  | 0, l, j, u + 1, M, _, e, h, h21, hj => by
    have hq := hp.q
    have s14 := h.1.1.2.2.1
    have s35 := h.1.1.2.2.2
    have s50 := h.2.1.1.2.2.1
    have pr := m_perR hg h.1 (N := N) (by omega)
    have hf := hx.f
    have h8 := hg.1
    have h9 := hg.2.2.1
    have hs := sumG_le hg (r := p 8 0) (Nat.le_refl _)
    have h1 := hx.k (k := 0) (by have := hp.n; omega)
    rw [itn_s]
    unfold fX6_meets_181b frs
    rw [s14, if_le (by omega) (by omega), s35]
    have l1 := lays_ok (M := M) (ML := ML) (v := nI (place p x)) hn (by omega) h21
    by_cases c : p 8 0 = 0
    · have z9 : p 9 0 = 0 := by rw [h9, c]; rfl
      have zp : place p x = 0 := by unfold place; rw [z9, Nat.zero_mul, if_pos rfl]
      rw [zp] at l1 ⊢
      rw [if_e0 c]
      unfold fX6_meets_234
      rw [l1, bnd_s]
      rfl
    · have hb : p 9 0 * x 7 0 ≤ 120 * 5 := Nat.mul_le_mul (by omega) hf.2
      have hb0 : 0 < p 9 0 * x 7 0 := Nat.mul_pos (by omega) (by omega)
      rw [if_n0 c (by omega), pr, bnd_s, gdz_nI hb0 (by omega), s50, nI_div (by omega) hb0 (by omega), pk_mul, nI_subdiv]
      have zp : place p x = x 1 0 % (p 9 0 * x 7 0) := by unfold place; rw [if_neg (by omega)]
      rw [← zp]
      unfold fX6_meets_234
      rw [l1, bnd_s]
      rfl
  | d + 1, l, j, u + 1, M, hu, e, h, h21, hj => by
    have hq := hp.q
    have s14 := h.1.1.2.2.1
    have q := h.2.1.2 l (by omega)
    have l1 := lays_ok (M := M) (ML := ML) (v := nI (sFree p x l)) hn (by omega) h21
    have r := me_frs (g := g) (ML := ML) (N := N) hp hg hx hT hn hN (d := d) (l := l + 1) (j := j + 1) (u := u) (M := lay1 n (nI (sFree p x l)) M) (by omega) (by omega) (by rw [lay1_o (by omega)]; exact h) (lay1_21 h21) (by omega)
    rw [itn_s]
    generalize itn (fX6_meets_181b N) (fun _ _ _ _ _ => none) u = K2 at r ⊢
    unfold fX6_meets_181b frs
    simp (disch := omega) only [↓nm_s, ↓bnd_s, ↓reduceIte, nI_add, pk_mul, nI_subdiv, nI_sub', nI_m1, nI_0m1, nI_clamp, gdi_nI, gdz_nI, nI_div, nrem, nI_ltI, nI_leI, nI_eq, leT, leF, ltT, ltF, eqT, eqF, neT, neF, z0, m1lt0, m1lt, m1le, nI_ne_neg, neg_ne_nI, embP_a, embL_a, embL_up, embL_up1, up2_ne, up2_at, up2_o, up1_ne, up1_at, bI_eq0, bI_eq1, or_true, true_or, and_true, true_and, or_false, false_or, and_false, false_and, not_true_eq_false, not_false_eq_true, if_true, if_false,  decide_true, decide_false, bI_t, bI_f, Nat.add_sub_cancel, Nat.zero_add, Nat.add_zero, Nat.mul_zero, upd_eq, upd_ne, s14, q, l1, r]
    rfl
theorem me_row {p g x : Nx} {ML : RcL} {N n : Nat} (hp : PI p) (hg : GI p g) (hx : LI p x) (hT : x 8 0 < 2 ^ 30) (hn : n < 1500) (hN : 100 < N) : ∀ {d l j u : Nat} {M : Rc}, d < u → l + d = p 6 0 → RelS p g x (M 13) → M 21 0 = nI j → j + (rowF p x l d).length ≤ 57 → itn (fX6_meets_13b N) (fun _ _ _ _ _ => none) u M ML (nI n) (nI (58 * n)) (nI l) = fX6_meets_237 N (lay n (rowF p x l d) M) ML (nI n) (nI (58 * n))
  | _, _, _, 0, _, h, _, _, _, _ => by omega
  | 0, l, j, u + 1, M, _, e, h, h21, hj => by
    have hn6 := hp.n
    have hq := hp.q
    have s1 := h.1.1.2.1
    unfold rowF at hj
    rw [List.length_append, frs_len, List.length_singleton] at hj
    have r := me_frs (g := g) (ML := ML) (N := N) hp hg hx hT hn hN (d := p 7 0) (l := 0) (j := j) (u := N) (M := M) (by omega) (by omega) h h21 (by omega)
    rw [itn_s]
    unfold fX6_meets_13b rowF
    rw [s1, if_le (by omega) (by omega), nm_s]
    unfold fX6_meets_181
    exact r
  | d + 1, l, j, u + 1, M, hu, e, h, h21, hj => by
    unfold rowF at hj
    rw [List.length_append, stR_len] at hj
    have a := me_st (g := g) (ML := ML) (N := N) (K := itn (fX6_meets_13b N) (fun _ _ _ _ _ => none) u) (M := M) hp hx hT hn hN (k := l) (by omega) h h21 (by omega)
    have r := me_row (g := g) (ML := ML) (N := N) hp hg hx hT hn hN (d := d) (l := l + 1) (j := j + (stR p x l).length) (u := u) (M := lay n (stR p x l) M) (by omega) (by omega) (by rw [lay_o (by omega)]; exact h) (lay_21 h21) (by rw [stR_len]; omega)
    rw [itn_s, a, r, show rowF p x l (d + 1) = stR p x l ++ rowF p x (l + 1) d from rfl, lay_app]
end
section
/-! padding, sums, comparing -/
theorem me_pad {ML : RcL} {N n : Nat} (hn : n < 1500) : ∀ {d j u : Nat} {M : Rc}, d < u → j + d = 58 → M 21 0 = nI j → itn (fX6_meets_237b N) (fun _ _ _ _ => none) u M ML (nI n) (nI (58 * n)) = fX6_meets_263 N (lay n (List.replicate d (nI 0)) M) ML (nI n) (nI (58 * n)) 7 (nI 0)
  | _, _, 0, _, h, _, _ => by omega
  | 0, j, u + 1, M, _, e, h21 => by
    rw [itn_s]
    unfold fX6_meets_237b
    rw [h21, if_le (by omega) (by omega), nm_s, nm_s]
    rfl
  | d + 1, j, u + 1, M, hu, e, h21 => by
    have l1 := lays_ok (M := M) (ML := ML) (v := nI 0) hn (by omega) h21
    have r := me_pad (ML := ML) (N := N) hn (d := d) (j := j + 1) (u := u) (M := lay1 n (nI 0) M) (by omega) (by omega) (lay1_21 h21)
    rw [itn_s]
    generalize itn (fX6_meets_237b N) (fun _ _ _ _ => none) u = K2 at r ⊢
    unfold fX6_meets_237b
    rw [h21, if_nle (by omega) (by omega), l1, bnd_s, r]
    rfl
def smF (f : Nat → Int32) : Nat → Nat → Int64 → Int64
  | _, 0, a => a
  | i, d + 1, a => smF f (i + 1) d (31 * a + (f i).toInt64)
theorem smF_congr {f g : Nat → Int32} : ∀ {d i : Nat} {a : Int64}, (∀ j, i ≤ j → j < i + d → f j = g j) → smF f i d a = smF g i d a
  | 0, _, _, _ => rfl
  | d + 1, i, a, h => by
    unfold smF
    rw [h i (by omega) (by omega)]
    exact smF_congr (fun j h1 h2 => h j (by omega) (by omega))
theorem me_sum {ML : RcL} {M : Rc} {N n : Nat} (hn : n < 1500) : ∀ {d i u : Nat} {a : Int64}, d < u → i + d = 58 → itn (fX6_meets_263b N) (fun _ _ _ _ _ _ => none) u M ML (nI n) (nI (58 * n)) a (nI i) = some (va_up M 17 (upd (M 17) n (M 13 48)), va_up ML 18 (vp_updL (ML 18) n (smF (fun j => M 16 (58 * n + j)) i d a)))
  | _, _, 0, _, h, _ => by omega
  | 0, i, u + 1, a, _, e => by
    rw [itn_s]
    unfold fX6_meets_263b
    rw [if_le (by omega) (by omega), gdi_nI (by omega) (by omega), nI_clamp (by omega), nm_s, gdi_nI (by omega) (by omega), nm_s]
    rfl
  | d + 1, i, u + 1, a, hu, e => by
    have r := me_sum (ML := ML) (M := M) (N := N) hn (d := d) (i := i + 1) (u := u) (a := 31 * a + (M 16 (58 * n + i)).toInt64) (by omega) (by omega)
    rw [itn_s]
    generalize itn (fX6_meets_263b N) (fun _ _ _ _ _ _ => none) u = K2 at r ⊢
    unfold fX6_meets_263b
    rw [if_nle (by omega) (by omega), nI_add, gdi_nI (by omega) (by omega), nI_clamp (by omega), nm_s, nI_add, nm_s, r]
    rfl
def rw0 (p x : Nx) (i : Nat) : Int32 := (rowF p x 0 (p 6 0)).getD i 0
theorem getD_app_l {A B : List Int32} {i : Nat} (h : i < A.length) : (A ++ B).getD i 0 = A.getD i 0 := by
  simp only [List.getD_eq_getElem?_getD, List.getElem?_append_left h]
theorem getD_app_r {A B : List Int32} {i : Nat} : (A ++ B).getD (A.length + i) 0 = B.getD i 0 := by
  simp only [List.getD_eq_getElem?_getD]
  rw [List.getElem?_append_right (by omega), show A.length + i - A.length = i from by omega]
theorem getD_rep {d i : Nat} : (List.replicate d (nI 0)).getD i 0 = nI 0 := by
  simp only [List.getD_eq_getElem?_getD, List.getElem?_replicate]
  by_cases c : i < d
  · rw [if_pos c]; rfl
  · rw [if_neg c]; rfl
theorem getD_over {A : List Int32} {i : Nat} (h : A.length ≤ i) : A.getD i 0 = nI 0 := by
  simp only [List.getD_eq_getElem?_getD, List.getElem?_eq_none h]
  rfl
theorem m_meets {p g x : Nx} {M : Rc} {ML : RcL} {N n : Nat} (hp : PI p) (hg : GI p g) (hx : LI p x) (hT : x 8 0 < 2 ^ 30) (hn : n < 1500) (hN : 100 < N) (h : RelS p g x (M 13)) : ∃ M', fX6_meets N M ML (nI n) = some (M', va_up ML 18 (vp_updL (ML 18) n (smF (rw0 p x) 0 58 7))) ∧ (∀ a, a ≠ 16 → a ≠ 17 → a ≠ 21 → M' a = M a) ∧ M' 17 = upd (M 17) n (nI (x 8 0)) ∧ (∀ i, i < 58 → M' 16 (58 * n + i) = rw0 p x i) ∧ ∀ i, i < 58 * n → M' 16 i = M 16 i := by
  have hn6 := hp.n
  have ln := row_len hp hx
  generalize hM0 : va_up M 21 (fun _ => nI 0) = M0
  have m13 : M0 13 = M 13 := by rw [← hM0, va_up_ne _ _ (by omega)]
  have m21 : M0 21 0 = nI 0 := by rw [← hM0, va_up_self]
  have m16 : M0 16 = M 16 := by rw [← hM0, va_up_ne _ _ (by omega)]
  have a := me_row (g := g) (ML := ML) (N := N) hp hg hx hT hn hN (d := p 6 0) (l := 0) (j := 0) (u := N) (M := M0) (by omega) (by omega) (by rw [m13]; exact h) m21 (by omega)
  have b21 := lay_21 (n := n) (R := rowF p x 0 (p 6 0)) m21
  rw [Nat.zero_add] at b21
  have b := me_pad (ML := ML) (N := N) hn (d := 58 - (rowF p x 0 (p 6 0)).length) (j := (rowF p x 0 (p 6 0)).length) (u := N) (M := lay n (rowF p x 0 (p 6 0)) M0) (by omega) (by omega) b21
  rw [← lay_app] at b
  have e16 : ∀ i, lay n (rowF p x 0 (p 6 0) ++ List.replicate (58 - (rowF p x 0 (p 6 0)).length) (nI 0)) M0 16 i = if 58 * n ≤ i ∧ i < 58 * n + 58 then rw0 p x (i - 58 * n) else M 16 i := by
    intro i
    rw [lay_16 (j := 0) (by rw [List.length_append, List.length_replicate]; omega) m21, m16, List.length_append, List.length_replicate]
    by_cases c : 58 * n ≤ i ∧ i < 58 * n + 58
    · rw [if_pos c, if_pos (by omega), Nat.add_zero]
      unfold rw0
      by_cases d : i - 58 * n < (rowF p x 0 (p 6 0)).length
      · rw [getD_app_l d]
      · rw [show i - 58 * n = (rowF p x 0 (p 6 0)).length + (i - 58 * n - (rowF p x 0 (p 6 0)).length) from by omega, getD_app_r, getD_rep, getD_over (by omega)]
    · rw [if_neg c, if_neg (by omega)]
  generalize hM1 : lay n (rowF p x 0 (p 6 0) ++ List.replicate (58 - (rowF p x 0 (p 6 0)).length) (nI 0)) M0 = M1 at b e16
  have o1 : ∀ a, a ≠ 16 → a ≠ 21 → M1 a = M a := by
    intro a h1 h2
    rw [← hM1, lay_o ⟨h1, h2⟩, ← hM0, va_up_ne _ _ h2]
  have s := me_sum (ML := ML) (M := M1) (N := N) hn (d := 58) (i := 0) (u := N) (a := 7) (by omega) (by omega)
  have es : smF (fun j => M1 16 (58 * n + j)) 0 58 7 = smF (rw0 p x) 0 58 7 := smF_congr (fun j _ hj => by
    show M1 16 (58 * n + j) = _
    rw [e16, if_pos (by omega), show 58 * n + j - 58 * n = j from by omega])
  refine ⟨va_up M1 17 (upd (M1 17) n (M1 13 48)), ?_, ?_, ?_, ?_, ?_⟩
  · unfold fX6_meets
    rw [nm_s, nm_s, hM0, pk_mul, nm_s]
    unfold fX6_meets_13
    rw [a]
    unfold fX6_meets_237
    rw [b]
    unfold fX6_meets_263
    rw [s, es]
  · intro a h1 h2 h3
    rw [va_up_ne _ _ h2, o1 a h1 h3]
  · rw [va_up_self, o1 17 (by omega) (by omega), o1 13 (by omega) (by omega), h.2.1.1.1]
  · intro i hi
    rw [va_up_ne _ _ (by omega), e16, if_pos (by omega), show 58 * n + i - 58 * n = i from by omega]
  · intro i hi
    rw [va_up_ne _ _ (by omega), e16, if_neg (by omega)]
/-! comparing two looks -/
def cmF (f g : Nat → Int32) : Nat → Nat → Bool
  | _, 0 => true
  | i, d + 1 => if f i = g i then cmF f g (i + 1) d else false
theorem cmF_iff {f g : Nat → Int32} : ∀ {d i : Nat}, cmF f g i d = true ↔ ∀ j, i ≤ j → j < i + d → f j = g j
  | 0, i => ⟨fun _ j h1 h2 => by omega, fun _ => rfl⟩
  | d + 1, i => by
    have r := cmF_iff (f := f) (g := g) (d := d) (i := i + 1)
    unfold cmF
    by_cases c : f i = g i
    · rw [if_pos c, r]
      constructor
      · intro h j h1 h2
        by_cases e : j = i
        · rw [e]; exact c
        · exact h j (by omega) (by omega)
      · intro h j h1 h2
        exact h j (by omega) (by omega)
    · rw [if_neg c]
      refine ⟨fun h => (by cases h), fun h => absurd (h i (by omega) (by omega)) c⟩
theorem m_cmp {M : Rc} {ML : RcL} {N a b : Nat} {f g : Nat → Int32} (ha : a < 1500) (hb : b < 1500) (hf : ∀ i, i < 58 → M 16 (58 * a + i) = f i) (hg : ∀ i, i < 58 → M 16 (58 * b + i) = g i) : ∀ {d i u : Nat}, d < u → i + d = 58 → itn (fX6_isMet_20b N) (fun _ _ _ _ _ => none) u M ML (nI a) (nI b) (nI i) = some (bI (cmF f g i d))
  | _, _, 0, h, _ => by omega
  | 0, i, u + 1, _, e => by
    rw [itn_s]
    unfold fX6_isMet_20b
    rw [if_le (by omega) (by omega)]
    rfl
  | d + 1, i, u + 1, hu, e => by
    have r := m_cmp (ML := ML) (N := N) ha hb hf hg (d := d) (i := i + 1) (u := u) (by omega) (by omega)
    rw [itn_s]
    generalize itn (fX6_isMet_20b N) (fun _ _ _ _ _ => none) u = K2 at r ⊢
    unfold fX6_isMet_20b cmF
    rw [if_nle (by omega) (by omega), pk_mul, nI_add, pk_mul, nI_add, gdi_nI (by omega) (by omega), gdi_nI (by omega) (by omega), nI_clamp (by omega), nI_clamp (by omega), hf i (by omega), hg i (by omega)]
    by_cases c : f i = g i
    · rw [if_pos c, if_pos c, nI_add, nm_s, r]
    · rw [if_neg c, if_neg c]
      rfl
/-! equal rows are equal looks -/
theorem rowF_dec {p x y : Nx} (hp : PI p) (hx : LZ p x) (hy : LZ p y) : ∀ {d l : Nat}, l + d = p 6 0 → (∀ i, (rowF p x l d).getD i 0 = (rowF p y l d).getD i 0) → (∀ k, l ≤ k → k < p 6 0 → left x k = left y k ∧ sWait x k = sWait y k) ∧ place p x = place p y
  | 0, l, e, h => by
    refine ⟨fun k h1 h2 => by omega, ?_⟩
    have q := h (p 7 0)
    unfold rowF at q
    have e1 : (frs p x 0 (p 7 0) ++ [nI (place p x)]).getD (p 7 0) 0 = nI (place p x) := by
      have := getD_app_r (A := frs p x 0 (p 7 0)) (B := [nI (place p x)]) (i := 0)
      rw [frs_len] at this
      exact this
    have e2 : (frs p y 0 (p 7 0) ++ [nI (place p y)]).getD (p 7 0) 0 = nI (place p y) := by
      have := getD_app_r (A := frs p y 0 (p 7 0)) (B := [nI (place p y)]) (i := 0)
      rw [frs_len] at this
      exact this
    rw [e1, e2] at q
    have a := place_lt hp hx.1
    have b := place_lt hp hy.1
    rwa [nI_eq (by omega) (by omega)] at q
  | d + 1, l, e, h => by
    have hn6 := hp.n
    have w1 := sWait_20 hp hx.1 (k := l) (by omega)
    have w2 := sWait_20 hp hy.1 (k := l) (by omega)
    have q0 : eL x l = eL y l := h 0
    have q4 : nI (sWait x l) = nI (sWait y l) := h 4
    rw [nI_eq (by omega) (by omega)] at q4
    have ql : left x l = left y l := by
      unfold eL at q0
      unfold left
      by_cases c : x 1 l = x 2 l
      · rw [if_pos c] at q0 ⊢
        by_cases c2 : y 1 l = y 2 l
        · rw [if_pos c2]
        · rw [if_neg c2] at q0
          have := hy.1.e (by omega) c2
          rw [neg_ne_nI (by omega)] at q0
          exact q0.elim
      · have a1 := hx.1.e (by omega) c
        rw [if_neg c] at q0 ⊢
        by_cases c2 : y 1 l = y 2 l
        · rw [if_pos c2] at q0
          rw [nI_ne_neg (by omega)] at q0
          exact q0.elim
        · have a2 := hy.1.e (by omega) c2
          rw [if_neg c2] at q0 ⊢
          rwa [nI_eq (by omega) (by omega)] at q0
    have i := rowF_dec hp hx hy (d := d) (l := l + 1) (by omega) (by
      intro i
      have := h ((stR p x l).length + i)
      unfold rowF at this
      rw [getD_app_r, show (stR p x l).length = (stR p y l).length from by rw [stR_len, stR_len, q4], getD_app_r] at this
      exact this)
    refine ⟨fun k h1 h2 => ?_, i.2⟩
    by_cases c : k = l
    · rw [c]; exact ⟨ql, q4⟩
    · exact i.1 k (by omega) h2
theorem bzF_congr {x y : Nx} : ∀ {d l a : Nat}, (∀ k, l ≤ k → k < l + d → left x k = left y k) → bzF x l d a = bzF y l d a
  | 0, _, _, _ => rfl
  | d + 1, l, a, h => by
    unfold bzF
    rw [h l (by omega) (by omega)]
    exact bzF_congr (fun k h1 h2 => h k (by omega) (by omega))
theorem qzF_congr {x y : Nx} : ∀ {d l a : Nat}, (∀ k, l ≤ k → k < l + d → sWait x k = sWait y k) → qzF x l d a = qzF y l d a
  | 0, _, _, _ => rfl
  | d + 1, l, a, h => by
    unfold qzF
    rw [h l (by omega) (by omega)]
    exact qzF_congr (fun k h1 h2 => h k (by omega) (by omega))
theorem bzF_inj {p x y : Nx} (hx : LI p x) (hy : LI p y) : ∀ {d l a b : Nat}, l + d = p 6 0 → bzF x l d a = bzF y l d b → a = b ∧ ∀ k, l ≤ k → k < l + d → left x k = left y k
  | 0, l, a, b, _, h => ⟨h, fun k h1 h2 => by omega⟩
  | d + 1, l, a, b, e, h => by
    have l1 := left_lt hx (k := l) (by omega)
    have l2 := left_lt hy (k := l) (by omega)
    unfold bzF at h
    have i := bzF_inj hx hy (d := d) (l := l + 1) (by omega) h
    refine ⟨by omega, fun k h1 h2 => ?_⟩
    by_cases c : k = l
    · rw [c]; omega
    · exact i.2 k (by omega) (by omega)
theorem qzF_inj {p x y : Nx} (hp : PI p) (hx : LI p x) (hy : LI p y) : ∀ {d l a b : Nat}, l + d = p 6 0 → qzF x l d a = qzF y l d b → a = b ∧ ∀ k, l ≤ k → k < l + d → sWait x k = sWait y k
  | 0, l, a, b, _, h => ⟨h, fun k h1 h2 => by omega⟩
  | d + 1, l, a, b, e, h => by
    have l1 := sWait_20 hp hx (k := l) (by omega)
    have l2 := sWait_20 hp hy (k := l) (by omega)
    unfold qzF at h
    have i := qzF_inj hp hx hy (d := d) (l := l + 1) (by omega) h
    refine ⟨by omega, fun k h1 h2 => ?_⟩
    by_cases c : k = l
    · rw [c]; omega
    · exact i.2 k (by omega) (by omega)
/-- like looks: all that goes on is as it was, D parts later -/
def Shf (p x y : Nx) (D : Nat) : Prop := (∀ k, k < p 6 0 → y 1 k = x 1 k + D ∧ y 2 k = x 2 k + D ∧ left y k = left x k ∧ sWait y k = sWait x k) ∧ place p y = place p x
theorem left_0 {p x : Nx} (hx : LZ p x) {k : Nat} (hk : k < p 6 0) : left x k = 0 ↔ x 1 k = x 2 k := by
  unfold left
  by_cases c : x 1 k = x 2 k
  · rw [if_pos c]; exact ⟨fun _ => c, fun _ => rfl⟩
  · have := hx.2.1 k (by omega) hk c
    rw [if_neg c]
    exact ⟨fun z => by omega, fun z => absurd z c⟩
theorem kE_shf {p x y : Nx} {D : Nat} (hp : PI p) (hx : LZ p x) (hy : LZ p y) (hD : y 2 (p 6 0 - 1) = x 2 (p 6 0 - 1) + D) (h : kE p x y = true) : Shf p x y D := by
  have hn6 := hp.n
  have h := kE_iff.mp h
  have hb := bzF_inj hx.1 hy.1 (d := p 6 0) (l := 0) (by omega) h.1
  have hq := qzF_inj hp hx.1 hy.1 (d := p 6 0) (l := 0) (by omega) h.2
  have key : ∀ d k, k + d + 1 = p 6 0 → y 1 k = x 1 k + D ∧ y 2 k = x 2 k + D := by
    intro d
    induction d with
    | zero =>
      intro k e
      rw [show k = p 6 0 - 1 from by omega]
      refine ⟨?_, hD⟩
      have a := hb.2 (p 6 0 - 1) (by omega) (by omega)
      have i1 := left_0 hx (k := p 6 0 - 1) (by omega)
      have i2 := left_0 hy (k := p 6 0 - 1) (by omega)
      have k1 := hx.1.k (k := p 6 0 - 1) (by omega)
      have k2 := hy.1.k (k := p 6 0 - 1) (by omega)
      by_cases c : x 1 (p 6 0 - 1) = x 2 (p 6 0 - 1)
      · have := i2.mp (by rw [← a]; exact i1.mpr c)
        omega
      · have : ¬ y 1 (p 6 0 - 1) = y 2 (p 6 0 - 1) := fun z => c (i1.mp (by rw [a]; exact i2.mpr z))
        omega
    | succ d ih =>
      intro k e
      have n1 := ih (k + 1) (by omega)
      have w := hq.2 (k + 1) (by omega) (by omega)
      unfold sWait at w
      rw [if_neg (by omega), if_neg (by omega), show k + 1 - 1 = k from rfl] at w
      have s1 := hx.1.s (k := k) (by omega)
      have s2 := hy.1.s (k := k) (by omega)
      have a := hb.2 k (by omega) (by omega)
      have i1 := left_0 hx (k := k) (by omega)
      have i2 := left_0 hy (k := k) (by omega)
      have k1 := hx.1.k (k := k) (by omega)
      have k2 := hy.1.k (k := k) (by omega)
      by_cases c : x 1 k = x 2 k
      · have := i2.mp (by rw [← a]; exact i1.mpr c)
        omega
      · have : ¬ y 1 k = y 2 k := fun z => c (i1.mp (by rw [a]; exact i2.mpr z))
        omega
  refine ⟨fun k hk => ?_, hb.1.symm⟩
  have a := key (p 6 0 - 1 - k) k (by omega)
  exact ⟨a.1, a.2, (hb.2 k (by omega) (by omega)).symm, (hq.2 k (by omega) (by omega)).symm⟩
theorem kind_shift {p : Nx} {f D : Nat} (hf : 1 ≤ f) {a : Nat} (h : p 9 0 * f ≠ 0 → a % (p 9 0 * f) = (a + D) % (p 9 0 * f)) (m : Nat) : sKind p f (m + D) = sKind p f m := by
  unfold sKind
  by_cases c : p 9 0 = 0
  · rw [if_pos c, if_pos c]
  · have h0 : p 9 0 * f ≠ 0 := Nat.mul_ne_zero c (by omega)
    have e := h h0
    rw [if_neg c, if_neg c]
    have dv : D % (p 9 0 * f) = 0 := by
      have e2 : (a + 0) % (p 9 0 * f) = (a + D) % (p 9 0 * f) := e
      have := Nat.add_mod a D (p 9 0 * f)
      have l1 := Nat.mod_lt a (show p 9 0 * f > 0 from by omega)
      have l2 := Nat.mod_lt D (show p 9 0 * f > 0 from by omega)
      generalize p 9 0 * f = q at *
      generalize a % q = r at *
      generalize D % q = s at *
      rw [← e] at this
      by_cases c2 : r + s < q
      · rw [Nat.mod_eq_of_lt c2] at this; omega
      · rw [Nat.mod_eq_sub_mod (by omega), Nat.mod_eq_of_lt (by omega)] at this; omega
    obtain ⟨t, ht⟩ := Nat.dvd_of_mod_eq_zero dv
    rw [ht, show p 9 0 * f * t = (p 9 0 * t) * f from by rw [Nat.mul_assoc, Nat.mul_comm f t, ← Nat.mul_assoc], Nat.add_mul_div_right _ _ (by omega), Nat.add_mul_mod_self_left]
end
section
/-! like looks, like rows -/
theorem kds_shf {p x y : Nx} {D : Nat} (h7 : y 7 0 = x 7 0) (hk : ∀ m, sKind p (x 7 0) (m + D) = sKind p (x 7 0) m) : ∀ {w m : Nat}, kds p y (m + D) w = kds p x m w
  | 0, _ => rfl
  | w + 1, m => by
    have i := kds_shf (w := w) (m := m + 1) h7 hk
    rw [show m + 1 + D = m + D + 1 from by omega] at i
    rw [kds, kds, i, h7, hk]
theorem frs_shf {p x y : Nx} {D : Nat} (hp : PI p) (h : Shf p x y D) (h4 : ∀ l, l < p 7 0 → y 4 l = x 4 l) : ∀ {d l : Nat}, l + d = p 7 0 → frs p y l d = frs p x l d
  | 0, _, _ => rfl
  | d + 1, l, e => by
    have a := hp.l (l := l) (by omega)
    have b := h.1 (p 2 l) (by omega)
    have c := h.1 (p 3 l) (by omega)
    have f := h4 l (by omega)
    rw [frs, frs, frs_shf hp h h4 (d := d) (l := l + 1) (by omega)]
    congr 2
    unfold sFree
    omega
theorem row_shf {p x y : Nx} {D : Nat} (hp : PI p) (hx : LZ p x) (hy : LZ p y) (h : Shf p x y D) (h7 : y 7 0 = x 7 0) (h4 : ∀ l, l < p 7 0 → y 4 l = x 4 l) (ho : 1 ≤ x 2 (p 6 0 - 1)) : ∀ {d l : Nat}, l + d = p 6 0 → rowF p y l d = rowF p x l d
  | 0, _, _ => by rw [rowF, rowF, frs_shf hp h h4 (by omega), h.2]
  | d + 1, l, e => by
    have hn6 := hp.n
    have a := h.1 l (by omega)
    have a0 := h.1 0 (by omega)
    have hk : ∀ m, sKind p (x 7 0) (m + D) = sKind p (x 7 0) m := by
      intro m
      have f1 := hx.1.f
      have pl := h.2
      refine kind_shift (a := x 1 0) f1.1 (fun z => ?_) m
      unfold place at pl
      rw [h7, if_neg z, if_neg z, a0.1] at pl
      exact pl.symm
    have i := row_shf hp hx hy h h7 h4 ho (d := d) (l := l + 1) (by omega)
    have mo := hx.1.mono' (j := p 6 0 - 1) (k := l) (by omega) (by omega)
    rw [rowF, rowF, i]
    congr 1
    unfold stR
    have w := a.2.2.2
    have e1 : eL y l = eL x l := by
      have q := a.2.2.1
      unfold left at q
      unfold eL
      by_cases c : x 1 l = x 2 l
      · rw [if_pos c, if_pos (by omega)]
      · rw [if_neg c, if_neg (by omega)] at q
        rw [if_neg c, if_neg (by omega)]
        exact congrArg nI q
    have e2 : eS p y l = eS p x l := by
      have q := a.2.2.1
      unfold left at q
      unfold eS
      by_cases c : x 1 l = x 2 l
      · rw [if_pos c, if_pos (by omega)]
      · have b1 := hx.1.e (by omega) c
        have b2 := hy.1.e (k := l) (by omega) (by omega)
        rw [if_neg (by omega), if_neg c] at q
        rw [if_neg (by omega), if_neg c]
        exact congrArg nI (by omega)
    have e3 : eK p y l = eK p x l := by
      unfold eK
      by_cases c : x 1 l = x 2 l
      · rw [if_pos c, if_pos (by omega)]
      · have b1 := hx.1.k (k := l) (by omega)
        rw [if_neg c, if_neg (by omega), h7, show y 1 l - 1 = x 1 l - 1 + D from by omega, hk]
    have e4 : eB p y l = eB p x l := by
      unfold eB
      rw [if_neg (by omega), if_neg (by omega), h7, show y 2 l - 1 = x 2 l - 1 + D from by omega, hk]
    rw [e1, e2, e3, e4, w, a.1, kds_shf h7 hk]
theorem kE_row {p x y : Nx} {D : Nat} (hp : PI p) (hx : LZ p x) (hy : LZ p y) (h7 : y 7 0 = x 7 0) (h4 : ∀ l, l < p 7 0 → y 4 l = x 4 l) (ho : 1 ≤ x 2 (p 6 0 - 1)) (hD : y 2 (p 6 0 - 1) = x 2 (p 6 0 - 1) + D) : kE p x y = true ↔ ∀ i, i < 58 → rw0 p x i = rw0 p y i := by
  constructor
  · intro h i _
    unfold rw0
    rw [row_shf hp hx hy (kE_shf hp hx hy hD h) h7 h4 ho (by omega)]
  · intro h
    have l1 := row_len hp hx.1
    have l2 := row_len hp hy.1
    have r := rowF_dec hp hx hy (d := p 6 0) (l := 0) (by omega) (by
      intro i
      by_cases c : i < 58
      · exact h i c
      · rw [getD_over (by omega), getD_over (by omega)])
    apply kE_iff.mpr
    unfold bz qz
    rw [r.2, bzF_congr (y := y) (fun k h1 h2 => (r.1 k h1 (by omega)).1), qzF_congr (y := y) (fun k h1 h2 => (r.1 k h1 (by omega)).2)]
    exact ⟨rfl, rfl⟩
theorem m_isMet {p xa xb : Nx} {M : Rc} {ML : RcL} {N a b : Nat} (hN : 100 < N) (ha : a < 1500) (hb : b < 1500) (hf : ∀ i, i < 58 → M 16 (58 * a + i) = rw0 p xa i) (hg : ∀ i, i < 58 → M 16 (58 * b + i) = rw0 p xb i) (sa : ML 18 a = smF (rw0 p xa) 0 58 7) (sb : ML 18 b = smF (rw0 p xb) 0 58 7) (h : kE p xa xb = true ↔ ∀ i, i < 58 → rw0 p xa i = rw0 p xb i) : fX6_isMet N M ML (nI a) (nI b) = some (bI (kE p xa xb)) := by
  have cm := m_cmp (ML := ML) (N := N) ha hb hf hg (d := 58) (i := 0) (u := N) (by omega) (by omega)
  have ci := cmF_iff (f := rw0 p xa) (g := rw0 p xb) (d := 58) (i := 0)
  have e : cmF (rw0 p xa) (rw0 p xb) 0 58 = kE p xa xb := by
    rw [Bool.eq_iff_iff, ci, h]
    exact ⟨fun q i hi => q i (by omega) (by omega), fun q j _ hj => q j (by omega)⟩
  unfold fX6_isMet
  rw [gdi_nI ha (by omega), gdi_nI hb (by omega), nI_clamp (by omega), nI_clamp (by omega)]
  by_cases c : ML 18 a = ML 18 b
  · rw [if_pos (by rw [lg_cmp_eq]; exact c), nm_s]
    unfold fX6_isMet_20
    rw [cm, e]
  · rw [if_neg (by rw [lg_cmp_eq]; exact c)]
    have : kE p xa xb = false := by
      rw [Bool.eq_false_iff]
      intro z
      apply c
      rw [sa, sb]
      exact smF_congr (fun j _ hj => h.mp z j (by omega))
    rw [this]
    rfl
/-! the model's pace -/
def MI (p x : Nx) (n : Nat) (M : Rc) (ML : RcL) : Prop := ∀ j, j < n → (∀ i, i < 58 → M 16 (58 * j + i) = rw0 p (pre p x (j + 1)) i) ∧ M 17 j = nI (pre p x (j + 1) 8 0) ∧ ML 18 j = smF (rw0 p (pre p x (j + 1))) 0 58 7
theorem m_lp51 {p x : Nx} {C : Nat → Nat} {f : Nat} (hp : PI p) (h : Stt p C f x) {n N : Nat} (hn : n < 1500) (hN : 100 < N) {M : Rc} {ML : RcL} (hM : MI p x (n + 1) M ML) {K : Rc → RcL → Int32 → Option (Int32 × (Rc × RcL))} : ∀ {m u : Nat}, m < u → m ≤ n → itn (fX6_laysPace_51b N K) (fun _ _ _ _ => none) u M ML (nI n) (dI m) = match lastEq p x n m with
    | some k => some (nI 1, (va_up (va_up M 19 (fun _ => nI ((n - k) / pcD p x k n))) 20 (fun _ => nI ((pre p x (n + 1) 8 0 - pre p x (k + 1) 8 0) / pcD p x k n)), ML))
    | none => K M ML (nI (n + 1))
  | _, 0, h, _ => by omega
  | 0, u + 1, _, _ => by
    rw [itn_s]
    unfold fX6_laysPace_51b lastEq
    rw [dI_0, if_pos (by decide), nI_add, nm_s]
  | m + 1, u + 1, hu, hm => by
    have pm := pre_ok hp h (n := m + 1) (by omega)
    have pn := pre_ok hp h (n := n + 1) (by omega)
    have i := m_lp51 hp h hn hN hM (K := K) (m := m) (u := u) (by omega) (by omega)
    have a := hM m (by omega)
    have b := hM n (by omega)
    have mt := m_isMet (p := p) (xa := pre p x (m + 1)) (xb := pre p x (n + 1)) (N := N) hN (by omega) hn a.1 b.1 a.2.2 b.2.2 (kE_row (D := n - m) hp pm.1 pn.1 (by rw [pm.2.2.2.1, pn.2.2.2.1]) (fun l hl => by rw [pm.2.2.2.2 l hl, pn.2.2.2.2 l hl]) (by rw [pm.2.1]; omega) (by rw [pm.2.1, pn.2.1]; omega))
    rw [itn_s, dI_s]
    generalize itn (fX6_laysPace_51b N K) (fun _ _ _ _ => none) u = K2 at i ⊢
    unfold fX6_laysPace_51b
    rw [if_l0 (by omega), mt, bnd_s]
    unfold lastEq
    by_cases c : kE p (pre p x (m + 1)) (pre p x (n + 1)) = true
    · have tt := pre_time hp h (d := n - m) (m := m + 1) (by omega)
      rw [show m + 1 + (n - m) = n + 1 from by omega] at tt
      have gp : 0 < pcD p x m n := Nat.gcd_pos_of_pos_left _ (by omega)
      have gl : pcD p x m n ≤ n - m := Nat.le_of_dvd (by omega) (Nat.gcd_dvd_left _ _)
      have cd := m_gcd (a := n - m) (b := pre p x (n + 1) 8 0 - pre p x (m + 1) 8 0) (by omega) (by omega)
      rw [show Nat.gcd (n - m) (pre p x (n + 1) 8 0 - pre p x (m + 1) 8 0) = pcD p x m n from rfl] at cd
      rw [if_bT c, if_pos c, gdi_nI hn (by omega), gdi_nI (by omega) (by omega), nI_clamp (by omega), nI_clamp (by omega), b.2.1, a.2.1, nI_sub' (by omega), nI_sub' (by omega), cd, bnd_s, nm_s, gdz_nI gp (by omega), nI_div (by omega) gp (by omega), nm_s, gdi_nI hn (by omega), gdi_nI (by omega) (by omega), gdz_nI gp (by omega), va_up_ne _ _ (show (17 : Nat) ≠ 19 from by omega), b.2.1, a.2.1, nI_sub' (by omega), nI_div (by omega) gp (by omega), nm_s]
    · rw [if_bF (Bool.eq_false_iff.mpr c), if_neg c, dI_f, nm_s, i]
theorem m_lp16 {p g : Nx} {n N : Nat} (hp : PI p) (hg : GI p g) (hN : 100 < N) (hn : n < 1500) {ML : RcL} {K : Rc → RcL → Int32 → Option (Int32 × (Rc × RcL))} : ∀ {d u : Nat} {y : Nx} {M : Rc}, LZ p y → RelS p g y (M 13) → (y 2 (p 6 0 - 1) = n → sumD y n (p 6 0 - 1) < d) → (y 2 (p 6 0 - 1) = n ∨ y 2 (p 6 0 - 1) = n + 1) → y 8 0 + 120 * d < 2 ^ 29 → d < u → ∃ M', (∀ a, a ≠ 13 → M' a = M a) ∧ RelS p g (leapN p n d y) (M' 13) ∧ itn (fX6_laysPace_16b N K) (fun _ _ _ => none) u M ML (nI n) = bnd (fX6_meets N M' ML (nI n)) (fun z1 => nm (nI n - nI 1) (fun v2 => fX6_laysPace_51 N K z1.1 z1.2 (nI n) v2))
  | _, 0, _, _, _, _, _, _, _, h => by omega
  | d, u + 1, y, M, hy, hr, h1, h2, h3, hu => by
    have hn6 := hp.n
    have s49 := hr.2.1.1.2.1
    by_cases c : y 2 (p 6 0 - 1) = n
    · obtain ⟨e, rfl⟩ : ∃ e, d = e + 1 := ⟨d - 1, by have := h1 c; omega⟩
      obtain ⟨T, t1, t2⟩ := m_step hp hg hN hy (by omega) hr
      have so := step_out hp c
      have z := LZ_step hp hy (by omega)
      have b := sNext_b hp hy (by omega)
      have r := m_lp16 hp hg hN hn (ML := ML) (K := K) (d := e) (u := u) (y := sStep p y) (M := va_up M 13 T) z (by rw [va_up_self]; exact t2) (fun q => by have := sumD_step hp hy (by omega) c q; have := h1 c; omega) so (by rw [step_8]; omega) (by omega)
      obtain ⟨M', r1, r2, r3⟩ := r
      refine ⟨M', fun a ha => by rw [r1 a ha, va_up_ne _ _ ha], by rw [leapN_go c]; exact r2, ?_⟩
      rw [itn_s]
      generalize itn (fX6_laysPace_16b N K) (fun _ _ _ => none) u = K2 at r3 ⊢
      unfold fX6_laysPace_16b
      rw [s49, if_nlt (by omega) (by omega), t1, bnd_s, nm_s, r3]
    · refine ⟨M, fun _ _ => rfl, by rw [leapN_stop c]; exact hr, ?_⟩
      rw [itn_s]
      unfold fX6_laysPace_16b
      rw [s49, if_lt (by omega) (by omega)]
theorem m_lp9 {p g x : Nx} {C : Nat → Nat} {f : Nat} (hp : PI p) (hg : GI p g) (h : Stt p C f x) {N : Nat} (hN : 1600 < N) : ∀ {d n u : Nat} {M : Rc} {ML : RcL}, d < u → n + d = 1500 → MI p x n M ML → RelS p g (pre p x n) (M 13) → ∃ b M' ML', itn (fX6_laysPace_9b N) (fun _ _ _ => none) u M ML (nI n) = some (bI b, (M', ML')) ∧ (∀ a, a ≠ 13 → a ≠ 16 → a ≠ 17 → a ≠ 19 → a ≠ 20 → a ≠ 21 → M' a = M a) ∧ (paceAt p x d n = none → b = false) ∧ ∀ o, paceAt p x d n = some o → b = true ∧ M' 19 0 = pcP p x (some o) ∧ M' 20 0 = pcM p x (some o)
  | _, _, 0, _, _, h, _, _, _ => by omega
  | 0, n, u + 1, M, ML, _, e, _, _ => by
    refine ⟨false, M, ML, ?_, fun _ _ _ _ _ _ _ => rfl, fun _ => rfl, fun o ho => by cases ho⟩
    rw [itn_s]
    unfold fX6_laysPace_9b
    rw [if_le (by omega) (by omega)]
    rfl
  | d + 1, n, u + 1, M, ML, hu, e, hM, hr => by
    have pn := pre_ok hp h (n := n) (by omega)
    have pn1 := pre_ok hp h (n := n + 1) (by omega)
    obtain ⟨M1, a1, a2, a3⟩ := m_lp16 (N := N) hp hg (by omega) (show n < 1500 from by omega) (ML := ML) (K := itn (fX6_laysPace_9b N) (fun _ _ _ => none) u) (d := 102) (u := N) (y := pre p x n) (M := M) pn.1 hr (fun q => by have := sumD_100 hp pn.1; rw [q] at this; omega) (Or.inl pn.2.1) (by omega) (by omega)
    rw [show leapN p n 102 (pre p x n) = pre p x (n + 1) from by show _ = leapN p (pre p x n 2 (p 6 0 - 1)) 102 (pre p x n); rw [pn.2.1]] at a2
    obtain ⟨M2, b1, b2, b3, b4, b5⟩ := m_meets (ML := ML) (N := N) hp hg pn1.1.1 (by omega) (show n < 1500 from by omega) (by omega) a2
    generalize hL2 : va_up ML 18 (vp_updL (ML 18) n (smF (rw0 p (pre p x (n + 1))) 0 58 7)) = ML2 at b1
    have hM2 : MI p x (n + 1) M2 ML2 := by
      intro j hj
      by_cases c : j = n
      · subst c
        refine ⟨b4, ?_, ?_⟩
        · rw [b3, upd_eq rfl]
        · rw [← hL2, va_up_self, pk_uLs]
      · have q := hM j (by omega)
        refine ⟨fun i hi => ?_, ?_, ?_⟩
        · rw [b5 _ (by omega), a1 16 (by omega)]; exact q.1 i hi
        · rw [b3, upd_ne c, a1 17 (by omega)]; exact q.2.1
        · rw [← hL2, va_up_self, pk_uLn c]; exact q.2.2
    have o2 : ∀ a, a ≠ 13 → a ≠ 16 → a ≠ 17 → a ≠ 21 → M2 a = M a := fun a h1 h2 h3 h4 => (b2 a h2 h3 h4).trans (a1 a h1)
    have lp := m_lp51 hp h (N := N) (show n < 1500 from by omega) (by omega) hM2 (K := itn (fX6_laysPace_9b N) (fun _ _ _ => none) u) (m := n) (u := N) (by omega) (Nat.le_refl _)
    rw [itn_s]
    have st : fX6_laysPace_9b N (itn (fX6_laysPace_9b N) (fun _ _ _ => none) u) M ML (nI n) = itn (fX6_laysPace_51b N (itn (fX6_laysPace_9b N) (fun _ _ _ => none) u)) (fun _ _ _ _ => none) N M2 ML2 (nI n) (dI n) := by
      generalize itn (fX6_laysPace_9b N) (fun _ _ _ => none) u = K at a3 ⊢
      unfold fX6_laysPace_9b
      rw [if_nle (by omega) (by omega)]
      unfold fX6_laysPace_16
      rw [a3, b1, bnd_s, nm_s]
      unfold fX6_laysPace_51
      rw [show nI n - nI 1 = dI n from by unfold dI; rw [Int32.sub_eq_add_neg]; rfl]
    rw [st, lp]
    unfold paceAt
    cases le : lastEq p x n n with
    | none =>
      simp only
      obtain ⟨b, M', ML', c1, c2, c3, c4⟩ := m_lp9 hp hg h hN (d := d) (n := n + 1) (u := u) (M := M2) (ML := ML2) (by omega) (by omega) hM2 (by rw [b2 13 (by omega) (by omega) (by omega)]; exact a2)
      exact ⟨b, M', ML', c1, fun a h1 h2 h3 h4 h5 h6 => (c2 a h1 h2 h3 h4 h5 h6).trans (o2 a h1 h2 h3 h6), c3, c4⟩
    | some k =>
      simp only
      refine ⟨true, _, _, rfl, fun a h1 h2 h3 h4 h5 h6 => ?_, fun z => (by cases z), fun o ho => ?_⟩
      · rw [va_up_ne _ _ h5, va_up_ne _ _ h4]
        exact o2 a h1 h2 h3 h6
      · cases ho
        refine ⟨rfl, ?_, ?_⟩
        · rw [va_up_ne _ _ (by omega), va_up_self]; rfl
        · rw [va_up_self]; rfl
theorem m_lays {p g x : Nx} {C : Nat → Nat} {f N : Nat} {M : Rc} {ML : RcL} (hp : PI p) (hg : GI p g) (hN : 1600 < N) (hf : 1 ≤ f ∧ f ≤ 5) (hC : ∀ l, l < p 7 0 → 1 ≤ C l ∧ C l ≤ 20) (h : Stat p g C f (M 13)) : ∃ b M' ML', fX6_laysPace N M ML = some (bI b, (M', ML')) ∧ (∀ a, a ≠ 13 → a ≠ 16 → a ≠ 17 → a ≠ 19 → a ≠ 20 → a ≠ 21 → M' a = M a) ∧ (paceAt p (sRound p (sClr x C f)) 1500 0 = none → b = false) ∧ ∀ o, paceAt p (sRound p (sClr x C f)) 1500 0 = some o → b = true ∧ M' 19 0 = pcP p (sRound p (sClr x C f)) (some o) ∧ M' 20 0 = pcM p (sRound p (sClr x C f)) (some o) := by
  obtain ⟨T, t1, t2, _⟩ := m_begins (x := x) hp hg (N := N) (by omega) hf hC h
  have st := Stt_new (x := x) hp hf hC
  generalize sRound p (sClr x C f) = x0 at t2 st ⊢
  obtain ⟨b, M', ML', c1, c2, c3, c4⟩ := m_lp9 (ML := ML) hp hg st hN (d := 1500) (n := 0) (u := N) (M := va_up M 13 T) (by omega) (by omega) (fun j hj => by omega) (by rw [va_up_self]; exact t2)
  refine ⟨b, M', ML', ?_, fun a h1 h2 h3 h4 h5 h6 => ?_, c3, c4⟩
  · unfold fX6_laysPace
    rw [t1, bnd_s, nm_s, nm_s]
    unfold fX6_laysPace_9
    exact c1
  · rw [c2 a h1 h2 h3 h4 h5 h6, va_up_ne _ _ h1]
end
section
/-! no pace is above what a ring allows -/
/-- work that was done at a station -/
def wkS (p x : Nx) (k : Nat) : Nat := p 0 k * x 2 k + (if x 1 k = x 2 k then 0 else p 0 k - (x 3 k - x 8 0))
def wk (p x : Nx) (a : Nat) : Nat → Nat
  | 0 => 0
  | d + 1 => wk p x a d + wkS p x (a + d)
def bsy (x : Nx) (a : Nat) : Nat → Nat
  | 0 => 0
  | d + 1 => bsy x a d + (x 1 (a + d) - x 2 (a + d))
def tmS' (p : Nx) (a : Nat) : Nat → Nat
  | 0 => 0
  | d + 1 => tmS' p a d + p 0 (a + d)
theorem wkS_fin {p x : Nx} {k j : Nat} (hb : x 1 k ≠ x 2 k) (hx : x 1 k ≤ x 2 k + 1 ∧ x 2 k ≤ x 1 k) (hd : x 3 k ≤ x 8 0) : wkS p (sFin p x k) j = wkS p x j := by
  unfold wkS
  rw [sFin_2, sFin_o (by omega), sFin_o (by omega), sFin_o (by omega)]
  by_cases c : j = k
  · subst c
    rw [if_pos rfl, if_pos (by omega), if_neg hb, Nat.mul_add]
    omega
  · rw [if_neg c]
theorem wkS_beg {p x : Nx} {k j : Nat} (hb : x 1 k = x 2 k) : wkS p (sBeg p x k) j = wkS p x j := by
  unfold wkS
  rw [sBeg_1, sBeg_3, sBeg_o (by omega), sBeg_o (by omega)]
  by_cases c : j = k
  · subst c
    rw [if_pos rfl, if_pos rfl, if_neg (by omega), if_pos hb]
    omega
  · rw [if_neg c, if_neg c]
theorem wkS_finIf {p x : Nx} {k j : Nat} (hx : LI p x) (hk : k < p 6 0) : wkS p (sFinIf p x k) j = wkS p x j := by
  have h := hx.k hk
  unfold sFinIf
  by_cases c : x 1 k = x 2 k
  · rw [if_pos c]
  · rw [if_neg c]
    by_cases d : x 8 0 < x 3 k
    · rw [if_pos d]
    · rw [if_neg d, wkS_fin c (by omega) (by omega)]
theorem wkS_begIf {p x : Nx} {k j : Nat} : wkS p (sBegIf p x k) j = wkS p x j := by
  unfold sBegIf
  by_cases c : x 1 k = x 2 k
  · rw [if_pos c]
    by_cases d : canB p x k = true
    · rw [if_pos d, wkS_beg c]
    · rw [if_neg d]
  · rw [if_neg c]
theorem wkS_down1 {p : Nx} (hp : PI p) {j : Nat} : ∀ {m : Nat} {x : Nx}, m ≤ p 6 0 → LI p x → wkS p (down (sFinIf p) m x) j = wkS p x j
  | 0, _, _, _ => rfl
  | m + 1, x, hm, hx => by
    show wkS p (down (sFinIf p) m (sFinIf p x m)) j = _
    rw [wkS_down1 hp (by omega) (LI_finIf hp hx (by omega)), wkS_finIf hx (by omega)]
theorem wkS_down2 {p : Nx} {j : Nat} : ∀ {m : Nat} {x : Nx}, wkS p (down (sBegIf p) m x) j = wkS p x j
  | 0, _ => rfl
  | m + 1, x => by
    show wkS p (down (sBegIf p) m (sBegIf p x m)) j = _
    rw [wkS_down2, wkS_begIf]
theorem wkS_round {p x : Nx} (hp : PI p) (hx : LI p x) {j : Nat} : wkS p (sRound p x) j = wkS p x j := by
  unfold sRound
  rw [wkS_down2, wkS_down1 hp (Nat.le_refl _) hx]
theorem wkS_time {p x : Nx} {u k : Nat} (hx : LI p x) (hk : k < p 6 0) (h1 : x 8 0 ≤ u) (h2 : ∀ k, k < p 6 0 → x 1 k ≠ x 2 k → u ≤ x 3 k) : wkS p (up1 x 8 u) k ≤ wkS p x k + (u - x 8 0) * (x 1 k - x 2 k) := by
  have a := hx.k hk
  unfold wkS
  rw [up1_ne (by omega), up1_ne (by omega), up1_ne (by omega), up1_at]
  by_cases c : x 1 k = x 2 k
  · rw [if_pos c, if_pos c]; omega
  · have b := hx.e hk c
    have d := h2 k hk c
    rw [if_neg c, if_neg c, show x 1 k - x 2 k = 1 from by omega, Nat.mul_one]
    omega
theorem wk_time {p x : Nx} {u a : Nat} (hx : LI p x) (h1 : x 8 0 ≤ u) (h2 : ∀ k, k < p 6 0 → x 1 k ≠ x 2 k → u ≤ x 3 k) : ∀ {d : Nat}, a + d ≤ p 6 0 → wk p (up1 x 8 u) a d ≤ wk p x a d + (u - x 8 0) * bsy x a d
  | 0, _ => Nat.le_refl _
  | d + 1, h => by
    have i := wk_time (a := a) hx h1 h2 (d := d) (by omega)
    have s := wkS_time (k := a + d) hx (by omega) h1 h2
    unfold wk bsy
    rw [Nat.mul_add]
    omega
theorem wk_congr {p x y : Nx} {a : Nat} (h : ∀ j, wkS p y j = wkS p x j) : ∀ {d : Nat}, wk p y a d = wk p x a d
  | 0 => rfl
  | d + 1 => by
    unfold wk
    rw [wk_congr h, h]
theorem bsy_le {p x : Nx} (hx : LI p x) {a : Nat} : ∀ {d : Nat}, a + d < p 6 0 → bsy x a (d + 1) + x 2 (a + d) ≤ x 1 a
  | 0, h => by
    have := hx.k (k := a) h
    show 0 + (x 1 (a + 0) - x 2 (a + 0)) + x 2 (a + 0) ≤ x 1 a
    rw [Nat.add_zero]
    omega
  | d + 1, h => by
    have i := bsy_le hx (a := a) (d := d) (by omega)
    have s := hx.s (k := a + d) (by omega)
    have k := hx.k (k := a + (d + 1)) h
    unfold bsy
    rw [show a + d + 1 = a + (d + 1) from by omega] at s
    omega
theorem wk_step {p x : Nx} {a d c : Nat} (hp : PI p) (hx : LZ p x) (hT : x 8 0 < 2 ^ 30) (ha : a + d < p 6 0) (hc : x 1 a ≤ c + x 2 (a + d)) : wk p (sStep p x) a (d + 1) ≤ wk p x a (d + 1) + c * (sStep p x 8 0 - x 8 0) := by
  have b := sNext_b hp hx hT
  have e := wk_congr (p := p) (x := up1 x 8 (sNext p x)) (y := sStep p x) (a := a) (fun j => wkS_round hp (LI_step hp hx hT)) (d := d + 1)
  have t := wk_time (a := a) (u := sNext p x) hx.1 (by omega) (fun k hk hb => sNext_le hk hb) (d := d + 1) (by omega)
  have y := bsy_le hx.1 ha
  have m : (sNext p x - x 8 0) * bsy x a (d + 1) ≤ (sNext p x - x 8 0) * c := Nat.mul_le_mul_left _ (by omega)
  rw [e, step_8, Nat.mul_comm c]
  omega
/-- what bounds the cards of a ring: a LOOP, or a STATION alone -/
def Rng (p : Nx) (C : Nat → Nat) (a d c : Nat) : Prop := a + d < p 6 0 ∧ ((d = 0 ∧ c = 1) ∨ ∃ l, l < p 7 0 ∧ p 2 l = a ∧ p 3 l = a + d ∧ C l = c)
theorem Rng.use {p x : Nx} {C : Nat → Nat} {a d c : Nat} (hx : LI p x) (h4 : ∀ l, l < p 7 0 → x 4 l = C l) (h : Rng p C a d c) : x 1 a ≤ c + x 2 (a + d) := by
  rcases h.2 with ⟨h1, h2⟩ | ⟨l, h1, h2, h3, h5⟩
  · subst h1
    have := hx.k (k := a) (by have := h.1; omega)
    rw [Nat.add_zero]
    omega
  · have := (hx.l h1).2.2
    rw [h2, h3, h4 l h1, h5] at this
    exact this
theorem step_4 {p x : Nx} {l : Nat} : sStep p x 4 l = x 4 l := by
  unfold sStep
  rw [round_o (by omega), up1_ne (by omega)]
theorem wk_leap {p : Nx} {C : Nat → Nat} {a d c T : Nat} (hp : PI p) (hr : Rng p C a d c) : ∀ {e : Nat} {x : Nx}, LZ p x → (∀ l, l < p 7 0 → x 4 l = C l) → x 8 0 + 120 * e < 2 ^ 30 → wk p (leapN p T e x) a (d + 1) + c * x 8 0 ≤ wk p x a (d + 1) + c * leapN p T e x 8 0
  | 0, x, _, _, _ => Nat.le_refl _
  | e + 1, x, hx, h4, hT => by
    by_cases q : x 2 (p 6 0 - 1) = T
    · have b := sNext_b hp hx (by omega)
      have s := wk_step hp hx (by omega) hr.1 (hr.use hx.1 h4)
      have i := wk_leap (T := T) hp hr (e := e) (x := sStep p x) (LZ_step hp hx (by omega)) (fun l hl => by rw [step_4]; exact h4 l hl) (by rw [step_8]; omega)
      rw [leapN_go q]
      rw [step_8] at s i
      have m : c * (sNext p x - x 8 0) + c * x 8 0 = c * sNext p x := by
        rw [← Nat.mul_add]
        congr 1
        omega
      omega
    · rw [leapN_stop q]
      exact Nat.le_refl _
theorem wk_pre {p x : Nx} {C : Nat → Nat} {f a d c : Nat} (hp : PI p) (h : Stt p C f x) (hr : Rng p C a d c) : ∀ {e m : Nat}, m + e ≤ 1501 → wk p (pre p x (m + e)) a (d + 1) + c * pre p x m 8 0 ≤ wk p (pre p x m) a (d + 1) + c * pre p x (m + e) 8 0
  | 0, m, _ => Nat.le_refl _
  | e + 1, m, hm => by
    have i := wk_pre hp h hr (e := e) (m := m) (by omega)
    have j := pre_ok hp h (n := m + e) (by omega)
    have s := wk_leap (T := pre p x (m + e) 2 (p 6 0 - 1)) hp hr (e := 102) j.1 j.2.2.2.2 (by omega)
    have q : pre p x (m + (e + 1)) = leapN p (pre p x (m + e) 2 (p 6 0 - 1)) 102 (pre p x (m + e)) := rfl
    rw [q]
    omega
theorem wkS_shf {p x y : Nx} {D k : Nat} (hx : LZ p x) (hy : LZ p y) (h : Shf p x y D) (hk : k < p 6 0) : wkS p y k = wkS p x k + p 0 k * D := by
  have a := h.1 k hk
  have q := a.2.2.1
  unfold left at q
  unfold wkS
  rw [a.2.1, Nat.mul_add]
  by_cases c : x 1 k = x 2 k
  · rw [if_pos c, if_pos (by omega)]; omega
  · rw [if_neg c, if_neg (by omega)] at q
    rw [if_neg c, if_neg (by omega), q]; omega
theorem wk_shf {p x y : Nx} {D a : Nat} (hx : LZ p x) (hy : LZ p y) (h : Shf p x y D) : ∀ {d : Nat}, a + d ≤ p 6 0 → wk p y a d = wk p x a d + tmS' p a d * D
  | 0, _ => by show 0 = 0 + 0 * D; omega
  | d + 1, hd => by
    unfold wk tmS'
    rw [wk_shf hx hy h (d := d) (by omega), wkS_shf hx hy h (k := a + d) (by omega), Nat.add_mul]
    omega
theorem ring_ok {p x : Nx} {C : Nat → Nat} {f a d c k n : Nat} (hp : PI p) (h : Stt p C f x) (hr : Rng p C a d c) (ho : paceAt p x 1500 0 = some (k, n)) : tmS' p a (d + 1) * (n - k) ≤ c * (pre p x (n + 1) 8 0 - pre p x (k + 1) 8 0) := by
  have s := paceAt_some ho
  have a1 := pre_ok hp h (n := k + 1) (by omega)
  have a2 := pre_ok hp h (n := n + 1) (by omega)
  have sh := kE_shf (D := n - k) hp a1.1 a2.1 (by rw [a1.2.1, a2.2.1]; omega) s.2.2
  have w := wk_pre hp h hr (e := n - k) (m := k + 1) (by omega)
  rw [show k + 1 + (n - k) = n + 1 from by omega] at w
  have e := wk_shf (a := a) a1.1 a2.1 sh (d := d + 1) (by have := hr.1; omega)
  have t := pre_time hp h (d := n - k) (m := k + 1) (by omega)
  rw [show k + 1 + (n - k) = n + 1 from by omega] at t
  rw [Nat.mul_sub c]
  omega
/-- parts and minutes of a pace, lowest terms -/
theorem ring_pc {p x : Nx} {C : Nat → Nat} {f a d c k n : Nat} (hp : PI p) (h : Stt p C f x) (hr : Rng p C a d c) (ho : paceAt p x 1500 0 = some (k, n)) : tmS' p a (d + 1) * ((n - k) / pcD p x k n) ≤ c * ((pre p x (n + 1) 8 0 - pre p x (k + 1) 8 0) / pcD p x k n) := by
  have s := paceAt_some ho
  have r := ring_ok hp h hr ho
  have gp : 0 < pcD p x k n := Nat.gcd_pos_of_pos_left _ (by omega)
  obtain ⟨u, hu⟩ : pcD p x k n ∣ (n - k) := Nat.gcd_dvd_left _ _
  obtain ⟨v, hv⟩ : pcD p x k n ∣ (pre p x (n + 1) 8 0 - pre p x (k + 1) 8 0) := Nat.gcd_dvd_right _ _
  generalize pcD p x k n = g at *
  rw [hu, hv] at r ⊢
  rw [Nat.mul_div_cancel_left _ gp, Nat.mul_div_cancel_left _ gp]
  rw [Nat.mul_left_comm, Nat.mul_left_comm c] at r
  exact Nat.le_of_mul_le_mul_left r gp
theorem forbid {W c P m n T : Nat} (h : W * P ≤ c * T) (hT : 0 < T) (hf : m * c < n * W) : ¬ n * T ≤ P * m := by
  intro z
  have a : n * W * T ≤ m * c * T := by
    calc n * W * T = W * (n * T) := by rw [Nat.mul_comm n W, Nat.mul_assoc]
      _ ≤ W * (P * m) := Nat.mul_le_mul_left _ z
      _ = (W * P) * m := by rw [Nat.mul_assoc]
      _ ≤ (c * T) * m := Nat.mul_le_mul_right _ h
      _ = m * c * T := by rw [Nat.mul_comm (c * T) m, Nat.mul_assoc]
  have b : m * c * T < n * W * T := Nat.mul_lt_mul_of_pos_right hf hT
  omega
end
section
/-! tokens -/
def iL (c : Nat) : Bool := decide (97 ≤ c ∧ c ≤ 122)
def iD (c : Nat) : Bool := decide (48 ≤ c ∧ c ≤ 57)
def bl (c : Nat) : Bool := decide (c = 32 ∨ c = 10)
theorem iL_t {c : Nat} : iL c = true ↔ 97 ≤ c ∧ c ≤ 122 := decide_eq_true_iff
theorem iD_t {c : Nat} : iD c = true ↔ 48 ≤ c ∧ c ≤ 57 := decide_eq_true_iff
theorem bl_t {c : Nat} : bl c = true ↔ c = 32 ∨ c = 10 := decide_eq_true_iff
def skp (t : Nat → Nat) : Nat → Nat → Nat
  | 0, a => a
  | d + 1, a => if bl (t a) = true then skp t d (a + 1) else a
def nL (t : Nat → Nat) : Nat → Nat → Nat
  | 0, _ => 0
  | d + 1, a => if iL (t a) = true then nL t d (a + 1) + 1 else if iD (t a) = true then nL t d (a + 1) else 0
def nD (t : Nat → Nat) : Nat → Nat → Nat
  | 0, _ => 0
  | d + 1, a => if iL (t a) = true then nD t d (a + 1) else if iD (t a) = true then nD t d (a + 1) + 1 else 0
theorem skp_b {t : Nat → Nat} : ∀ {d a : Nat}, a ≤ skp t d a ∧ skp t d a ≤ a + d
  | 0, a => ⟨Nat.le_refl _, Nat.le_refl _⟩
  | d + 1, a => by
    have i := skp_b (t := t) (d := d) (a := a + 1)
    unfold skp
    by_cases c : bl (t a) = true
    · rw [if_pos c]; omega
    · rw [if_neg c]; omega
theorem nLD_b {t : Nat → Nat} : ∀ {d a : Nat}, nL t d a + nD t d a ≤ d
  | 0, a => Nat.le_refl _
  | d + 1, a => by
    have i := nLD_b (t := t) (d := d) (a := a + 1)
    unfold nL nD
    by_cases c : iL (t a) = true
    · rw [if_pos c, if_pos c]; omega
    · rw [if_neg c, if_neg c]
      by_cases e : iD (t a) = true
      · rw [if_pos e, if_pos e]; omega
      · rw [if_neg e, if_neg e]; omega
def TP (T : Nat → Int32) (t : Nat → Nat) : Prop := ∀ i, i < 440 → T i = nI (t i) ∧ t i < 256
theorem isBlank_ok {c : Nat} (h : c < 256) : fX4_isBlank (nI c) = some (bI (bl c)) := by
  unfold fX4_isBlank fX4_isBlank_12
  by_cases a : c = 32
  · rw [if_eq a, show bl c = true from bl_t.mpr (Or.inl a)]; rfl
  · rw [if_neq a (by omega) (by omega)]
    by_cases b : c = 10
    · rw [if_eq b, show bl c = true from bl_t.mpr (Or.inr b)]; rfl
    · rw [if_neq b (by omega) (by omega), show bl c = false from Bool.eq_false_iff.mpr (fun z => by have := bl_t.mp z; omega)]; rfl
theorem c_skip {T : Nat → Int32} {t : Nat → Nat} (hT : TP T t) {N L : Nat} (hL : L ≤ 440) : ∀ {d u a : Nat} {R : Rc}, d < u → a + d = L → R 5 0 = nI a → R 2 0 = nI L → ∃ R' : Rc, itn (fX4_readTokenb N) (fun _ _ => none) u T R = fX4_readToken_39 N T R' ∧ R' 5 0 = nI (skp t d a) ∧ ∀ i, i ≠ 5 → R' i = R i
  | _, 0, _, _, h, _, _, _ => by omega
  | 0, u + 1, a, R, _, e, h5, h2 => by
    refine ⟨R, ?_, h5, fun _ _ => rfl⟩
    rw [itn_s]
    unfold fX4_readTokenb
    rw [h5, h2, if_le (by omega) (by omega)]
  | d + 1, u + 1, a, R, hu, e, h5, h2 => by
    have ta := hT a (by omega)
    have b := isBlank_ok ta.2
    unfold skp
    by_cases c : bl (t a) = true
    · obtain ⟨R', r1, r2, r3⟩ := c_skip hT (N := N) hL (d := d) (u := u) (a := a + 1) (R := va_up R 5 (fun _ => nI (a + 1))) (by omega) (by omega) (by rw [va_up_self]) (by rw [va_up_ne _ _ (by omega)]; exact h2)
      refine ⟨R', ?_, by rw [if_pos c]; exact r2, fun i hi => by rw [r3 i hi, va_up_ne _ _ hi]⟩
      rw [itn_s, ← r1]
      unfold fX4_readTokenb
      rw [h5, h2, if_nle (by omega) (by omega), gdi_nI (by omega) (by omega), nI_clamp (by omega), ta.1, b, bnd_s, if_bT c, nI_add, nm_s]
    · refine ⟨R, ?_, by rw [if_neg c]; exact h5, fun _ _ => rfl⟩
      rw [itn_s]
      unfold fX4_readTokenb
      rw [h5, h2, if_nle (by omega) (by omega), gdi_nI (by omega) (by omega), nI_clamp (by omega), ta.1, b, bnd_s, if_bF (Bool.eq_false_iff.mpr c)]
theorem c_lump {T : Nat → Int32} {t : Nat → Nat} (hT : TP T t) {N L : Nat} (hL : L ≤ 440) : ∀ {d u a x y : Nat} {R : Rc}, d < u → a + d = L → R 5 0 = nI a → R 2 0 = nI L → ∃ R' : Rc, itn (fX4_readLump_4b N) (fun _ _ _ _ => none) u T R (nI x) (nI y) = fX4_readLump_71 N T R' (nI (x + nL t d a)) (nI (y + nD t d a)) ∧ R' 5 0 = nI (a + nL t d a + nD t d a) ∧ ∀ i, i ≠ 5 → R' i = R i
  | _, 0, _, _, _, _, h, _, _, _ => by omega
  | 0, u + 1, a, x, y, R, _, e, h5, h2 => by
    refine ⟨R, ?_, h5, fun _ _ => rfl⟩
    rw [itn_s]
    unfold fX4_readLump_4b
    rw [h5, h2, if_le (by omega) (by omega)]
    rfl
  | d + 1, u + 1, a, x, y, R, hu, e, h5, h2 => by
    have ta := hT a (by omega)
    have nx := fun x y => c_lump hT (N := N) hL (d := d) (u := u) (a := a + 1) (x := x) (y := y) (R := va_up R 5 (fun _ => nI (a + 1))) (by omega) (by omega) (by rw [va_up_self]) (by rw [va_up_ne _ _ (by omega)]; exact h2)
    unfold nL nD
    by_cases c : iL (t a) = true
    · have c' := iL_t.mp c
      obtain ⟨R', r1, r2, r3⟩ := nx (x + 1) y
      refine ⟨R', ?_, ?_, fun i hi => by rw [r3 i hi, va_up_ne _ _ hi]⟩
      · rw [itn_s, if_pos c, if_pos c, show x + (nL t d (a + 1) + 1) = x + 1 + nL t d (a + 1) from by omega, ← r1]
        unfold fX4_readLump_4b
        rw [h5, h2, if_nle (by omega) (by omega), gdi_nI (by omega) (by omega), nI_clamp (by omega), ta.1, nm_s, if_nlt (by omega) (by omega), if_nlt (by omega) (by omega), nI_add, nm_s]
        unfold fX4_readLump_58
        rw [h5, nI_add, nm_s]
      · rw [if_pos c, if_pos c, r2]; congr 1; omega
    · by_cases e2 : iD (t a) = true
      · have c' := iD_t.mp e2
        obtain ⟨R', r1, r2, r3⟩ := nx x (y + 1)
        refine ⟨R', ?_, ?_, fun i hi => by rw [r3 i hi, va_up_ne _ _ hi]⟩
        · rw [itn_s, if_neg c, if_neg c, if_pos e2, if_pos e2, show y + (nD t d (a + 1) + 1) = y + 1 + nD t d (a + 1) from by omega, ← r1]
          unfold fX4_readLump_4b
          rw [h5, h2, if_nle (by omega) (by omega), gdi_nI (by omega) (by omega), nI_clamp (by omega), ta.1, nm_s, if_lt (by omega) (by omega)]
          unfold fX4_readLump_43
          rw [if_nlt (by omega) (by omega), if_nlt (by omega) (by omega), nI_add, nm_s]
          unfold fX4_readLump_58
          rw [h5, nI_add, nm_s]
        · rw [if_neg c, if_neg c, if_pos e2, if_pos e2, r2]; congr 1; omega
      · refine ⟨R, ?_, by rw [if_neg c, if_neg c, if_neg e2, if_neg e2]; exact h5, fun _ _ => rfl⟩
        have n1 : ¬ (97 ≤ t a ∧ t a ≤ 122) := fun z => c (iL_t.mpr z)
        have n2 : ¬ (48 ≤ t a ∧ t a ≤ 57) := fun z => e2 (iD_t.mpr z)
        have f43 : fX4_readLump_43 N (itn (fX4_readLump_4b N) (fun _ _ _ _ => none) u) T R (nI x) (nI y) (nI (t a)) = fX4_readLump_71 N T R (nI x) (nI y) := by
          unfold fX4_readLump_43
          by_cases q : t a < 48
          · rw [if_lt q (by omega)]
          · rw [if_nlt (by omega) (by omega), if_lt (by omega) (by omega)]
        rw [itn_s, if_neg c, if_neg c, if_neg e2, if_neg e2]
        generalize itn (fX4_readLump_4b N) (fun _ _ _ _ => none) u = K at f43 ⊢
        unfold fX4_readLump_4b
        rw [h5, h2, if_nle (by omega) (by omega), gdi_nI (by omega) (by omega), nI_clamp (by omega), ta.1, nm_s]
        by_cases q : t a < 97
        · rw [if_lt q (by omega), f43]; rfl
        · rw [if_nlt (by omega) (by omega), if_lt (by omega) (by omega), f43]; rfl
def cs (k : Nat) : Nat := if k = 0 then 1 else if k = 1 then 0 else k
def lK (l d : Nat) : Nat := if d = 0 ∧ l ≠ 0 then 2 else if l = 0 ∧ d ≠ 0 ∧ d ≤ 2 then 3 else 1
theorem c_71 {T : Nat → Int32} {R : Rc} {N l d : Nat} (hl : l ≤ 440) (hd : d ≤ 440) : fX4_readLump_71 N T R (nI l) (nI d) = some (va_up R 6 (fun _ => nI (cs (lK l d)))) := by
  have h87 : lK l d ≠ 2 → fX4_readLump_87 N T R (nI l) (nI d) = some (va_up R 6 (fun _ => nI (cs (lK l d)))) := by
    intro hz
    unfold fX4_readLump_87 fX4_readLump_108
    unfold lK at hz ⊢
    by_cases a : d = 0 ∧ l ≠ 0
    · rw [if_pos a] at hz; exact absurd rfl hz
    · rw [if_neg a]
      by_cases b : l = 0
      · rw [if_e0 b]
        by_cases c : d = 0
        · rw [if_le0 c, if_neg (by omega)]; rfl
        · rw [if_nle0 c (by omega)]
          by_cases e : d ≤ 2
          · rw [if_nlt e (by omega), if_pos ⟨b, c, e⟩]; rfl
          · rw [if_lt (by omega) (by omega), if_neg (by omega)]; rfl
      · rw [if_n0 b (by omega), if_neg (by omega)]; rfl
  unfold fX4_readLump_71
  by_cases a : d = 0
  · rw [if_e0 a]
    by_cases b : l = 0
    · rw [if_le0 b, h87 (by unfold lK; rw [if_neg (by omega), if_neg (by omega)]; omega)]
    · rw [if_nle0 b (by omega), nm_s]
      unfold lK
      rw [if_pos ⟨a, b⟩]; rfl
  · rw [if_n0 a (by omega), h87 (by unfold lK; rw [if_neg (by omega)]; split <;> omega)]
/-- the token behind a place: start, sort (0 end, 1 none, 2 word, 3 number, 4 sign), end -/
def tB (t : Nat → Nat) (L a : Nat) : Nat := skp t (L - a) a
def tl (t : Nat → Nat) (L a : Nat) : Nat := nL t (L - tB t L a) (tB t L a)
def td (t : Nat → Nat) (L a : Nat) : Nat := nD t (L - tB t L a) (tB t L a)
def tS (t : Nat → Nat) (L a : Nat) : Nat := if 400 ≤ tB t L a ∧ 400 < L then 400 else tB t L a
def tK (t : Nat → Nat) (L a : Nat) : Nat := if 400 ≤ tB t L a ∧ 400 < L then 1 else if L ≤ tB t L a then 0 else if t (tB t L a) = 59 then 4 else lK (tl t L a) (td t L a)
def tE (t : Nat → Nat) (L a : Nat) : Nat := if 400 ≤ tB t L a ∧ 400 < L then tB t L a else if L ≤ tB t L a then tB t L a else if t (tB t L a) = 59 then tB t L a + 1 else tB t L a + tl t L a + td t L a
theorem tB_b {t : Nat → Nat} {L a : Nat} (h : a ≤ L) : a ≤ tB t L a ∧ tB t L a ≤ L := by
  have := skp_b (t := t) (d := L - a) (a := a)
  unfold tB
  omega
theorem tE_b {t : Nat → Nat} {L a : Nat} (h : a ≤ L) : a ≤ tE t L a ∧ tE t L a ≤ L ∧ tS t L a ≤ tE t L a := by
  have b := tB_b (t := t) h
  have n := nLD_b (t := t) (d := L - tB t L a) (a := tB t L a)
  unfold tE tS tl td
  by_cases c : 400 ≤ tB t L a ∧ 400 < L
  · rw [if_pos c, if_pos c]; omega
  · rw [if_neg c, if_neg c]
    by_cases d : L ≤ tB t L a
    · rw [if_pos d]; omega
    · rw [if_neg d]
      by_cases e : t (tB t L a) = 59
      · rw [if_pos e]; omega
      · rw [if_neg e]; omega
theorem tokC {T : Nat → Int32} {t : Nat → Nat} (hT : TP T t) {N L a : Nat} (hN : 500 < N) (hL : L ≤ 440) (ha : a ≤ L) {R : Rc} (h5 : R 5 0 = nI a) (h2 : R 2 0 = nI L) : ∃ R' : Rc, fX4_readToken N T R = some R' ∧ R' 5 0 = nI (tE t L a) ∧ R' 6 0 = nI (cs (tK t L a)) ∧ R' 7 0 = nI (tS t L a) ∧ ∀ i, i ≠ 5 → i ≠ 6 → i ≠ 7 → R' i = R i := by
  obtain ⟨R1, r1, r2, r3⟩ := c_skip hT (N := N) hL (d := L - a) (u := N) (a := a) (R := R) (by omega) (by omega) h5 h2
  have b := tB_b (t := t) ha
  rw [show skp t (L - a) a = tB t L a from rfl] at r2
  have h2' : R1 2 0 = nI L := by rw [r3 2 (by omega)]; exact h2
  unfold fX4_readToken
  rw [r1]
  unfold fX4_readToken_39
  generalize hR2 : va_up R1 7 (fun _ => R1 5 0) = R2
  have s5 : R2 5 0 = nI (tB t L a) := by rw [← hR2, va_up_ne _ _ (by omega)]; exact r2
  have s2 : R2 2 0 = nI L := by rw [← hR2, va_up_ne _ _ (by omega)]; exact h2'
  have s7 : R2 7 0 = nI (tB t L a) := by rw [← hR2, va_up_self]; exact r2
  have so : ∀ i, i ≠ 5 → i ≠ 6 → i ≠ 7 → R2 i = R i := fun i q1 q2 q3 => by rw [← hR2, va_up_ne _ _ q3, r3 i q1]
  rw [nm_s, s5, s2]
  have f82 : ¬ (400 ≤ tB t L a ∧ 400 < L) → ∃ R' : Rc, fX4_readToken_82 N T R2 = some R' ∧ R' 5 0 = nI (tE t L a) ∧ R' 6 0 = nI (cs (tK t L a)) ∧ R' 7 0 = nI (tS t L a) ∧ ∀ i, i ≠ 5 → i ≠ 6 → i ≠ 7 → R' i = R i := by
    intro hc
    unfold fX4_readToken_82 tE tK tS
    rw [s5, s2, if_neg hc, if_neg hc, if_neg hc]
    by_cases c : L ≤ tB t L a
    · rw [if_nlt c (by omega), if_pos c, if_pos c, nm_s]
      refine ⟨_, rfl, ?_, ?_, ?_, fun i q1 q2 q3 => ?_⟩
      · rw [va_up_ne _ _ (by omega)]; exact s5
      · rw [va_up_self]; rfl
      · rw [va_up_ne _ _ (by omega)]; exact s7
      · rw [va_up_ne _ _ q2]; exact so i q1 q2 q3
    · have ta := hT (tB t L a) (by omega)
      rw [if_lt (by omega) (by omega), if_neg c, if_neg c, gdi_nI (by omega) (by omega), nI_clamp (by omega), ta.1]
      by_cases e : t (tB t L a) = 59
      · rw [if_eq e, if_pos e, if_pos e, nm_s, nm_s]
        refine ⟨_, rfl, ?_, ?_, ?_, fun i q1 q2 q3 => ?_⟩
        · rw [va_up_ne _ _ (by omega), va_up_self, nI_add]
        · rw [va_up_self]; rfl
        · rw [va_up_ne _ _ (by omega), va_up_ne _ _ (by omega)]; exact s7
        · rw [va_up_ne _ _ q2, va_up_ne _ _ q1]; exact so i q1 q2 q3
      · obtain ⟨R3, u1, u2, u3⟩ := c_lump hT (N := N) hL (d := L - tB t L a) (u := N) (a := tB t L a) (x := 0) (y := 0) (R := R2) (by omega) (by omega) s5 s2
        have nb := nLD_b (t := t) (d := L - tB t L a) (a := tB t L a)
        rw [Nat.zero_add, Nat.zero_add, c_71 (by omega) (by omega)] at u1
        rw [if_neq e (by omega) (by omega), if_neg e, if_neg e]
        unfold fX4_readLump
        rw [nm_s, nm_s]
        unfold fX4_readLump_4
        rw [u1, bnd_s]
        refine ⟨_, rfl, ?_, ?_, ?_, fun i q1 q2 q3 => ?_⟩
        · rw [va_up_ne _ _ (by omega)]; exact u2
        · rw [va_up_self]; rfl
        · rw [va_up_ne _ _ (by omega), u3 7 (by omega)]; exact s7
        · rw [va_up_ne _ _ q2, u3 i q1]; exact so i q1 q2 q3
  by_cases c1 : tB t L a < 400
  · rw [if_lt c1 (by omega)]; exact f82 (by omega)
  · rw [if_nlt (by omega) (by omega)]
    by_cases c2 : L ≤ 400
    · rw [if_le c2 (by omega)]; exact f82 (by omega)
    · rw [if_nle (by omega) (by omega), nm_s, nm_s]
      unfold tE tK tS
      rw [if_pos ⟨by omega, by omega⟩, if_pos ⟨by omega, by omega⟩, if_pos ⟨by omega, by omega⟩]
      refine ⟨_, rfl, ?_, ?_, ?_, fun i q1 q2 q3 => ?_⟩
      · rw [va_up_ne _ _ (by omega), va_up_ne _ _ (by omega)]; exact s5
      · rw [va_up_self]; rfl
      · rw [va_up_ne _ _ (by omega), va_up_self]
      · rw [va_up_ne _ _ q2, va_up_ne _ _ q3]; exact so i q1 q2 q3
end
section
/-! the model's tokens -/
theorem isL_ok {c : Nat} (h : c < 256) : fX6_isLetter (nI c) = some (bI (iL c)) := by
  unfold fX6_isLetter fX6_isLetter_16
  by_cases a : c < 97
  · rw [if_lt a (by omega), show iL c = false from Bool.eq_false_iff.mpr (fun z => by have := iL_t.mp z; omega)]; rfl
  · rw [if_nlt (by omega) (by omega)]
    by_cases b : 122 < c
    · rw [if_lt b (by omega), show iL c = false from Bool.eq_false_iff.mpr (fun z => by have := iL_t.mp z; omega)]; rfl
    · rw [if_nlt (by omega) (by omega), show iL c = true from iL_t.mpr (by omega)]; rfl
theorem isD_ok {c : Nat} (h : c < 256) : fX6_isDigit (nI c) = some (bI (iD c)) := by
  unfold fX6_isDigit fX6_isDigit_16
  by_cases a : c < 48
  · rw [if_lt a (by omega), show iD c = false from Bool.eq_false_iff.mpr (fun z => by have := iD_t.mp z; omega)]; rfl
  · rw [if_nlt (by omega) (by omega)]
    by_cases b : 57 < c
    · rw [if_lt b (by omega), show iD c = false from Bool.eq_false_iff.mpr (fun z => by have := iD_t.mp z; omega)]; rfl
    · rw [if_nlt (by omega) (by omega), show iD c = true from iD_t.mpr (by omega)]; rfl
theorem m_skip {t : Nat → Nat} {ML : RcL} {N L : Nat} (hL : L ≤ 440) : ∀ {d u a : Nat} {M : Rc}, d < u → a + d = L → TP (M 1) t → M 4 0 = nI a → M 3 0 = nI L → ∃ M' : Rc, itn (fX6_gob N) (fun _ _ => none) u M ML = fX6_go_52 N M' ML ∧ M' 4 0 = nI (skp t d a) ∧ ∀ i, i ≠ 4 → M' i = M i
  | _, 0, _, _, h, _, _, _, _ => by omega
  | 0, u + 1, a, M, _, e, hT, h4, h3 => by
    refine ⟨M, ?_, h4, fun _ _ => rfl⟩
    rw [itn_s]
    unfold fX6_gob
    rw [h4, h3, if_le (by omega) (by omega)]
  | d + 1, u + 1, a, M, hu, e, hT, h4, h3 => by
    have ta := hT a (by omega)
    unfold skp
    by_cases c : bl (t a) = true
    · obtain ⟨M', r1, r2, r3⟩ := m_skip (t := t) (ML := ML) (N := N) hL (d := d) (u := u) (a := a + 1) (M := va_up M 4 (fun _ => nI (a + 1))) (by omega) (by omega) (by rw [va_up_ne _ _ (by omega)]; exact hT) (by rw [va_up_self]) (by rw [va_up_ne _ _ (by omega)]; exact h3)
      refine ⟨M', ?_, by rw [if_pos c]; exact r2, fun i hi => by rw [r3 i hi, va_up_ne _ _ hi]⟩
      have g39 : fX6_go_39 N (itn (fX6_gob N) (fun _ _ => none) u) M ML = itn (fX6_gob N) (fun _ _ => none) u (va_up M 4 (fun _ => nI (a + 1))) ML := by
        unfold fX6_go_39
        rw [h4, nI_add, nm_s]
      rw [itn_s, ← r1]
      generalize itn (fX6_gob N) (fun _ _ => none) u = K at g39 ⊢
      unfold fX6_gob
      rw [h4, h3, if_nle (by omega) (by omega), gdi_nI (by omega) (by omega), nI_clamp (by omega), ta.1]
      by_cases q : t a = 32
      · rw [if_eq q, g39]
      · rw [if_neq q (by omega) (by omega), gdi_nI (by omega) (by omega), if_eq (by have := bl_t.mp c; omega), g39]
    · refine ⟨M, ?_, by rw [if_neg c]; exact h4, fun _ _ => rfl⟩
      have n1 : ¬ (t a = 32 ∨ t a = 10) := fun z => c (bl_t.mpr z)
      rw [itn_s]
      unfold fX6_gob
      rw [h4, h3, if_nle (by omega) (by omega), gdi_nI (by omega) (by omega), nI_clamp (by omega), ta.1, if_neq (by omega) (by omega) (by omega), gdi_nI (by omega) (by omega), if_neq (by omega) (by omega) (by omega)]
def wrd (t : Nat → Nat) (s : Nat) : Nat → Int64
  | 0 => 0
  | i + 1 => if i < 8 then 27 * wrd t s i + (nI (t (s + i))).toInt64 - 96 else wrd t s i
def nmb (t : Nat → Nat) (s : Nat) : Nat → Int32
  | 0 => nI 0
  | i + 1 => if i < 2 then nI 10 * nmb t s i + nI (t (s + i)) - nI 48 else nmb t s i
def gd (t : Nat → Nat) (l : Bool) : Nat → Nat → Bool → Bool
  | 0, _, g => g
  | d + 1, a, g => if iL (t a) = true ∨ iD (t a) = true then gd t l d (a + 1) (g && (iL (t a) == l)) else g
theorem gd_t {t : Nat → Nat} : ∀ {d a : Nat} {g : Bool}, gd t true d a g = (g && decide (nD t d a = 0))
  | 0, a, g => by simp [gd, nD]
  | d + 1, a, g => by
    unfold gd nD
    by_cases c : iL (t a) = true
    · rw [if_pos (Or.inl c), if_pos c, gd_t, c]
      cases g <;> rfl
    · rw [if_neg c]
      by_cases e : iD (t a) = true
      · rw [if_pos (Or.inr e), if_pos e, gd_t, Bool.eq_false_iff.mpr c]
        cases g <;> simp
      · rw [if_neg (by rintro (z | z) <;> contradiction), if_neg e]
        simp
theorem gd_f {t : Nat → Nat} : ∀ {d a : Nat} {g : Bool}, gd t false d a g = (g && decide (nL t d a = 0))
  | 0, a, g => by simp [gd, nL]
  | d + 1, a, g => by
    unfold gd nL
    by_cases c : iL (t a) = true
    · rw [if_pos (Or.inl c), if_pos c, gd_f, c]
      cases g <;> simp
    · rw [if_neg c]
      by_cases e : iD (t a) = true
      · rw [if_pos (Or.inr e), if_pos e, gd_f, Bool.eq_false_iff.mpr c]
        cases g <;> rfl
      · rw [if_neg (by rintro (z | z) <;> contradiction), if_neg e]
        simp
theorem go_step {t : Nat → Nat} {M : Rc} {ML : RcL} {N s i : Nat} {x2 y0 : Int32} {K : Rc → RcL → Int32 → Int32 → Option (Rc × RcL)} (hs : s + i < 440) (h4 : M 4 0 = nI (s + i)) (h5 : M 5 0 = nI s) (h7 : M 7 0 = nmb t s i) (hw : ML 10 0 = wrd t s i) : ∃ M' ML', fX6_go_234 N K M ML x2 (nI (t (s + i))) y0 = K M' ML' x2 y0 ∧ M' 4 0 = nI (s + (i + 1)) ∧ M' 7 0 = nmb t s (i + 1) ∧ ML' 10 0 = wrd t s (i + 1) ∧ ∀ j, j ≠ 4 → j ≠ 7 → M' j = M j := by
  have g269 : ∀ ML', ∃ M', fX6_go_269 N K M ML' x2 y0 (nI (t (s + i))) = K M' ML' x2 y0 ∧ M' 4 0 = nI (s + (i + 1)) ∧ M' 7 0 = nmb t s (i + 1) ∧ ∀ j, j ≠ 4 → j ≠ 7 → M' j = M j := by
    intro ML'
    unfold fX6_go_269 nmb
    rw [h4, h5, nI_sub' (by omega), show s + i - s = i from by omega]
    by_cases c : i < 2
    · rw [if_nle (by omega) (by omega), nm_s, if_pos c]
      unfold fX6_go_299
      rw [nm_s]
      refine ⟨_, rfl, ?_, ?_, fun j q1 q2 => ?_⟩
      · rw [va_up_self, va_up_ne _ _ (by omega), h4, nI_add]; rfl
      · rw [va_up_ne _ _ (by omega), va_up_self, h7]
      · rw [va_up_ne _ _ q1, va_up_ne _ _ q2]
    · rw [if_le (by omega) (by omega), if_neg c]
      unfold fX6_go_299
      rw [nm_s]
      refine ⟨_, rfl, ?_, ?_, fun j q1 q2 => ?_⟩
      · rw [va_up_self, h4, nI_add]; rfl
      · rw [va_up_ne _ _ (by omega), h7]
      · rw [va_up_ne _ _ q1]
  unfold fX6_go_234 wrd
  rw [nm_s, h4, h5, nI_sub' (by omega), show s + i - s = i from by omega]
  by_cases c : i < 8
  · rw [if_nle (by omega) (by omega), nm_s, if_pos c]
    obtain ⟨M', a1, a2, a3, a4⟩ := g269 (va_up ML 10 (fun _ => 27 * ML 10 0 + (nI (t (s + i))).toInt64 - 96))
    refine ⟨M', _, a1, a2, a3, ?_, a4⟩
    rw [va_up_self, hw]
  · rw [if_le (by omega) (by omega), if_neg c]
    obtain ⟨M', a1, a2, a3, a4⟩ := g269 ML
    exact ⟨M', ML, a1, a2, a3, hw, a4⟩
def goX (N : Nat) (M : Rc) (ML : RcL) (l g : Bool) : Option (Rc × RcL) := if bI g = 0 then fX6_go_334 N M ML else if bI l = 0 then if M 4 0 - M 5 0 ≤ nI 2 then fX6_go_338 N M ML (bI l) else fX6_go_334 N M ML else fX6_go_338 N M ML (bI l)
theorem bI_inj {a b : Bool} : (bI a = bI b) ↔ a = b := by cases a <;> cases b <;> decide
theorem m_lump {t : Nat → Nat} {N L s : Nat} {l : Bool} (hL : L ≤ 440) : ∀ {d u i : Nat} {g : Bool} {M : Rc} {ML : RcL}, d < u → s + i + d = L → TP (M 1) t → M 4 0 = nI (s + i) → M 5 0 = nI s → M 3 0 = nI L → M 7 0 = nmb t s i → ML 10 0 = wrd t s i → ∃ M' ML', itn (fX6_go_177b N) (fun _ _ _ _ => none) u M ML (bI l) (bI g) = goX N M' ML' l (gd t l d (s + i) g) ∧ M' 4 0 = nI (s + (i + nL t d (s + i) + nD t d (s + i))) ∧ M' 7 0 = nmb t s (i + nL t d (s + i) + nD t d (s + i)) ∧ ML' 10 0 = wrd t s (i + nL t d (s + i) + nD t d (s + i)) ∧ ∀ j, j ≠ 4 → j ≠ 7 → M' j = M j
  | _, 0, _, _, _, _, h, _, _, _, _, _, _, _ => by omega
  | 0, u + 1, i, g, M, ML, _, e, hT, h4, h5, h3, h7, hw => by
    refine ⟨M, ML, ?_, h4, h7, hw, fun _ _ _ => rfl⟩
    have tp : fX6_tapeAt M ML (M 4 0) = some (nI 0) := by
      unfold fX6_tapeAt
      rw [h4, h3, if_le (by omega) (by omega)]
    rw [itn_s]
    unfold fX6_go_177b
    rw [tp, bnd_s, isL_ok (by omega), bnd_s, if_bF (by decide), bnd_s, isD_ok (by omega), bnd_s, if_bF (by decide)]
    rfl
  | d + 1, u + 1, i, g, M, ML, hu, e, hT, h4, h5, h3, h7, hw => by
    have ta := hT (s + i) (by omega)
    have tp : fX6_tapeAt M ML (M 4 0) = some (nI (t (s + i))) := by
      unfold fX6_tapeAt
      rw [h4, h3, if_nle (by omega) (by omega), gdi_nI (by omega) (by omega), nI_clamp (by omega), ta.1]
    by_cases q : iL (t (s + i)) = true ∨ iD (t (s + i)) = true
    · obtain ⟨M1, ML1, a1, a2, a3, a4, a5⟩ := go_step (t := t) (M := M) (ML := ML) (N := N) (s := s) (i := i) (x2 := bI l) (y0 := bI (g && (iL (t (s + i)) == l))) (K := itn (fX6_go_177b N) (fun _ _ _ _ => none) u) (by omega) h4 h5 h7 hw
      have s205 : fX6_go_205 N (itn (fX6_go_177b N) (fun _ _ _ _ => none) u) M ML (bI l) (bI g) = itn (fX6_go_177b N) (fun _ _ _ _ => none) u M1 ML1 (bI l) (bI (g && (iL (t (s + i)) == l))) := by
        rw [← a1]
        generalize itn (fX6_go_177b N) (fun _ _ _ _ => none) u = K
        unfold fX6_go_205 fX6_go_233
        rw [h4, gdi_nI (by omega) (by omega), nI_clamp (by omega), ta.1, nm_s]
        cases g with
        | false => rw [if_bF rfl]; rfl
        | true =>
          rw [if_bT rfl, isL_ok ta.2, bnd_s]
          by_cases z : iL (t (s + i)) = l
          · rw [if_pos (bI_inj.mpr z), z]
            cases l <;> rfl
          · rw [if_neg (fun y => z (bI_inj.mp y))]
            have : (iL (t (s + i)) == l) = false := by
              cases h1 : iL (t (s + i)) <;> cases l <;> first | rfl | exact absurd h1 z
            rw [this]; rfl
      obtain ⟨M2, ML2, b1, b2, b3, b4, b5⟩ := m_lump (t := t) (N := N) (s := s) (l := l) hL (d := d) (u := u) (i := i + 1) (g := g && (iL (t (s + i)) == l)) (M := M1) (ML := ML1) (by omega) (by omega) (by rw [a5 1 (by omega) (by omega)]; exact hT) a2 (by rw [a5 5 (by omega) (by omega)]; exact h5) (by rw [a5 3 (by omega) (by omega)]; exact h3) a3 a4
      have st : itn (fX6_go_177b N) (fun _ _ _ _ => none) (u + 1) M ML (bI l) (bI g) = itn (fX6_go_177b N) (fun _ _ _ _ => none) u M1 ML1 (bI l) (bI (g && (iL (t (s + i)) == l))) := by
        rw [itn_s]
        generalize itn (fX6_go_177b N) (fun _ _ _ _ => none) u = K at s205 ⊢
        unfold fX6_go_177b
        rw [tp, bnd_s, isL_ok ta.2, bnd_s]
        by_cases z : iL (t (s + i)) = true
        · rw [if_bT z, s205]
        · rw [if_bF (Bool.eq_false_iff.mpr z), bnd_s, isD_ok ta.2, bnd_s, if_bT (q.resolve_left z), s205]
      have ee : s + (i + 1) = s + i + 1 := by omega
      rw [ee] at b1 b2 b3 b4
      have en : i + 1 + nL t d (s + i + 1) + nD t d (s + i + 1) = i + nL t (d + 1) (s + i) + nD t (d + 1) (s + i) := by
        rw [nL, nD]
        by_cases z : iL (t (s + i)) = true
        · rw [if_pos z, if_pos z]; omega
        · rw [if_neg z, if_neg z, if_pos (q.resolve_left z), if_pos (q.resolve_left z)]; omega
      have eg : gd t l (d + 1) (s + i) g = gd t l d (s + i + 1) (g && (iL (t (s + i)) == l)) := by
        rw [gd, if_pos q]
      rw [en] at b2 b3 b4
      refine ⟨M2, ML2, ?_, b2, b3, b4, fun j q1 q2 => by rw [b5 j q1 q2, a5 j q1 q2]⟩
      rw [st, b1, eg]
    · have q1 : ¬ iL (t (s + i)) = true := fun z => q (Or.inl z)
      have q2 : ¬ iD (t (s + i)) = true := fun z => q (Or.inr z)
      have e1 : nL t (d + 1) (s + i) = 0 := by unfold nL; rw [if_neg q1, if_neg q2]
      have e2 : nD t (d + 1) (s + i) = 0 := by unfold nD; rw [if_neg q1, if_neg q2]
      rw [e1, e2]
      refine ⟨M, ML, ?_, h4, h7, hw, fun _ _ _ => rfl⟩
      rw [itn_s, gd, if_neg q]
      unfold fX6_go_177b
      rw [tp, bnd_s, isL_ok ta.2, bnd_s, if_bF (Bool.eq_false_iff.mpr q1), bnd_s, isD_ok ta.2, bnd_s, if_bF (Bool.eq_false_iff.mpr q2)]
      rfl
/-- what the model holds of the token behind a place -/
def MT (t : Nat → Nat) (L a : Nat) (M : Rc) (ML : RcL) : Prop := M 5 0 = nI (tS t L a) ∧ M 6 0 = nI (tK t L a) ∧ (tK t L a ≠ 1 → M 4 0 = nI (tE t L a)) ∧ (tK t L a = 3 → M 7 0 = nmb t (tS t L a) (tE t L a - tS t L a)) ∧ (tK t L a = 2 → ML 10 0 = wrd t (tS t L a) (tE t L a - tS t L a))
theorem goX_ok {N n l d : Nat} {M : Rc} {ML : RcL} {b : Bool} {s : Nat} (hl : l + d ≤ 440) (hs : s ≤ 440) (h4 : M 4 0 = nI (s + (l + d))) (h5 : M 5 0 = nI s) (hb : b = true → l ≠ 0) (hb2 : b = false → d ≠ 0) : goX N M ML b (if b = true then decide (d = 0) else decide (l = 0)) = some (va_up M 6 (fun _ => nI (lK l d)), ML) := by
  unfold goX fX6_go_334 fX6_go_338 fX6_go_347 lK
  rw [h4, h5, nI_sub' (by omega), show s + (l + d) - s = l + d from by omega]
  cases b with
  | true =>
    have a := hb rfl
    rw [if_pos rfl]
    by_cases c : d = 0
    · rw [if_bT (decide_eq_true c), if_bT rfl, if_bT rfl, nm_s, if_pos ⟨c, a⟩]
    · rw [if_bF (decide_eq_false c), nm_s, if_neg (by omega), if_neg (by omega)]
  | false =>
    have a := hb2 rfl
    rw [if_neg (show ¬ (false = true) from by decide)]
    by_cases c : l = 0
    · rw [if_bT (decide_eq_true c), if_bF rfl]
      by_cases e : d ≤ 2
      · rw [if_le (by omega) (by omega), if_bF rfl, nm_s, if_neg (by omega), if_pos ⟨c, a, e⟩]
      · rw [if_nle (by omega) (by omega), nm_s, if_neg (by omega), if_neg (by omega)]
    · rw [if_bF (decide_eq_false c), nm_s, if_neg (by omega), if_neg (by omega)]
theorem tokM {t : Nat → Nat} {N L a : Nat} (hN : 500 < N) (hL : L ≤ 440) (ha : a ≤ L) {M : Rc} {ML : RcL} (hT : TP (M 1) t) (h4 : M 4 0 = nI a) (h3 : M 3 0 = nI L) : ∃ M' ML', fX6_go N M ML = some (M', ML') ∧ MT t L a M' ML' ∧ ∀ i, i ≠ 4 → i ≠ 5 → i ≠ 6 → i ≠ 7 → M' i = M i := by
  obtain ⟨M1, r1, r2, r3⟩ := m_skip (t := t) (ML := ML) (N := N) hL (d := L - a) (u := N) (a := a) (M := M) (by omega) (by omega) hT h4 h3
  have b := tB_b (t := t) ha
  rw [show skp t (L - a) a = tB t L a from rfl] at r2
  unfold fX6_go
  rw [r1]
  unfold fX6_go_52
  generalize hM2 : va_up M1 5 (fun _ => M1 4 0) = M2
  have s4 : M2 4 0 = nI (tB t L a) := by rw [← hM2, va_up_ne _ _ (by omega)]; exact r2
  have s3 : M2 3 0 = nI L := by rw [← hM2, va_up_ne _ _ (by omega), r3 3 (by omega)]; exact h3
  have s5 : M2 5 0 = nI (tB t L a) := by rw [← hM2, va_up_self]; exact r2
  have s1 : TP (M2 1) t := by rw [← hM2, va_up_ne _ _ (by omega), r3 1 (by omega)]; exact hT
  have so : ∀ i, i ≠ 4 → i ≠ 5 → i ≠ 6 → i ≠ 7 → M2 i = M i := fun i q1 q2 q3 q4 => by rw [← hM2, va_up_ne _ _ q2, r3 i q1]
  rw [nm_s, s3, s5]
  have f93 : ¬ (400 ≤ tB t L a ∧ 400 < L) → ∃ M' ML', fX6_go_93 N M2 ML = some (M', ML') ∧ MT t L a M' ML' ∧ ∀ i, i ≠ 4 → i ≠ 5 → i ≠ 6 → i ≠ 7 → M' i = M i := by
    intro hc
    have eS : tS t L a = tB t L a := by unfold tS; rw [if_neg hc]
    unfold fX6_go_93
    rw [s4, s3]
    by_cases c : L ≤ tB t L a
    · have eK : tK t L a = 0 := by unfold tK; rw [if_neg hc, if_pos c]
      have eE : tE t L a = tB t L a := by unfold tE; rw [if_neg hc, if_pos c]
      rw [if_nlt c (by omega), nm_s]
      refine ⟨_, _, rfl, ⟨?_, ?_, ?_, ?_, ?_⟩, fun i q1 q2 q3 q4 => ?_⟩
      · rw [va_up_ne _ _ (by omega), eS]; exact s5
      · rw [va_up_self, eK]
      · intro _; rw [va_up_ne _ _ (by omega), eE]; exact s4
      · rw [eK]; intro z; omega
      · rw [eK]; intro z; omega
      · rw [va_up_ne _ _ q3]; exact so i q1 q2 q3 q4
    · have ta := s1 (tB t L a) (by omega)
      rw [if_lt (by omega) (by omega), gdi_nI (by omega) (by omega), nI_clamp (by omega), ta.1, nm_s, isL_ok ta.2, bnd_s]
      by_cases q : iL (t (tB t L a)) = true ∨ iD (t (tB t L a)) = true
      · have ne : t (tB t L a) ≠ 59 := by
          intro z
          rcases q with q | q
          · have := iL_t.mp q; omega
          · have := iD_t.mp q; omega
        have eK : tK t L a = lK (tl t L a) (td t L a) := by unfold tK; rw [if_neg hc, if_neg c, if_neg ne]
        have eE : tE t L a = tB t L a + tl t L a + td t L a := by unfold tE; rw [if_neg hc, if_neg c, if_neg ne]
        have nb := nLD_b (t := t) (d := L - tB t L a) (a := tB t L a)
        obtain ⟨M4, ML4, u1, u2, u3, u4, u5⟩ := m_lump (t := t) (N := N) (s := tB t L a) (l := iL (t (tB t L a))) hL (d := L - tB t L a) (u := N) (i := 0) (g := true) (M := va_up M2 7 (fun _ => nI 0)) (ML := va_up ML 10 (fun _ => 0)) (by omega) (by omega) (by rw [va_up_ne _ _ (by omega)]; exact s1) (by rw [va_up_ne _ _ (by omega)]; exact s4) (by rw [va_up_ne _ _ (by omega)]; exact s5) (by rw [va_up_ne _ _ (by omega)]; exact s3) (by rw [va_up_self]; rfl) (by rw [va_up_self]; rfl)
        rw [Nat.add_zero] at u1 u2 u3 u4
        rw [Nat.zero_add] at u2 u3 u4
        rw [show nL t (L - tB t L a) (tB t L a) = tl t L a from rfl, show nD t (L - tB t L a) (tB t L a) = td t L a from rfl] at u2 u3 u4 nb
        have gde : gd t (iL (t (tB t L a))) (L - tB t L a) (tB t L a) true = (if iL (t (tB t L a)) = true then decide (td t L a = 0) else decide (tl t L a = 0)) := by
          cases hl : iL (t (tB t L a)) with
          | true => rw [gd_t, if_pos rfl, Bool.true_and]; rfl
          | false => rw [gd_f, if_neg (by decide), Bool.true_and]; rfl
        have hd1 : iL (t (tB t L a)) = true → tl t L a ≠ 0 := by
          intro z
          unfold tl
          rw [show L - tB t L a = (L - tB t L a - 1) + 1 from by omega, nL, if_pos z]
          omega
        have hd2 : iL (t (tB t L a)) = false → td t L a ≠ 0 := by
          intro z
          have z2 : iD (t (tB t L a)) = true := q.resolve_left (by rw [z]; decide)
          unfold td
          rw [show L - tB t L a = (L - tB t L a - 1) + 1 from by omega, nD, if_neg (by rw [z]; decide), if_pos z2]
          omega
        have fin := goX_ok (N := N) (n := 0) (M := M4) (ML := ML4) (s := tB t L a) (l := tl t L a) (d := td t L a) (by omega) (by omega) (by rw [u2]) (by rw [u5 5 (by omega) (by omega), va_up_ne _ _ (by omega)]; exact s5) hd1 hd2
        rw [gde, fin] at u1
        have g160 : fX6_go_160 N M2 ML (nI (t (tB t L a))) = some (va_up M4 6 (fun _ => nI (lK (tl t L a) (td t L a))), ML4) := by
          unfold fX6_go_160
          rw [isL_ok ta.2, bnd_s, nm_s, nm_s, nm_s, nm_s]
          unfold fX6_go_177
          exact u1
        have all : ∃ M' ML', fX6_go_160 N M2 ML (nI (t (tB t L a))) = some (M', ML') ∧ MT t L a M' ML' ∧ ∀ i, i ≠ 4 → i ≠ 5 → i ≠ 6 → i ≠ 7 → M' i = M i := by
          have ed : tE t L a - tS t L a = tl t L a + td t L a := by rw [eS, eE]; omega
          refine ⟨_, _, g160, ⟨?_, ?_, ?_, ?_, ?_⟩, fun i q1 q2 q3 q4 => ?_⟩
          · rw [va_up_ne _ _ (by omega), u5 5 (by omega) (by omega), va_up_ne _ _ (by omega), eS]; exact s5
          · rw [va_up_self, eK]
          · intro _; rw [va_up_ne _ _ (by omega), u2, eE]; congr 1; omega
          · intro _; rw [va_up_ne _ _ (by omega), ed, eS]; exact u3
          · intro _; rw [ed, eS]; exact u4
          · rw [va_up_ne _ _ q3, u5 i q1 q4, va_up_ne _ _ q4]; exact so i q1 q2 q3 q4
        by_cases z : iL (t (tB t L a)) = true
        · rw [if_bT z]; exact all
        · rw [if_bF (Bool.eq_false_iff.mpr z), isD_ok ta.2, bnd_s, if_bT (q.resolve_left z)]; exact all
      · have q1 : ¬ iL (t (tB t L a)) = true := fun z => q (Or.inl z)
        have q2 : ¬ iD (t (tB t L a)) = true := fun z => q (Or.inr z)
        rw [if_bF (Bool.eq_false_iff.mpr q1), isD_ok ta.2, bnd_s, if_bF (Bool.eq_false_iff.mpr q2)]
        unfold fX6_go_146
        by_cases e : t (tB t L a) = 59
        · have eK : tK t L a = 4 := by unfold tK; rw [if_neg hc, if_neg c, if_pos e]
          have eE : tE t L a = tB t L a + 1 := by unfold tE; rw [if_neg hc, if_neg c, if_pos e]
          rw [if_eq e, nm_s, nm_s]
          refine ⟨_, _, rfl, ⟨?_, ?_, ?_, ?_, ?_⟩, fun i q1 q2 q3 q4 => ?_⟩
          · rw [va_up_ne _ _ (by omega), va_up_ne _ _ (by omega), eS]; exact s5
          · rw [va_up_ne _ _ (by omega), va_up_self, eK]
          · intro _; rw [va_up_self, va_up_ne _ _ (by omega), s4, nI_add, eE]
          · rw [eK]; intro z; omega
          · rw [eK]; intro z; omega
          · rw [va_up_ne _ _ q1, va_up_ne _ _ q3]; exact so i q1 q2 q3 q4
        · have e0 : L - tB t L a = (L - tB t L a - 1) + 1 := by omega
          have eK : tK t L a = 1 := by
            unfold tK tl td
            rw [if_neg hc, if_neg c, if_neg e, e0, nL, nD, if_neg q1, if_neg q1, if_neg q2, if_neg q2]
            rfl
          rw [if_neq e (by omega) (by omega), nm_s, nm_s]
          refine ⟨_, _, rfl, ⟨?_, ?_, ?_, ?_, ?_⟩, fun i q1 q2 q3 q4 => ?_⟩
          · rw [va_up_ne _ _ (by omega), va_up_ne _ _ (by omega), eS]; exact s5
          · rw [va_up_ne _ _ (by omega), va_up_self, eK]
          · intro z; exact absurd eK z
          · rw [eK]; intro z; omega
          · rw [eK]; intro z; omega
          · rw [va_up_ne _ _ q1, va_up_ne _ _ q3]; exact so i q1 q2 q3 q4
  by_cases c2 : L ≤ 400
  · rw [if_le c2 (by omega)]; exact f93 (by omega)
  · rw [if_nle (by omega) (by omega)]
    by_cases c1 : tB t L a < 400
    · rw [if_lt c1 (by omega)]; exact f93 (by omega)
    · rw [if_nlt (by omega) (by omega), nm_s, nm_s]
      have hc : 400 ≤ tB t L a ∧ 400 < L := by omega
      have eS : tS t L a = 400 := by unfold tS; rw [if_pos hc]
      have eK : tK t L a = 1 := by unfold tK; rw [if_pos hc]
      refine ⟨_, _, rfl, ⟨?_, ?_, ?_, ?_, ?_⟩, fun i q1 q2 q3 q4 => ?_⟩
      · rw [va_up_ne _ _ (by omega), va_up_self, eS]
      · rw [va_up_self, eK]
      · intro z; exact absurd eK z
      · rw [eK]; intro z; omega
      · rw [eK]; intro z; omega
      · rw [va_up_ne _ _ q3, va_up_ne _ _ q2]; exact so i q1 q2 q3 q4
end
section
/-! words and numbers -/
theorem nL_all {t : Nat → Nat} : ∀ {d a i : Nat}, nD t d a = 0 → i < nL t d a → 97 ≤ t (a + i) ∧ t (a + i) ≤ 122
  | 0, a, i, _, h => by cases h
  | d + 1, a, i, h0, h => by
    rw [nD] at h0
    rw [nL] at h
    by_cases c : iL (t a) = true
    · rw [if_pos c] at h0 h
      cases i with
      | zero => exact iL_t.mp c
      | succ i =>
        have := nL_all (d := d) (a := a + 1) (i := i) h0 (by omega)
        rwa [show a + 1 + i = a + (i + 1) from by omega] at this
    · rw [if_neg c] at h0 h
      by_cases e : iD (t a) = true
      · rw [if_pos e] at h0; omega
      · rw [if_neg e] at h; omega
theorem nD_all {t : Nat → Nat} : ∀ {d a i : Nat}, nL t d a = 0 → i < nD t d a → 48 ≤ t (a + i) ∧ t (a + i) ≤ 57
  | 0, a, i, _, h => by cases h
  | d + 1, a, i, h0, h => by
    rw [nL] at h0
    rw [nD] at h
    by_cases c : iL (t a) = true
    · rw [if_pos c] at h0; omega
    · rw [if_neg c] at h0 h
      by_cases e : iD (t a) = true
      · rw [if_pos e] at h0 h
        cases i with
        | zero => exact iD_t.mp e
        | succ i =>
          have := nD_all (d := d) (a := a + 1) (i := i) h0 (by omega)
          rwa [show a + 1 + i = a + (i + 1) from by omega] at this
      · rw [if_neg e] at h; omega
theorem lK_b (l d : Nat) : lK l d = 1 ∨ (lK l d = 2 ∧ d = 0 ∧ l ≠ 0) ∨ (lK l d = 3 ∧ l = 0 ∧ d ≠ 0 ∧ d ≤ 2) := by
  unfold lK
  by_cases a : d = 0 ∧ l ≠ 0
  · rw [if_pos a]; exact Or.inr (Or.inl ⟨rfl, a.1, a.2⟩)
  · rw [if_neg a]
    by_cases b : l = 0 ∧ d ≠ 0 ∧ d ≤ 2
    · rw [if_pos b]; exact Or.inr (Or.inr ⟨rfl, b.1, b.2.1, b.2.2⟩)
    · rw [if_neg b]; exact Or.inl rfl
/-- the sorts of tokens -/
theorem tK_c {t : Nat → Nat} {L a : Nat} (ha : a ≤ L) : tK t L a = 1 ∨ (tK t L a = 0 ∧ tS t L a = tE t L a) ∨ (tK t L a = 4 ∧ a < tE t L a) ∨ (tK t L a = 2 ∧ a < tE t L a ∧ tS t L a < tE t L a ∧ ∀ i, i < tE t L a - tS t L a → 97 ≤ t (tS t L a + i) ∧ t (tS t L a + i) ≤ 122) ∨ (tK t L a = 3 ∧ a < tE t L a ∧ (tE t L a - tS t L a = 1 ∨ tE t L a - tS t L a = 2) ∧ ∀ i, i < tE t L a - tS t L a → 48 ≤ t (tS t L a + i) ∧ t (tS t L a + i) ≤ 57) := by
  have b := tB_b (t := t) ha
  unfold tK tE tS
  by_cases c : 400 ≤ tB t L a ∧ 400 < L
  · rw [if_pos c]; exact Or.inl rfl
  · rw [if_neg c, if_neg c, if_neg c]
    by_cases d : L ≤ tB t L a
    · rw [if_pos d, if_pos d]; exact Or.inr (Or.inl ⟨rfl, rfl⟩)
    · rw [if_neg d, if_neg d]
      by_cases e : t (tB t L a) = 59
      · rw [if_pos e, if_pos e]; exact Or.inr (Or.inr (Or.inl ⟨rfl, by omega⟩))
      · rw [if_neg e, if_neg e]
        rcases lK_b (tl t L a) (td t L a) with h | ⟨h, h1, h2⟩ | ⟨h, h1, h2, h3⟩
        · exact Or.inl h
        · refine Or.inr (Or.inr (Or.inr (Or.inl ⟨h, by omega, by omega, fun i hi => ?_⟩)))
          exact nL_all (d := L - tB t L a) h1 (show i < tl t L a by omega)
        · refine Or.inr (Or.inr (Or.inr (Or.inr ⟨h, by omega, by omega, fun i hi => ?_⟩)))
          exact nD_all (d := L - tB t L a) h1 (show i < td t L a by omega)
theorem tS_b {t : Nat → Nat} {L a : Nat} (ha : a ≤ L) (hL : L ≤ 440) : tS t L a ≤ 440 := by
  have b := tB_b (t := t) ha
  unfold tS
  split <;> omega
def wv (t : Nat → Nat) (s : Nat) : Nat → Nat
  | 0 => 0
  | i + 1 => if i < 8 then 27 * wv t s i + (t (s + i) - 96) else wv t s i
theorem wv_s {t : Nat → Nat} {s i : Nat} (h : i < 8) : wv t s (i + 1) = 27 * wv t s i + (t (s + i) - 96) := by rw [wv, if_pos h]
theorem wv_8 {t : Nat → Nat} {s : Nat} : ∀ {k : Nat}, wv t s (8 + k) = wv t s 8
  | 0 => rfl
  | k + 1 => by
    rw [show 8 + (k + 1) = 8 + k + 1 from rfl, wv, if_neg (by omega)]
    exact wv_8
theorem wv_lt {t : Nat → Nat} {s n : Nat} (h : ∀ i, i < n → 97 ≤ t (s + i) ∧ t (s + i) ≤ 122) : ∀ {i : Nat}, i ≤ n → wv t s i + 1 ≤ 27 ^ (min i 8)
  | 0, _ => by show 0 + 1 ≤ 27 ^ (min 0 8); decide
  | i + 1, hi => by
    have r := wv_lt h (i := i) (by omega)
    have c := h i (by omega)
    rw [wv]
    by_cases e : i < 8
    · rw [if_pos e, show min (i + 1) 8 = i + 1 from by omega, Nat.pow_succ]
      rw [show min i 8 = i from by omega] at r
      omega
    · rw [if_neg e, show min (i + 1) 8 = 8 from by omega]
      rwa [show min i 8 = 8 from by omega] at r
theorem wrd_wv {t : Nat → Nat} {s n : Nat} (h : ∀ i, i < n → 97 ≤ t (s + i) ∧ t (s + i) ≤ 122) : ∀ {i : Nat}, i ≤ n → wrd t s i = lN (wv t s i)
  | 0, _ => rfl
  | i + 1, hi => by
    have r := wrd_wv h (i := i) (by omega)
    have c := h i (by omega)
    rw [wrd, wv, r]
    by_cases e : i < 8
    · rw [if_pos e, if_pos e, nI_l (by omega), show (27 : Int64) = lN 27 from rfl, show (96 : Int64) = lN 96 from rfl, lN_mul, lN_add, lN_sub (by omega)]
      congr 1
      omega
    · rw [if_neg e, if_neg e]
def wdN : List (List Nat) := [[119, 111, 114, 107, 115], [115, 116, 97, 116, 105, 111, 110], [108, 111, 111, 112], [114, 117, 110]]
def wc (wi k : Nat) : Nat := (wdN.getD wi []).getD k 0
def wdV (wi : Nat) : Nat := ([12531826, 7648899512, 247552, 13703] : List Nat).getD wi 0
def isWp (t : Nat → Nat) (s n wi : Nat) : Prop := n = lenS.getD wi 0 ∧ ∀ i, i < lenS.getD wi 0 → t (s + i) = wc wi i
theorem n9 (n : Nat) : n = 0 ∨ n = 1 ∨ n = 2 ∨ n = 3 ∨ n = 4 ∨ n = 5 ∨ n = 6 ∨ n = 7 ∨ ∃ k, n = 8 + k := by
  by_cases h : 8 ≤ n
  · exact Or.inr (Or.inr (Or.inr (Or.inr (Or.inr (Or.inr (Or.inr (Or.inr ⟨n - 8, by omega⟩)))))))
  · omega

theorem wv_w0 {t : Nat → Nat} {s n : Nat} (h : ∀ i, i < n → 97 ≤ t (s + i) ∧ t (s + i) ≤ 122) : wv t s n = 12531826 ↔ isWp t s n 0 := by
  have e0 : wv t s 0 = 0 := rfl
  have e1 := wv_s (t := t) (s := s) (i := 0) (by omega)
  have e2 := wv_s (t := t) (s := s) (i := 1) (by omega)
  have e3 := wv_s (t := t) (s := s) (i := 2) (by omega)
  have e4 := wv_s (t := t) (s := s) (i := 3) (by omega)
  have e5 := wv_s (t := t) (s := s) (i := 4) (by omega)
  have e6 := wv_s (t := t) (s := s) (i := 5) (by omega)
  have e7 := wv_s (t := t) (s := s) (i := 6) (by omega)
  have e8 := wv_s (t := t) (s := s) (i := 7) (by omega)
  constructor
  · intro hv
    rcases n9 n with rfl | rfl | rfl | rfl | rfl | rfl | rfl | rfl | ⟨k, rfl⟩
    · exfalso; clear h; simp only [Nat.zero_add, Nat.reduceAdd] at *; omega
    · exfalso; have h0 := h 0 (by omega); clear h; simp only [Nat.zero_add, Nat.reduceAdd] at *; omega
    · exfalso; have h0 := h 0 (by omega); have h1 := h 1 (by omega); clear h; simp only [Nat.zero_add, Nat.reduceAdd] at *; omega
    · exfalso; have h0 := h 0 (by omega); have h1 := h 1 (by omega); have h2 := h 2 (by omega); clear h; simp only [Nat.zero_add, Nat.reduceAdd] at *; omega
    · exfalso; have h0 := h 0 (by omega); have h1 := h 1 (by omega); have h2 := h 2 (by omega); have h3 := h 3 (by omega); clear h; simp only [Nat.zero_add, Nat.reduceAdd] at *; omega
    · have h0 := h 0 (by omega); have h1 := h 1 (by omega); have h2 := h 2 (by omega); have h3 := h 3 (by omega); have h4 := h 4 (by omega); clear h; simp only [Nat.zero_add, Nat.reduceAdd] at *
      have q : t (s + 0) = 119 ∧ t (s + 1) = 111 ∧ t (s + 2) = 114 ∧ t (s + 3) = 107 ∧ t (s + 4) = 115 := by simp only [Nat.add_zero] at *; omega
      refine ⟨rfl, fun i hi => ?_⟩
      have hi : i < 5 := hi
      rcases (show i = 0 ∨ i = 1 ∨ i = 2 ∨ i = 3 ∨ i = 4 from by omega) with rfl | rfl | rfl | rfl | rfl
      · exact q.1
      · exact q.2.1
      · exact q.2.2.1
      · exact q.2.2.2.1
      · exact q.2.2.2.2
    · exfalso; have h0 := h 0 (by omega); have h1 := h 1 (by omega); have h2 := h 2 (by omega); have h3 := h 3 (by omega); have h4 := h 4 (by omega); have h5 := h 5 (by omega); clear h; simp only [Nat.zero_add, Nat.reduceAdd] at *; omega
    · exfalso; have h0 := h 0 (by omega); have h1 := h 1 (by omega); have h2 := h 2 (by omega); have h3 := h 3 (by omega); have h4 := h 4 (by omega); have h5 := h 5 (by omega); have h6 := h 6 (by omega); clear h; simp only [Nat.zero_add, Nat.reduceAdd] at *; omega
    · exfalso; rw [wv_8] at hv; have h0 := h 0 (by omega); have h1 := h 1 (by omega); have h2 := h 2 (by omega); have h3 := h 3 (by omega); have h4 := h 4 (by omega); have h5 := h 5 (by omega); have h6 := h 6 (by omega); have h7 := h 7 (by omega); clear h; simp only [Nat.zero_add, Nat.reduceAdd] at *; omega
  · rintro ⟨rfl, hq⟩
    show wv t s 5 = 12531826
    have q0 : t (s + 0) = 119 := hq 0 (by decide)
    have q1 : t (s + 1) = 111 := hq 1 (by decide)
    have q2 : t (s + 2) = 114 := hq 2 (by decide)
    have q3 : t (s + 3) = 107 := hq 3 (by decide)
    have q4 : t (s + 4) = 115 := hq 4 (by decide)
    clear hq h; simp only [Nat.zero_add, Nat.reduceAdd] at *; omega
theorem wv_w1 {t : Nat → Nat} {s n : Nat} (h : ∀ i, i < n → 97 ≤ t (s + i) ∧ t (s + i) ≤ 122) : wv t s n = 7648899512 ↔ isWp t s n 1 := by
  have e0 : wv t s 0 = 0 := rfl
  have e1 := wv_s (t := t) (s := s) (i := 0) (by omega)
  have e2 := wv_s (t := t) (s := s) (i := 1) (by omega)
  have e3 := wv_s (t := t) (s := s) (i := 2) (by omega)
  have e4 := wv_s (t := t) (s := s) (i := 3) (by omega)
  have e5 := wv_s (t := t) (s := s) (i := 4) (by omega)
  have e6 := wv_s (t := t) (s := s) (i := 5) (by omega)
  have e7 := wv_s (t := t) (s := s) (i := 6) (by omega)
  have e8 := wv_s (t := t) (s := s) (i := 7) (by omega)
  constructor
  · intro hv
    rcases n9 n with rfl | rfl | rfl | rfl | rfl | rfl | rfl | rfl | ⟨k, rfl⟩
    · exfalso; clear h; simp only [Nat.zero_add, Nat.reduceAdd] at *; omega
    · exfalso; have h0 := h 0 (by omega); clear h; simp only [Nat.zero_add, Nat.reduceAdd] at *; omega
    · exfalso; have h0 := h 0 (by omega); have h1 := h 1 (by omega); clear h; simp only [Nat.zero_add, Nat.reduceAdd] at *; omega
    · exfalso; have h0 := h 0 (by omega); have h1 := h 1 (by omega); have h2 := h 2 (by omega); clear h; simp only [Nat.zero_add, Nat.reduceAdd] at *; omega
    · exfalso; have h0 := h 0 (by omega); have h1 := h 1 (by omega); have h2 := h 2 (by omega); have h3 := h 3 (by omega); clear h; simp only [Nat.zero_add, Nat.reduceAdd] at *; omega
    · exfalso; have h0 := h 0 (by omega); have h1 := h 1 (by omega); have h2 := h 2 (by omega); have h3 := h 3 (by omega); have h4 := h 4 (by omega); clear h; simp only [Nat.zero_add, Nat.reduceAdd] at *; omega
    · exfalso; have h0 := h 0 (by omega); have h1 := h 1 (by omega); have h2 := h 2 (by omega); have h3 := h 3 (by omega); have h4 := h 4 (by omega); have h5 := h 5 (by omega); clear h; simp only [Nat.zero_add, Nat.reduceAdd] at *; omega
    · have h0 := h 0 (by omega); have h1 := h 1 (by omega); have h2 := h 2 (by omega); have h3 := h 3 (by omega); have h4 := h 4 (by omega); have h5 := h 5 (by omega); have h6 := h 6 (by omega); clear h; simp only [Nat.zero_add, Nat.reduceAdd] at *
      have q : t (s + 0) = 115 ∧ t (s + 1) = 116 ∧ t (s + 2) = 97 ∧ t (s + 3) = 116 ∧ t (s + 4) = 105 ∧ t (s + 5) = 111 ∧ t (s + 6) = 110 := by simp only [Nat.add_zero] at *; omega
      refine ⟨rfl, fun i hi => ?_⟩
      have hi : i < 7 := hi
      rcases (show i = 0 ∨ i = 1 ∨ i = 2 ∨ i = 3 ∨ i = 4 ∨ i = 5 ∨ i = 6 from by omega) with rfl | rfl | rfl | rfl | rfl | rfl | rfl
      · exact q.1
      · exact q.2.1
      · exact q.2.2.1
      · exact q.2.2.2.1
      · exact q.2.2.2.2.1
      · exact q.2.2.2.2.2.1
      · exact q.2.2.2.2.2.2
    · exfalso; rw [wv_8] at hv; have h0 := h 0 (by omega); have h1 := h 1 (by omega); have h2 := h 2 (by omega); have h3 := h 3 (by omega); have h4 := h 4 (by omega); have h5 := h 5 (by omega); have h6 := h 6 (by omega); have h7 := h 7 (by omega); clear h; simp only [Nat.zero_add, Nat.reduceAdd] at *; omega
  · rintro ⟨rfl, hq⟩
    show wv t s 7 = 7648899512
    have q0 : t (s + 0) = 115 := hq 0 (by decide)
    have q1 : t (s + 1) = 116 := hq 1 (by decide)
    have q2 : t (s + 2) = 97 := hq 2 (by decide)
    have q3 : t (s + 3) = 116 := hq 3 (by decide)
    have q4 : t (s + 4) = 105 := hq 4 (by decide)
    have q5 : t (s + 5) = 111 := hq 5 (by decide)
    have q6 : t (s + 6) = 110 := hq 6 (by decide)
    clear hq h; simp only [Nat.zero_add, Nat.reduceAdd] at *; omega
theorem wv_w2 {t : Nat → Nat} {s n : Nat} (h : ∀ i, i < n → 97 ≤ t (s + i) ∧ t (s + i) ≤ 122) : wv t s n = 247552 ↔ isWp t s n 2 := by
  have e0 : wv t s 0 = 0 := rfl
  have e1 := wv_s (t := t) (s := s) (i := 0) (by omega)
  have e2 := wv_s (t := t) (s := s) (i := 1) (by omega)
  have e3 := wv_s (t := t) (s := s) (i := 2) (by omega)
  have e4 := wv_s (t := t) (s := s) (i := 3) (by omega)
  have e5 := wv_s (t := t) (s := s) (i := 4) (by omega)
  have e6 := wv_s (t := t) (s := s) (i := 5) (by omega)
  have e7 := wv_s (t := t) (s := s) (i := 6) (by omega)
  have e8 := wv_s (t := t) (s := s) (i := 7) (by omega)
  constructor
  · intro hv
    rcases n9 n with rfl | rfl | rfl | rfl | rfl | rfl | rfl | rfl | ⟨k, rfl⟩
    · exfalso; clear h; simp only [Nat.zero_add, Nat.reduceAdd] at *; omega
    · exfalso; have h0 := h 0 (by omega); clear h; simp only [Nat.zero_add, Nat.reduceAdd] at *; omega
    · exfalso; have h0 := h 0 (by omega); have h1 := h 1 (by omega); clear h; simp only [Nat.zero_add, Nat.reduceAdd] at *; omega
    · exfalso; have h0 := h 0 (by omega); have h1 := h 1 (by omega); have h2 := h 2 (by omega); clear h; simp only [Nat.zero_add, Nat.reduceAdd] at *; omega
    · have h0 := h 0 (by omega); have h1 := h 1 (by omega); have h2 := h 2 (by omega); have h3 := h 3 (by omega); clear h; simp only [Nat.zero_add, Nat.reduceAdd] at *
      have q : t (s + 0) = 108 ∧ t (s + 1) = 111 ∧ t (s + 2) = 111 ∧ t (s + 3) = 112 := by simp only [Nat.add_zero] at *; omega
      refine ⟨rfl, fun i hi => ?_⟩
      have hi : i < 4 := hi
      rcases (show i = 0 ∨ i = 1 ∨ i = 2 ∨ i = 3 from by omega) with rfl | rfl | rfl | rfl
      · exact q.1
      · exact q.2.1
      · exact q.2.2.1
      · exact q.2.2.2
    · exfalso; have h0 := h 0 (by omega); have h1 := h 1 (by omega); have h2 := h 2 (by omega); have h3 := h 3 (by omega); have h4 := h 4 (by omega); clear h; simp only [Nat.zero_add, Nat.reduceAdd] at *; omega
    · exfalso; have h0 := h 0 (by omega); have h1 := h 1 (by omega); have h2 := h 2 (by omega); have h3 := h 3 (by omega); have h4 := h 4 (by omega); have h5 := h 5 (by omega); clear h; simp only [Nat.zero_add, Nat.reduceAdd] at *; omega
    · exfalso; have h0 := h 0 (by omega); have h1 := h 1 (by omega); have h2 := h 2 (by omega); have h3 := h 3 (by omega); have h4 := h 4 (by omega); have h5 := h 5 (by omega); have h6 := h 6 (by omega); clear h; simp only [Nat.zero_add, Nat.reduceAdd] at *; omega
    · exfalso; rw [wv_8] at hv; have h0 := h 0 (by omega); have h1 := h 1 (by omega); have h2 := h 2 (by omega); have h3 := h 3 (by omega); have h4 := h 4 (by omega); have h5 := h 5 (by omega); have h6 := h 6 (by omega); have h7 := h 7 (by omega); clear h; simp only [Nat.zero_add, Nat.reduceAdd] at *; omega
  · rintro ⟨rfl, hq⟩
    show wv t s 4 = 247552
    have q0 : t (s + 0) = 108 := hq 0 (by decide)
    have q1 : t (s + 1) = 111 := hq 1 (by decide)
    have q2 : t (s + 2) = 111 := hq 2 (by decide)
    have q3 : t (s + 3) = 112 := hq 3 (by decide)
    clear hq h; simp only [Nat.zero_add, Nat.reduceAdd] at *; omega
theorem wv_w3 {t : Nat → Nat} {s n : Nat} (h : ∀ i, i < n → 97 ≤ t (s + i) ∧ t (s + i) ≤ 122) : wv t s n = 13703 ↔ isWp t s n 3 := by
  have e0 : wv t s 0 = 0 := rfl
  have e1 := wv_s (t := t) (s := s) (i := 0) (by omega)
  have e2 := wv_s (t := t) (s := s) (i := 1) (by omega)
  have e3 := wv_s (t := t) (s := s) (i := 2) (by omega)
  have e4 := wv_s (t := t) (s := s) (i := 3) (by omega)
  have e5 := wv_s (t := t) (s := s) (i := 4) (by omega)
  have e6 := wv_s (t := t) (s := s) (i := 5) (by omega)
  have e7 := wv_s (t := t) (s := s) (i := 6) (by omega)
  have e8 := wv_s (t := t) (s := s) (i := 7) (by omega)
  constructor
  · intro hv
    rcases n9 n with rfl | rfl | rfl | rfl | rfl | rfl | rfl | rfl | ⟨k, rfl⟩
    · exfalso; clear h; simp only [Nat.zero_add, Nat.reduceAdd] at *; omega
    · exfalso; have h0 := h 0 (by omega); clear h; simp only [Nat.zero_add, Nat.reduceAdd] at *; omega
    · exfalso; have h0 := h 0 (by omega); have h1 := h 1 (by omega); clear h; simp only [Nat.zero_add, Nat.reduceAdd] at *; omega
    · have h0 := h 0 (by omega); have h1 := h 1 (by omega); have h2 := h 2 (by omega); clear h; simp only [Nat.zero_add, Nat.reduceAdd] at *
      have q : t (s + 0) = 114 ∧ t (s + 1) = 117 ∧ t (s + 2) = 110 := by simp only [Nat.add_zero] at *; omega
      refine ⟨rfl, fun i hi => ?_⟩
      have hi : i < 3 := hi
      rcases (show i = 0 ∨ i = 1 ∨ i = 2 from by omega) with rfl | rfl | rfl
      · exact q.1
      · exact q.2.1
      · exact q.2.2
    · exfalso; have h0 := h 0 (by omega); have h1 := h 1 (by omega); have h2 := h 2 (by omega); have h3 := h 3 (by omega); clear h; simp only [Nat.zero_add, Nat.reduceAdd] at *; omega
    · exfalso; have h0 := h 0 (by omega); have h1 := h 1 (by omega); have h2 := h 2 (by omega); have h3 := h 3 (by omega); have h4 := h 4 (by omega); clear h; simp only [Nat.zero_add, Nat.reduceAdd] at *; omega
    · exfalso; have h0 := h 0 (by omega); have h1 := h 1 (by omega); have h2 := h 2 (by omega); have h3 := h 3 (by omega); have h4 := h 4 (by omega); have h5 := h 5 (by omega); clear h; simp only [Nat.zero_add, Nat.reduceAdd] at *; omega
    · exfalso; have h0 := h 0 (by omega); have h1 := h 1 (by omega); have h2 := h 2 (by omega); have h3 := h 3 (by omega); have h4 := h 4 (by omega); have h5 := h 5 (by omega); have h6 := h 6 (by omega); clear h; simp only [Nat.zero_add, Nat.reduceAdd] at *; omega
    · exfalso; rw [wv_8] at hv; have h0 := h 0 (by omega); have h1 := h 1 (by omega); have h2 := h 2 (by omega); have h3 := h 3 (by omega); have h4 := h 4 (by omega); have h5 := h 5 (by omega); have h6 := h 6 (by omega); have h7 := h 7 (by omega); clear h; simp only [Nat.zero_add, Nat.reduceAdd] at *; omega
  · rintro ⟨rfl, hq⟩
    show wv t s 3 = 13703
    have q0 : t (s + 0) = 114 := hq 0 (by decide)
    have q1 : t (s + 1) = 117 := hq 1 (by decide)
    have q2 : t (s + 2) = 110 := hq 2 (by decide)
    clear hq h; simp only [Nat.zero_add, Nat.reduceAdd] at *; omega
theorem wv_w {t : Nat → Nat} {s n wi : Nat} (hw : wi < 4) (h : ∀ i, i < n → 97 ≤ t (s + i) ∧ t (s + i) ≤ 122) : wv t s n = wdV wi ↔ isWp t s n wi := by
  rcases (show wi = 0 ∨ wi = 1 ∨ wi = 2 ∨ wi = 3 from by omega) with rfl | rfl | rfl | rfl
  · exact wv_w0 h
  · exact wv_w1 h
  · exact wv_w2 h
  · exact wv_w3 h
theorem wdV_lt {wi : Nat} (hw : wi < 4) : wdV wi < 2 ^ 62 := by
  rcases (show wi = 0 ∨ wi = 1 ∨ wi = 2 ∨ wi = 3 from by omega) with rfl | rfl | rfl | rfl <;> decide
/-- the model's words -/
theorem m_isWd {t : Nat → Nat} {L a wi : Nat} {M : Rc} {ML : RcL} (hw : wi < 4) (ha : a ≤ L) (h : MT t L a M ML) : (tK t L a = 2 ∧ isWp t (tS t L a) (tE t L a - tS t L a) wi → fX6_isWord M ML (lN (wdV wi)) = some (nI 1)) ∧ (¬ (tK t L a = 2 ∧ isWp t (tS t L a) (tE t L a - tS t L a) wi) → fX6_isWord M ML (lN (wdV wi)) = some (nI 0)) := by
  have tc := tK_c (t := t) ha
  have vl := wdV_lt hw
  have tk4 : tK t L a ≤ 4 := by omega
  unfold fX6_isWord fX6_isWord_21
  rw [h.2.1]
  by_cases c : tK t L a = 2
  · have lt : ∀ i, i < tE t L a - tS t L a → 97 ≤ t (tS t L a + i) ∧ t (tS t L a + i) ≤ 122 := by
      rcases tc with z | z | z | z | z
      · omega
      · omega
      · omega
      · exact z.2.2.2
      · omega
    have e := h.2.2.2.2 c
    rw [wrd_wv lt (Nat.le_refl _)] at e
    have b1 := wv_lt lt (i := tE t L a - tS t L a) (Nat.le_refl _)
    have b2 : 27 ^ (min (tE t L a - tS t L a) 8) ≤ 27 ^ 8 := Nat.pow_le_pow_right (by omega) (by omega)
    have b3 : wv t (tS t L a) (tE t L a - tS t L a) < 2 ^ 63 := by
      have : 27 ^ 8 < 2 ^ 63 := by decide
      omega
    have key : lg_cmp (ML 10 0) (lN (wdV wi)) = 0 ↔ isWp t (tS t L a) (tE t L a - tS t L a) wi := by
      rw [lg_cmp_eq, e, pk_lEQ b3 (by omega), wv_w hw lt]
    rw [if_eq c]
    refine ⟨fun z => if_pos (key.mpr z.2), fun z => if_neg (fun y => z ⟨c, key.mp y⟩)⟩
  · rw [if_neq c (by omega) (by omega)]
    exact ⟨fun z => absurd z.1 c, fun _ => rfl⟩
theorem wc_ok {wi k : Nat} (hw : wi < 4) (hk : k < lenS.getD wi 0) : (chS wi k &&& 255) = nI (wc wi k) ∧ wc wi k < 256 := by
  rcases (show wi = 0 ∨ wi = 1 ∨ wi = 2 ∨ wi = 3 from by omega) with rfl | rfl | rfl | rfl
  · have hk : k < 5 := hk
    rcases (show k = 0 ∨ k = 1 ∨ k = 2 ∨ k = 3 ∨ k = 4 from by omega) with rfl | rfl | rfl | rfl | rfl <;> decide
  · have hk : k < 7 := hk
    rcases (show k = 0 ∨ k = 1 ∨ k = 2 ∨ k = 3 ∨ k = 4 ∨ k = 5 ∨ k = 6 from by omega) with rfl | rfl | rfl | rfl | rfl | rfl | rfl <;> decide
  · have hk : k < 4 := hk
    rcases (show k = 0 ∨ k = 1 ∨ k = 2 ∨ k = 3 from by omega) with rfl | rfl | rfl | rfl <;> decide
  · have hk : k < 3 := hk
    rcases (show k = 0 ∨ k = 1 ∨ k = 2 from by omega) with rfl | rfl | rfl <;> decide
theorem lenS_b {wi : Nat} (hw : wi < 4) : 3 ≤ lenS.getD wi 0 ∧ lenS.getD wi 0 ≤ 7 := by
  rcases (show wi = 0 ∨ wi = 1 ∨ wi = 2 ∨ wi = 3 from by omega) with rfl | rfl | rfl | rfl <;> decide
theorem c_isW28 {T : Nat → Int32} {t : Nat → Nat} (hT : TP T t) {N wi s : Nat} (hw : wi < 4) {R : Rc} (h7 : R 7 0 = nI s) (hs : s + lenS.getD wi 0 ≤ 440) : ∀ {d i u : Nat}, d < u → i + d = lenS.getD wi 0 → ((∀ j, i ≤ j → j < lenS.getD wi 0 → t (s + j) = wc wi j) → itn (fX4_isWord_28b wi N) (fun _ _ _ => none) u T R (nI i) = some (nI 1)) ∧ (¬ (∀ j, i ≤ j → j < lenS.getD wi 0 → t (s + j) = wc wi j) → itn (fX4_isWord_28b wi N) (fun _ _ _ => none) u T R (nI i) = some (nI 0))
  | _, _, 0, h, _ => by omega
  | 0, i, u + 1, _, e => by
    have lb := lenS_b hw
    rw [itn_s]
    unfold fX4_isWord_28b
    rw [if_le (by omega) (by omega)]
    exact ⟨fun _ => rfl, fun z => absurd (fun j h1 h2 => by omega) z⟩
  | d + 1, i, u + 1, hu, e => by
    have lb := lenS_b hw
    have r := c_isW28 hT (N := N) hw h7 hs (d := d) (i := i + 1) (u := u) (by omega) (by omega)
    have wk := wc_ok hw (k := i) (by omega)
    have ta := hT (s + i) (by omega)
    rw [itn_s]
    generalize itn (fX4_isWord_28b wi N) (fun _ _ _ => none) u = K at r ⊢
    unfold fX4_isWord_28b
    rw [if_nle (by omega) (by omega), h7, nI_add, gdi_nI (by omega) (by omega), gdi_nI (by omega) (by omega), nI_clamp (by omega), nI_clamp (by omega), ta.1, wk.1]
    by_cases c : t (s + i) = wc wi i
    · rw [if_eq c, nI_add, nm_s]
      refine ⟨fun z => r.1 (fun j h1 h2 => z j (by omega) h2), fun z => r.2 (fun y => z (fun j h1 h2 => ?_))⟩
      by_cases q : j = i
      · rw [q]; exact c
      · exact y j (by omega) h2
    · rw [if_neq c (by omega) (by omega)]
      exact ⟨fun z => absurd (z i (Nat.le_refl _) (by omega)) c, fun _ => rfl⟩
theorem c_isWd {T : Nat → Int32} {t : Nat → Nat} (hT : TP T t) {N L a wi : Nat} (hN : 500 < N) (hL : L ≤ 440) (ha : a ≤ L) (hw : wi < 4) {R : Rc} (h5 : R 5 0 = nI (tE t L a)) (h6 : R 6 0 = nI (cs (tK t L a))) (h7 : R 7 0 = nI (tS t L a)) : (tK t L a = 2 ∧ isWp t (tS t L a) (tE t L a - tS t L a) wi → fX4_isWord wi N T R = some (nI 1)) ∧ (¬ (tK t L a = 2 ∧ isWp t (tS t L a) (tE t L a - tS t L a) wi) → fX4_isWord wi N T R = some (nI 0)) := by
  have tc := tK_c (t := t) ha
  have tk4 : tK t L a ≤ 4 := by omega
  have eb := tE_b (t := t) ha
  have lb := lenS_b hw
  unfold fX4_isWord fX4_isWord_24
  rw [h6]
  by_cases c : tK t L a = 2
  · rw [if_eq (by rw [c]; rfl), h5, h7, nI_sub' (by omega)]
    by_cases q : tE t L a - tS t L a = lenS.getD wi 0
    · have k := c_isW28 hT (N := N) hw h7 (by omega) (d := lenS.getD wi 0) (i := 0) (u := N) (by omega) (by omega)
      rw [if_eq q, nm_s]
      unfold fX4_isWord_28
      exact ⟨fun z => k.1 (fun j _ h2 => z.2.2 j h2), fun z => k.2 (fun y => z ⟨c, q, fun i hi => y i (by omega) hi⟩)⟩
    · rw [if_neq q (by omega) (by omega)]
      exact ⟨fun z => absurd z.2.1 q, fun _ => rfl⟩
  · rw [if_neq (by unfold cs; split <;> (try split) <;> omega) (by unfold cs; split <;> (try split) <;> omega) (by omega)]
    exact ⟨fun z => absurd z.1 c, fun _ => rfl⟩
/-- numbers -/
def nv (t : Nat → Nat) (s n : Nat) : Nat := if n = 1 then t s - 48 else 10 * (t s - 48) + (t (s + 1) - 48)
theorem nmb_nv {t : Nat → Nat} {s n : Nat} (hn : n = 1 ∨ n = 2) (h : ∀ i, i < n → 48 ≤ t (s + i) ∧ t (s + i) ≤ 57) : nmb t s n = nI (nv t s n) ∧ nv t s n ≤ 99 := by
  have h0 := h 0 (by omega)
  rw [Nat.add_zero] at h0
  have e1 : nmb t s 1 = nI (t s - 48) := by
    rw [nmb, if_pos (by omega), nmb, pk_mul, nI_add, Nat.add_zero, nI_sub' (by omega)]
    congr 1
    omega
  unfold nv
  rcases hn with rfl | rfl
  · rw [if_pos rfl]; exact ⟨e1, by omega⟩
  · have h1 := h 1 (by omega)
    rw [if_neg (by omega), nmb, if_pos (by omega), e1, pk_mul, nI_add, nI_sub' (by omega)]
    exact ⟨congrArg nI (by omega), by omega⟩
theorem c_num {T : Nat → Int32} {t : Nat → Nat} (hT : TP T t) {N s n : Nat} (hN : 500 < N) {R : Rc} {lo hi : Int32} (h5 : R 5 0 = nI (s + n)) (hs : s + n ≤ 440) (hn : n = 1 ∨ n = 2) (h : ∀ i, i < n → 48 ≤ t (s + i) ∧ t (s + i) ≤ 57) : fX4_readNumber_27 N T R lo hi (nI 0) (nI s) = if nI (nv t s n) < lo then fX4_readNumber_68 N T R (nI (nv t s n)) else if nI (nv t s n) ≤ hi then fX4_readNumber_73 N T R (nI (nv t s n)) else fX4_readNumber_68 N T R (nI (nv t s n)) := by
  have h0 := h 0 (by omega)
  rw [Nat.add_zero] at h0
  have t0 := hT s (by omega)
  have fin : ∀ v u, itn (fX4_readNumber_27b N) (fun _ _ _ _ _ _ => none) (u + 1) T R lo hi v (nI (s + n)) = if v < lo then fX4_readNumber_68 N T R v else if v ≤ hi then fX4_readNumber_73 N T R v else fX4_readNumber_68 N T R v := by
    intro v u
    rw [itn_s]
    unfold fX4_readNumber_27b
    rw [h5, if_le (Nat.le_refl _) (by omega)]
  have stp : ∀ v w i u j k, i < n → v ≤ 9 → w = 10 * v + (t (s + i) - 48) → j = s + i → k = s + i + 1 → itn (fX4_readNumber_27b N) (fun _ _ _ _ _ _ => none) (u + 1) T R lo hi (nI v) (nI j) = itn (fX4_readNumber_27b N) (fun _ _ _ _ _ _ => none) u T R lo hi (nI w) (nI k) := by
    intro v w i u j k hi hv hw hj hk
    subst hj hk
    have ti := hT (s + i) (by omega)
    have hi := h i hi
    rw [itn_s]
    generalize itn (fX4_readNumber_27b N) (fun _ _ _ _ _ _ => none) u = K
    unfold fX4_readNumber_27b
    rw [h5, if_nle (by omega) (by omega), gdi_nI (by omega) (by omega), nI_clamp (by omega), ti.1, pk_mul, nI_add, nI_sub' (by omega), nm_s, nI_add, nm_s, show v * 10 + t (s + i) - 48 = w from by omega]
  obtain ⟨u, hu⟩ : ∃ u, N = u + 1 + 1 + 1 := ⟨N - 3, by omega⟩
  have hu' := congrArg (itn (fX4_readNumber_27b N) (fun _ _ _ _ _ _ => none)) hu
  unfold fX4_readNumber_27
  rw [hu']
  have s0 := stp 0 (t s - 48) 0 (u + 1 + 1) s (s + 1) (by omega) (by omega) (by rw [Nat.add_zero]; omega) (by omega) (by omega)
  rcases hn with rfl | rfl
  · have e : nv t s 1 = t s - 48 := if_pos rfl
    rw [s0, e]
    exact fin _ _
  · have e : nv t s 2 = 10 * (t s - 48) + (t (s + 1) - 48) := if_neg (by omega)
    have s1 := stp (t s - 48) (10 * (t s - 48) + (t (s + 1) - 48)) 1 (u + 1) (s + 1) (s + 2) (by omega) (by omega) rfl (by omega) (by omega)
    rw [s0, s1, e]
    exact fin _ _
end
section
/-! numbers and signs read by both; o: the first fault (kind, place), if there was one -/
def RC (R : Rc) (L a : Nat) : Prop := R 2 0 = nI L ∧ R 5 0 = nI a ∧ a ≤ L
def FO (R : Rc) : Option (Nat × Nat) → Prop
  | none => R 3 0 = nI 0
  | some f => R 3 0 = nI f.1 ∧ R 4 0 = nI f.2 ∧ 1 ≤ f.1 ∧ f.1 ≤ 3 ∧ f.2 ≤ 440
def tV (t : Nat → Nat) (L a : Nat) : Nat := nv t (tS t L a) (tE t L a - tS t L a)
def rnO (t : Nat → Nat) (L : Nat) (lo hi : Int32) (o : Option (Nat × Nat)) (a : Nat) : Option (Nat × Nat) := match o with
  | some f => some f
  | none => if tK t L a = 3 then (if nI (tV t L a) < lo then some (2, tS t L a) else if nI (tV t L a) ≤ hi then none else some (2, tS t L a)) else some (1, tS t L a)
def rsO (t : Nat → Nat) (L : Nat) (o : Option (Nat × Nat)) (a : Nat) : Option (Nat × Nat) := match o with
  | some f => some f
  | none => if tK t L a = 4 then none else some (1, tS t L a)
theorem c_fail {R : Rc} {o : Option (Nat × Nat)} {k s : Nat} (hk : 1 ≤ k ∧ k ≤ 3) (hs : s ≤ 440) (h : FO R o) (h7 : R 7 0 = nI s) : ∃ R', fX4_fail R (nI k) = some R' ∧ FO R' (some (o.getD (k, s))) ∧ ∀ i, i ≠ 3 → i ≠ 4 → R' i = R i := by
  unfold fX4_fail
  cases o with
  | none =>
    have h : R 3 0 = nI 0 := h
    rw [h, if_e0 rfl, nm_s, nm_s]
    refine ⟨_, rfl, ⟨?_, ?_, hk.1, hk.2, hs⟩, fun i q1 q2 => ?_⟩
    · rw [va_up_ne _ _ (by omega), va_up_self]; rfl
    · rw [va_up_self, va_up_ne _ _ (by omega)]; exact h7
    · rw [va_up_ne _ _ q2, va_up_ne _ _ q1]
  | some f =>
    have h : R 3 0 = nI f.1 ∧ R 4 0 = nI f.2 ∧ 1 ≤ f.1 ∧ f.1 ≤ 3 ∧ f.2 ≤ 440 := h
    rw [h.1, if_n0 (by omega) (by omega)]
    exact ⟨R, rfl, h, fun _ _ _ => rfl⟩
theorem FO_mv {R R' : Rc} {o : Option (Nat × Nat)} (h : FO R o) (h3 : R' 3 = R 3) (h4 : R' 4 = R 4) : FO R' o := by
  cases o with
  | none => show R' 3 0 = nI 0; rw [h3]; exact h
  | some f => show R' 3 0 = nI f.1 ∧ R' 4 0 = nI f.2 ∧ 1 ≤ f.1 ∧ f.1 ≤ 3 ∧ f.2 ≤ 440; rw [h3, h4]; exact h
theorem rnO_some {t : Nat → Nat} {L a : Nat} {lo hi : Int32} {f : Nat × Nat} : rnO t L lo hi (some f) a = some f := rfl
theorem rsO_some {t : Nat → Nat} {L a : Nat} {f : Nat × Nat} : rsO t L (some f) a = some f := rfl
theorem tV_b {t : Nat → Nat} {L a : Nat} (ha : a ≤ L) (h : tK t L a = 3) : tV t L a ≤ 99 ∧ nmb t (tS t L a) (tE t L a - tS t L a) = nI (tV t L a) ∧ a < tE t L a := by
  have tc := tK_c (t := t) ha
  rcases tc with z | z | z | z | z
  · omega
  · omega
  · omega
  · omega
  · have := nmb_nv z.2.2.1 z.2.2.2
    exact ⟨this.2, this.1, z.2.1⟩
theorem c_rn {T : Nat → Int32} {t : Nat → Nat} (hT : TP T t) {N L a : Nat} (hN : 500 < N) (hL : L ≤ 440) {R : Rc} {lo hi : Int32} {o : Option (Nat × Nat)} (h : RC R L a) (ho : FO R o) : ∃ w R', fX4_readNumber N T R lo hi = some (w, R') ∧ RC R' L (tE t L a) ∧ FO R' (rnO t L lo hi o a) ∧ (rnO t L lo hi o a = none → w = nI (tV t L a)) := by
  obtain ⟨R1, r1, r5, r6, r7, ro⟩ := tokC hT hN hL h.2.2 h.2.1 h.1
  have eb := tE_b (t := t) h.2.2
  have sb := tS_b (t := t) h.2.2 hL
  have tc := tK_c (t := t) h.2.2
  have rc1 : RC R1 L (tE t L a) := ⟨by rw [ro 2 (by omega) (by omega) (by omega)]; exact h.1, r5, eb.2.1⟩
  have fo1 : FO R1 o := FO_mv ho (ro 3 (by omega) (by omega) (by omega)) (ro 4 (by omega) (by omega) (by omega))
  have rcm : ∀ R2 : Rc, (∀ i, i ≠ 3 → i ≠ 4 → R2 i = R1 i) → RC R2 L (tE t L a) := fun R2 q => ⟨by rw [q 2 (by omega) (by omega)]; exact rc1.1, by rw [q 5 (by omega) (by omega)]; exact rc1.2.1, rc1.2.2⟩
  unfold fX4_readNumber
  rw [r1, bnd_s, r6]
  by_cases c : tK t L a = 3
  · rw [if_eq (by rw [c]; rfl), nm_s, r7, nm_s]
    have dg : (tE t L a - tS t L a = 1 ∨ tE t L a - tS t L a = 2) ∧ ∀ i, i < tE t L a - tS t L a → 48 ≤ t (tS t L a + i) ∧ t (tS t L a + i) ≤ 57 := by
      rcases tc with z | z | z | z | z
      · omega
      · omega
      · omega
      · omega
      · exact z.2.2
    have nm := c_num hT (N := N) (s := tS t L a) (n := tE t L a - tS t L a) hN (R := R1) (lo := lo) (hi := hi) (by rw [r5]; congr 1; omega) (by omega) dg.1 dg.2
    rw [show nv t (tS t L a) (tE t L a - tS t L a) = tV t L a from rfl] at nm
    obtain ⟨R2, f1, f2, f3⟩ := c_fail (k := 2) (by omega) sb fo1 r7
    have e68 : fX4_readNumber_68 N T R1 (nI (tV t L a)) = some (nI (tV t L a), R2) := by
      unfold fX4_readNumber_68 fX4_readNumber_73
      rw [f1, bnd_s]
    rw [nm]
    by_cases d : nI (tV t L a) < lo
    · rw [if_pos d, e68]
      refine ⟨_, R2, rfl, rcm R2 f3, ?_, ?_⟩
      · cases o with
        | none => unfold rnO; simp only; rw [if_pos c, if_pos d]; exact f2
        | some f => exact f2
      · cases o with
        | none => unfold rnO; simp only; rw [if_pos c, if_pos d]; intro z; cases z
        | some f => intro z; cases z
    · rw [if_neg d]
      by_cases e : nI (tV t L a) ≤ hi
      · rw [if_pos e]
        refine ⟨_, R1, rfl, rc1, ?_, fun _ => rfl⟩
        cases o with
        | none => unfold rnO; simp only; rw [if_pos c, if_neg d, if_pos e]; exact fo1
        | some f => exact fo1
      · rw [if_neg e, e68]
        refine ⟨_, R2, rfl, rcm R2 f3, ?_, ?_⟩
        · cases o with
          | none => unfold rnO; simp only; rw [if_pos c, if_neg d, if_neg e]; exact f2
          | some f => exact f2
        · cases o with
          | none => unfold rnO; simp only; rw [if_pos c, if_neg d, if_neg e]; intro z; cases z
          | some f => intro z; cases z
  · obtain ⟨R2, f1, f2, f3⟩ := c_fail (k := 1) (by omega) sb fo1 r7
    rw [if_neq (by unfold cs; split <;> (try split) <;> omega) (by unfold cs; split <;> (try split) <;> omega) (by omega), f1, bnd_s]
    refine ⟨_, R2, rfl, rcm R2 f3, ?_, ?_⟩
    · cases o with
      | none => unfold rnO; simp only; rw [if_neg c]; exact f2
      | some f => exact f2
    · cases o with
      | none => unfold rnO; simp only; rw [if_neg c]; intro z; cases z
      | some f => intro z; cases z
theorem c_rs {T : Nat → Int32} {t : Nat → Nat} (hT : TP T t) {N L a : Nat} (hN : 500 < N) (hL : L ≤ 440) {R : Rc} {o : Option (Nat × Nat)} (h : RC R L a) (ho : FO R o) : ∃ R', fX4_readSign N T R = some R' ∧ RC R' L (tE t L a) ∧ FO R' (rsO t L o a) := by
  obtain ⟨R1, r1, r5, r6, r7, ro⟩ := tokC hT hN hL h.2.2 h.2.1 h.1
  have eb := tE_b (t := t) h.2.2
  have sb := tS_b (t := t) h.2.2 hL
  have tc := tK_c (t := t) h.2.2
  have rc1 : RC R1 L (tE t L a) := ⟨by rw [ro 2 (by omega) (by omega) (by omega)]; exact h.1, r5, eb.2.1⟩
  have fo1 : FO R1 o := FO_mv ho (ro 3 (by omega) (by omega) (by omega)) (ro 4 (by omega) (by omega) (by omega))
  unfold fX4_readSign
  rw [r1, bnd_s, r6]
  by_cases c : tK t L a = 4
  · rw [if_eq (by rw [c]; rfl)]
    refine ⟨R1, rfl, rc1, ?_⟩
    cases o with
    | none => unfold rsO; simp only; rw [if_pos c]; exact fo1
    | some f => exact fo1
  · obtain ⟨R2, f1, f2, f3⟩ := c_fail (k := 1) (by omega) sb fo1 r7
    rw [if_neq (by unfold cs; split <;> (try split) <;> omega) (by unfold cs; split <;> (try split) <;> omega) (by omega), f1, bnd_s]
    refine ⟨R2, rfl, ⟨by rw [f3 2 (by omega) (by omega)]; exact rc1.1, by rw [f3 5 (by omega) (by omega)]; exact rc1.2.1, rc1.2.2⟩, ?_⟩
    cases o with
    | none => unfold rsO; simp only; rw [if_neg c]; exact f2
    | some f => exact f2
/-! the model's -/
def MB (t : Nat → Nat) (L a : Nat) (M : Rc) (ML : RcL) : Prop := MT t L a M ML ∧ TP (M 1) t ∧ M 3 0 = nI L ∧ a ≤ L
def MF (M M' : Rc) (f : Nat × Nat) : Prop := M' 8 0 = nI f.1 ∧ M' 9 0 = nI f.2 ∧ ∀ i, i ≠ 4 → i ≠ 5 → i ≠ 6 → i ≠ 7 → i ≠ 8 → i ≠ 9 → i ≠ 12 → M' i = M i
theorem m_bad {t : Nat → Nat} {L a k : Nat} {M : Rc} {ML : RcL} (h : MB t L a M ML) (hL : L ≤ 440) (hk : tK t L a = 1 → k = 1) : ∃ M', fX6_bad M ML (nI k) = some (nI 0, M') ∧ MF M M' (k, tS t L a) := by
  have tc := tK_c (t := t) h.2.2.2
  have tk4 : tK t L a ≤ 4 := by omega
  have e : fX6_bad M ML (nI k) = fX6_bad_14 M ML (nI k) := by
    unfold fX6_bad
    rw [h.1.2.1]
    by_cases c : tK t L a = 1
    · rw [if_eq c, hk c]
    · rw [if_neq c (by omega) (by omega)]
  rw [e]
  unfold fX6_bad_14
  rw [nm_s, nm_s]
  refine ⟨_, rfl, ?_, ?_, fun i q1 q2 q3 q4 q5 q6 q7 => ?_⟩
  · rw [va_up_ne _ _ (by omega), va_up_self]
  · rw [va_up_self, va_up_ne _ _ (by omega)]; exact h.1.1
  · rw [va_up_ne _ _ q6, va_up_ne _ _ q5]
theorem m_go {t : Nat → Nat} {L a N : Nat} {M : Rc} {ML : RcL} (hN : 500 < N) (hL : L ≤ 440) (h : MB t L a M ML) (hk : tK t L a ≠ 1) : ∃ M' ML', fX6_go N M ML = some (M', ML') ∧ MB t L (tE t L a) M' ML' ∧ ∀ i, i ≠ 4 → i ≠ 5 → i ≠ 6 → i ≠ 7 → M' i = M i := by
  have eb := tE_b (t := t) h.2.2.2
  obtain ⟨M', ML', a1, a2, a3⟩ := tokM hN hL eb.2.1 (M := M) (ML := ML) h.2.1 (h.1.2.2.1 hk) h.2.2.1
  refine ⟨M', ML', a1, ⟨a2, ?_, ?_, eb.2.1⟩, a3⟩
  · rw [a3 1 (by omega) (by omega) (by omega) (by omega)]; exact h.2.1
  · rw [a3 3 (by omega) (by omega) (by omega) (by omega)]; exact h.2.2.1
theorem isIn_T {v lo hi : Int32} (h1 : ¬ v < lo) (h2 : v ≤ hi) : fX6_isIn v lo hi = some (nI 1) := by
  unfold fX6_isIn
  rw [if_neg h1, if_neg (fun z => Int32.not_lt.mpr h2 z)]
theorem isIn_F {v lo hi : Int32} (h : v < lo ∨ ¬ v ≤ hi) : fX6_isIn v lo hi = some (nI 0) := by
  unfold fX6_isIn fX6_isIn_14
  by_cases c : v < lo
  · rw [if_pos c]
  · rw [if_neg c, if_pos (Int32.not_le.mp (h.resolve_left c))]
theorem m_told {t : Nat → Nat} {L a N j : Nat} {M : Rc} {ML : RcL} {lo hi : Int32} (hN : 500 < N) (hL : L ≤ 440) (hj : j < 353) (h : MB t L a M ML) : (rnO t L lo hi none a = none → ∃ M' ML', fX6_told N M ML (nI j) lo hi = some (nI 1, (M', ML')) ∧ MB t L (tE t L a) M' ML' ∧ M' 12 = upd (M 12) j (nI (tV t L a)) ∧ a < tE t L a ∧ tV t L a ≤ 99 ∧ ¬ nI (tV t L a) < lo ∧ nI (tV t L a) ≤ hi ∧ ∀ i, i ≠ 4 → i ≠ 5 → i ≠ 6 → i ≠ 7 → i ≠ 12 → M' i = M i) ∧ ∀ f, rnO t L lo hi none a = some f → ∃ M', fX6_told N M ML (nI j) lo hi = some (nI 0, (M', ML)) ∧ MF M M' f := by
  have tc := tK_c (t := t) h.2.2.2
  have tk4 : tK t L a ≤ 4 := by omega
  unfold fX6_told
  rw [h.1.2.1]
  by_cases c : tK t L a = 3
  · have vb := tV_b h.2.2.2 c
    have h7 := h.1.2.2.2.1 c
    rw [vb.2.1] at h7
    have bad2 : ∀ f, some (2, tS t L a) = some f → (if (nI 0 : Int32) = 0 then bnd (fX6_bad M ML (nI 2)) (fun z4 => gdb z4.1 (some (z4.1, (z4.2, ML)))) else gdi (nI j) 353 (nm (va_up M 12 (upd (M 12) ((nI j).toNatClampNeg) (M 7 0))) (fun M2 => bnd (fX6_go N M2 ML) (fun z3 => some ((nI 1), (z3.1, z3.2)))))) = some (nI 0, ((fX6_bad M ML (nI 2)).getD (0, M)).2, ML) ∧ MF M ((fX6_bad M ML (nI 2)).getD (0, M)).2 f := by
      intro f hf
      cases hf
      obtain ⟨M', b1, b2⟩ := m_bad (k := 2) h hL (fun z => by omega)
      rw [if_e0 rfl, b1, bnd_s, gdb_0]
      exact ⟨rfl, b2⟩
    rw [if_eq c, h7]
    unfold rnO
    simp only
    rw [if_pos c]
    by_cases d : nI (tV t L a) < lo
    · rw [if_pos d, isIn_F (Or.inl d), bnd_s]
      refine ⟨fun z => (by cases z), fun f hf => ⟨_, ?_, (bad2 f hf).2⟩⟩
      rw [← h7]
      exact (bad2 f hf).1
    · rw [if_neg d]
      by_cases e : nI (tV t L a) ≤ hi
      · rw [if_pos e, isIn_T d e, bnd_s, if_n0 (by omega) (by omega), gdi_nI hj (by omega), nI_clamp (by omega), nm_s]
        refine ⟨fun _ => ?_, fun f hf => by cases hf⟩
        have h' : MB t L a (va_up M 12 (upd (M 12) j (nI (tV t L a)))) ML := by
          refine ⟨⟨?_, ?_, ?_, ?_, h.1.2.2.2.2⟩, ?_, ?_, h.2.2.2⟩
          · rw [va_up_ne _ _ (by omega)]; exact h.1.1
          · rw [va_up_ne _ _ (by omega)]; exact h.1.2.1
          · rw [va_up_ne _ _ (by omega)]; exact h.1.2.2.1
          · rw [va_up_ne _ _ (by omega)]; exact h.1.2.2.2.1
          · rw [va_up_ne _ _ (by omega)]; exact h.2.1
          · rw [va_up_ne _ _ (by omega)]; exact h.2.2.1
        obtain ⟨M', ML', g1, g2, g3⟩ := m_go hN hL h' (by omega)
        rw [g1, bnd_s]
        refine ⟨M', ML', rfl, g2, ?_, vb.2.2, vb.1, d, e, fun i q1 q2 q3 q4 q5 => ?_⟩
        · rw [g3 12 (by omega) (by omega) (by omega) (by omega), va_up_self]
        · rw [g3 i q1 q2 q3 q4, va_up_ne _ _ q5]
      · rw [if_neg e, isIn_F (Or.inr e), bnd_s]
        refine ⟨fun z => (by cases z), fun f hf => ⟨_, ?_, (bad2 f hf).2⟩⟩
        rw [← h7]
        exact (bad2 f hf).1
  · obtain ⟨M', b1, b2⟩ := m_bad (k := 1) h hL (fun z => rfl)
    rw [if_neq c (by omega) (by omega), b1, bnd_s, gdb_0]
    unfold rnO
    simp only
    rw [if_neg c]
    refine ⟨fun z => (by cases z), fun f hf => ?_⟩
    cases hf
    exact ⟨M', rfl, b2⟩
theorem m_end {t : Nat → Nat} {L a N : Nat} {M : Rc} {ML : RcL} (hN : 500 < N) (hL : L ≤ 440) (h : MB t L a M ML) : (rsO t L none a = none → ∃ M' ML', fX6_readEnd N M ML = some (nI 1, (M', ML')) ∧ MB t L (tE t L a) M' ML' ∧ a < tE t L a ∧ ∀ i, i ≠ 4 → i ≠ 5 → i ≠ 6 → i ≠ 7 → M' i = M i) ∧ ∀ f, rsO t L none a = some f → ∃ M', fX6_readEnd N M ML = some (nI 0, (M', ML)) ∧ MF M M' f := by
  have tc := tK_c (t := t) h.2.2.2
  have tk4 : tK t L a ≤ 4 := by omega
  unfold fX6_readEnd rsO
  simp only
  rw [h.1.2.1]
  by_cases c : tK t L a = 4
  · obtain ⟨M', ML', g1, g2, g3⟩ := m_go hN hL h (by omega)
    rw [if_eq c, if_pos c, g1, bnd_s]
    exact ⟨fun _ => ⟨M', ML', rfl, g2, by omega, g3⟩, fun f hf => by cases hf⟩
  · obtain ⟨M', b1, b2⟩ := m_bad (k := 1) h hL (fun z => rfl)
    rw [if_neq c (by omega) (by omega), if_neg c, b1, bnd_s, gdb_0]
    refine ⟨fun z => (by cases z), fun f hf => ?_⟩
    cases hf
    exact ⟨M', rfl, b2⟩
end
section
/-! lines -/
theorem embP_up {q : Nx} {f j v : Nat} : va_up (embP q) f (upd (embP q f) j (nI v)) = embP (up2 q f j v) := by
  funext a i
  by_cases ha : a = f
  · subst ha
    rw [va_up_self]
    by_cases hi : i = j
    · subst hi
      rw [pk_us, embP_a, up2_at]
    · rw [pk_un hi, embP_a, embP_a, up2_o hi]
  · rw [va_up_ne _ _ ha, embP_a, embP_a, up2_ne ha]
theorem embP_up1 {q : Nx} {f v : Nat} : va_up (embP q) f (fun _ => nI v) = embP (up1 q f v) := by
  funext a i
  by_cases ha : a = f
  · subst ha
    rw [va_up_self, embP_a, up1_at]
  · rw [va_up_ne _ _ ha, embP_a, embP_a, up1_ne ha]
def addSt (q : Nx) (v w : Nat) : Nx := up1 (up2 (up2 (up2 q 0 (q 6 0) v) 1 (q 6 0) w) 3 0 (q 6 0)) 6 (q 6 0 + 1)
def addLp (q : Nx) (u v w : Nat) : Nx := up1 (up2 (up2 (up2 q 2 (q 7 0) u) 3 (q 7 0) v) 4 (q 7 0) w) 7 (q 7 0 + 1)
theorem c_addSt {q : Nx} {v w : Nat} (h : q 6 0 < 6) : fX3_addStation (embP q) (nI v) (nI w) = some (embP (addSt q v w)) := by
  unfold fX3_addStation addSt
  simp (disch := omega) only [↓nm_s, ↓bnd_s, ↓reduceIte, nI_add, pk_mul, nI_subdiv, nI_sub', nI_m1, nI_0m1, nI_clamp, gdi_nI, gdz_nI, nI_div, nrem, nI_ltI, nI_leI, nI_eq, leT, leF, ltT, ltF, eqT, eqF, neT, neF, z0, m1lt0, m1lt, m1le, nI_ne_neg, neg_ne_nI, embP_a, embL_a, embL_up, embL_up1, up2_ne, up2_at, up2_o, up1_ne, up1_at, bI_eq0, bI_eq1, or_true, true_or, and_true, true_and, or_false, false_or, and_false, false_and, not_true_eq_false, not_false_eq_true, if_true, if_false,  decide_true, decide_false, bI_t, bI_f, Nat.add_sub_cancel, Nat.zero_add, Nat.add_zero, Nat.mul_zero, upd_eq, upd_ne, embP_up, embP_up1]
theorem c_addLp {q : Nx} {u v w : Nat} (h : q 7 0 < 5) : fX3_addLoop (embP q) (nI u) (nI v) (nI w) = some (embP (addLp q u v w)) := by
  unfold fX3_addLoop addLp
  simp (disch := omega) only [↓nm_s, ↓bnd_s, ↓reduceIte, nI_add, pk_mul, nI_subdiv, nI_sub', nI_m1, nI_0m1, nI_clamp, gdi_nI, gdz_nI, nI_div, nrem, nI_ltI, nI_leI, nI_eq, leT, leF, ltT, ltF, eqT, eqF, neT, neF, z0, m1lt0, m1lt, m1le, nI_ne_neg, neg_ne_nI, embP_a, embL_a, embL_up, embL_up1, up2_ne, up2_at, up2_o, up1_ne, up1_at, bI_eq0, bI_eq1, or_true, true_or, and_true, true_and, or_false, false_or, and_false, false_and, not_true_eq_false, not_false_eq_true, if_true, if_false,  decide_true, decide_false, bI_t, bI_f, Nat.add_sub_cancel, Nat.zero_add, Nat.add_zero, Nat.mul_zero, upd_eq, upd_ne, embP_up, embP_up1]
def putK (q : Nx) (k : Nat) : Nat → Nx
  | 0 => q
  | n + 1 => putK (up1 (up2 q 5 (q 9 0) k) 9 (q 9 0 + 1)) k n
def addRn (q : Nx) (k n : Nat) : Nx := up1 (putK q k n) 8 (q 8 0 + 1)
theorem putK_o {k a i : Nat} (h : a ≠ 5 ∧ a ≠ 9) : ∀ {n : Nat} {q : Nx}, putK q k n a i = q a i
  | 0, _ => rfl
  | n + 1, q => by
    rw [putK, putK_o h, up1_ne h.2, up2_ne h.1]
theorem putK_9 {k i : Nat} : ∀ {n : Nat} {q : Nx}, q 9 i = q 9 0 → putK q k n 9 i = q 9 0 + n
  | 0, _, h => h
  | n + 1, q, h => by
    rw [putK, putK_9 (by rw [up1_at, up1_at]), up1_at]
    omega
theorem putK_90 {k : Nat} {n : Nat} {q : Nx} : putK q k n 9 0 = q 9 0 + n := putK_9 rfl
theorem putK_5 {k i : Nat} : ∀ {n : Nat} {q : Nx}, putK q k n 5 i = if q 9 0 ≤ i ∧ i < q 9 0 + n then k else q 5 i
  | 0, q => by rw [if_neg (by omega)]; rfl
  | n + 1, q => by
    rw [putK, putK_5, up1_at, up1_ne (by omega), up2_if]
    by_cases c : i = q 9 0
    · rw [if_neg (by omega), if_pos c, if_pos (by omega)]
    · rw [if_neg c]
      by_cases d : q 9 0 + 1 ≤ i ∧ i < q 9 0 + 1 + n
      · rw [if_pos d, if_pos (by omega)]
      · rw [if_neg d, if_neg (by omega)]
theorem c_addRn12 {N k n : Nat} (hn : n ≤ 20) : ∀ {d i u : Nat} {q : Nx}, d < u → i + d = n → q 9 0 + d ≤ 120 → itn (fX3_addRun_12b N) (fun _ _ _ _ => none) u (embP q) (nI k) (nI n) (nI i) = some (embP (up1 (putK q k d) 8 (putK q k d 8 0 + 1)))
  | _, _, 0, _, h, _, _ => by omega
  | 0, i, u + 1, q, _, e, _ => by
    rw [itn_s]
    unfold fX3_addRun_12b fX3_addRun_52
    rw [if_le (by omega) (by omega), embP_a, nI_add, embP_up1, nm_s]
    rfl
  | d + 1, i, u + 1, q, hu, e, h9 => by
    have r := c_addRn12 (N := N) (k := k) hn (d := d) (i := i + 1) (u := u) (q := up1 (up2 q 5 (q 9 0) k) 9 (q 9 0 + 1)) (by omega) (by omega) (by rw [up1_at]; omega)
    rw [itn_s]
    generalize itn (fX3_addRun_12b N) (fun _ _ _ _ => none) u = K at r ⊢
    unfold fX3_addRun_12b
    rw [if_nle (by omega) (by omega), embP_a, if_nle (by omega) (by omega), gdi_nI (by omega) (by omega), nI_clamp (by omega), embP_up, nm_s, embP_a, up2_ne (by omega), nI_add, embP_up1, nm_s, nI_add, nm_s, r]
    rfl
theorem c_addRn {q : Nx} {N k n : Nat} (hN : 500 < N) (hn : n ≤ 20) (h8 : q 8 0 < 6) (h9 : q 9 0 + n ≤ 120) : fX3_addRun N (embP q) (nI k) (nI n) = some (embP (addRn q k n)) := by
  have r := c_addRn12 (N := N) (k := k) hn (d := n) (i := 0) (u := N) (q := q) (by omega) (by omega) h9
  unfold fX3_addRun addRn
  rw [embP_a, if_lt h8 (by omega), nm_s]
  unfold fX3_addRun_12
  rw [r, putK_o (by omega)]
/-- the draft and the model's row while a text is read -/
def DRa (q : Nx) (S : Nat → Int32) : Prop := S 0 = nI 1 ∧ S 1 = nI (q 6 0) ∧ S 14 = nI (q 7 0) ∧ S 35 = nI (q 8 0) ∧ S 15 = nI 0
def DRb (q : Nx) (S : Nat → Int32) : Prop := q 6 0 ≤ 6 ∧ ∀ k, k < q 6 0 → S (2 + k) = nI (q 0 k) ∧ S (8 + k) = nI (q 1 k) ∧ 1 ≤ q 0 k ∧ q 0 k ≤ 60 ∧ q 1 k ≤ 60
def DRc (q : Nx) (S : Nat → Int32) : Prop := (1 ≤ q 7 0 ∧ q 7 0 ≤ 5) ∧ q 2 0 = 0 ∧ (1 ≤ q 6 0 → q 3 0 + 1 = q 6 0) ∧ (S 17 = nI (q 4 0) ∧ 1 ≤ q 4 0 ∧ q 4 0 ≤ 20) ∧ ∀ l, 1 ≤ l → l < q 7 0 → S (15 + 4 * l) = nI (q 2 l) ∧ S (15 + 4 * l + 1) = nI (q 3 l) ∧ S (15 + 4 * l + 2) = nI (q 4 l) ∧ q 2 l ≤ q 3 l ∧ q 3 l < q 6 0 ∧ 1 ≤ q 4 l ∧ q 4 l ≤ 20
def DRd (q g : Nx) (S : Nat → Int32) : Prop := GI q g ∧ (∀ r, r < q 8 0 → S (36 + 2 * r) = nI (g 0 r) ∧ S (36 + 2 * r + 1) = nI (g 1 r)) ∧ ∀ i, q 5 i < 2 ^ 31
def DR (q g : Nx) (S : Nat → Int32) : Prop := DRa q S ∧ DRb q S ∧ DRc q S ∧ DRd q g S
def LnR (N : Nat) (t : Nat → Nat) (L a : Nat) (q : Nx) (M : Rc) (cl : Option (Rc × Rc)) (mo : Option (Int32 × (Rc × RcL))) : Prop :=
  (∃ f R' b M' ML', cl = some (embP q, R') ∧ RC R' L b ∧ FO R' (some f) ∧ (mo = some (nI 0, (M', ML')) ∨ ∃ M1 ML1, mo = some (nI 1, (M1, ML1)) ∧ fX6_readEnd N M1 ML1 = some (nI 0, (M', ML'))) ∧ MF M M' f) ∨
  (∃ q' g' b R' M1 ML1 M' ML', cl = some (embP q', R') ∧ RC R' L b ∧ FO R' none ∧ a + 2 ≤ b ∧ mo = some (nI 1, (M1, ML1)) ∧ fX6_readEnd N M1 ML1 = some (nI 1, (M', ML')) ∧ MB t L b M' ML' ∧ DR q' g' (M' 12) ∧ ∀ i, i ≠ 4 → i ≠ 5 → i ≠ 6 → i ≠ 7 → i ≠ 12 → M' i = M i)
theorem rnO_none {t : Nat → Nat} {L a : Nat} {lo hi : Int32} {o : Option (Nat × Nat)} (h : rnO t L lo hi o a = none) : o = none := by
  cases o with
  | none => rfl
  | some f => cases h
theorem rsO_none {t : Nat → Nat} {L a : Nat} {o : Option (Nat × Nat)} (h : rsO t L o a = none) : o = none := by
  cases o with
  | none => rfl
  | some f => cases h
theorem FO_if {α : Type} {R : Rc} {o : Option (Nat × Nat)} {x y : α} (h : FO R o) : (o = none → (if R 3 0 = 0 then x else y) = x) ∧ (∀ f, o = some f → (if R 3 0 = 0 then x else y) = y) := by
  cases o with
  | none =>
    have h : R 3 0 = nI 0 := h
    rw [h]
    exact ⟨fun _ => if_e0 rfl, fun f hf => by cases hf⟩
  | some f =>
    have h : R 3 0 = nI f.1 ∧ R 4 0 = nI f.2 ∧ 1 ≤ f.1 ∧ f.1 ≤ 3 ∧ f.2 ≤ 440 := h
    rw [h.1]
    exact ⟨fun z => (by cases z), fun _ _ => if_n0 (by omega) (by omega)⟩
theorem FO_le {R : Rc} {f : Nat × Nat} (h : FO R (some f)) : 1 ≤ f.1 ∧ f.1 ≤ 3 := ⟨h.2.2.1, h.2.2.2.1⟩
/-- the class's station line, behind its word -/
theorem c_st17 {T : Nat → Int32} {t : Nat → Nat} (hT : TP T t) {N L a : Nat} (hN : 500 < N) (hL : L ≤ 440) {R : Rc} {Q : Rc} {o : Option (Nat × Nat)} (h : RC R L a) (ho : FO R o) : ∃ R' : Rc, RC R' L (tE t L (tE t L (tE t L a))) ∧ FO R' (rsO t L (rnO t L (nI 0) (nI 60) (rnO t L (nI 1) (nI 60) o a) (tE t L a)) (tE t L (tE t L a))) ∧ (rsO t L (rnO t L (nI 0) (nI 60) (rnO t L (nI 1) (nI 60) o a) (tE t L a)) (tE t L (tE t L a)) = none → fX4_readStation_17 N T Q R = bnd (fX3_addStation Q (nI (tV t L a)) (nI (tV t L (tE t L a)))) (fun z6 => some (z6, R'))) ∧ (∀ f, rsO t L (rnO t L (nI 0) (nI 60) (rnO t L (nI 1) (nI 60) o a) (tE t L a)) (tE t L (tE t L a)) = some f → fX4_readStation_17 N T Q R = some (Q, R')) := by
  obtain ⟨w1, R1, a1, a2, a3, a4⟩ := c_rn hT hN hL (lo := nI 1) (hi := nI 60) h ho
  obtain ⟨w2, R2, b1, b2, b3, b4⟩ := c_rn hT hN hL (lo := nI 0) (hi := nI 60) a2 a3
  obtain ⟨R3, c1, c2, c3⟩ := c_rs hT hN hL b2 b3
  refine ⟨R3, c2, c3, fun z => ?_, fun f hf => ?_⟩
  · have z2 := rsO_none z
    have z1 := rnO_none z2
    unfold fX4_readStation_17
    rw [a1, bnd_s, nm_s, b1, bnd_s, nm_s, c1, bnd_s, (FO_if c3).1 z, b4 z2, a4 z1]
  · unfold fX4_readStation_17
    rw [a1, bnd_s, nm_s, b1, bnd_s, nm_s, c1, bnd_s, (FO_if c3).2 f hf]
theorem c_rn17 {T : Nat → Int32} {t : Nat → Nat} (hT : TP T t) {N L a : Nat} (hN : 500 < N) (hL : L ≤ 440) {R : Rc} {Q : Rc} {o : Option (Nat × Nat)} (h : RC R L a) (ho : FO R o) : ∃ R' : Rc, RC R' L (tE t L (tE t L (tE t L a))) ∧ FO R' (rsO t L (rnO t L (nI 1) (nI 20) (rnO t L (nI 0) (nI 3) o a) (tE t L a)) (tE t L (tE t L a))) ∧ (rsO t L (rnO t L (nI 1) (nI 20) (rnO t L (nI 0) (nI 3) o a) (tE t L a)) (tE t L (tE t L a)) = none → fX4_readRun_17 N T Q R = bnd (fX3_addRun N Q (nI (tV t L a)) (nI (tV t L (tE t L a)))) (fun z6 => some (z6, R'))) ∧ (∀ f, rsO t L (rnO t L (nI 1) (nI 20) (rnO t L (nI 0) (nI 3) o a) (tE t L a)) (tE t L (tE t L a)) = some f → fX4_readRun_17 N T Q R = some (Q, R')) := by
  obtain ⟨w1, R1, a1, a2, a3, a4⟩ := c_rn hT hN hL (lo := nI 0) (hi := nI 3) h ho
  obtain ⟨w2, R2, b1, b2, b3, b4⟩ := c_rn hT hN hL (lo := nI 1) (hi := nI 20) a2 a3
  obtain ⟨R3, c1, c2, c3⟩ := c_rs hT hN hL b2 b3
  refine ⟨R3, c2, c3, fun z => ?_, fun f hf => ?_⟩
  · have z2 := rsO_none z
    have z1 := rnO_none z2
    unfold fX4_readRun_17
    rw [a1, bnd_s, nm_s, b1, bnd_s, nm_s, c1, bnd_s, (FO_if c3).1 z, b4 z2, a4 z1]
  · unfold fX4_readRun_17
    rw [a1, bnd_s, nm_s, b1, bnd_s, nm_s, c1, bnd_s, (FO_if c3).2 f hf]
theorem c_wk {T : Nat → Int32} {t : Nat → Nat} (hT : TP T t) {N L a : Nat} (hN : 500 < N) (hL : L ≤ 440) {R : Rc} {Q : Rc} {o : Option (Nat × Nat)} (h : RC R L a) (ho : FO R o) : ∃ R' : Rc, RC R' L (tE t L (tE t L a)) ∧ FO R' (rsO t L (rnO t L (nI 1) (nI 20) o a) (tE t L a)) ∧ (rsO t L (rnO t L (nI 1) (nI 20) o a) (tE t L a) = none → fX4_readWorks N T Q R = bnd (fX3_addLoop Q (nI 0) (nI 0) (nI (tV t L a))) (fun z6 => some (z6, R'))) ∧ (∀ f, rsO t L (rnO t L (nI 1) (nI 20) o a) (tE t L a) = some f → fX4_readWorks N T Q R = some (Q, R')) := by
  obtain ⟨w1, R1, a1, a2, a3, a4⟩ := c_rn hT hN hL (lo := nI 1) (hi := nI 20) h ho
  obtain ⟨R3, c1, c2, c3⟩ := c_rs hT hN hL a2 a3
  refine ⟨R3, c2, c3, fun z => ?_, fun f hf => ?_⟩
  · have z2 := rsO_none z
    unfold fX4_readWorks
    rw [a1, bnd_s, nm_s, c1, bnd_s, (FO_if c3).1 z, a4 z2]
  · unfold fX4_readWorks
    rw [a1, bnd_s, nm_s, c1, bnd_s, (FO_if c3).2 f hf]
/-- a loop's line: the first number bounds the second -/
theorem c_lp16 {T : Nat → Int32} {t : Nat → Nat} (hT : TP T t) {N L a : Nat} (hN : 500 < N) (hL : L ≤ 440) {R : Rc} {Q : Rc} {o : Option (Nat × Nat)} (h : RC R L a) (ho : FO R o) : ∃ (w : Int32) (R' : Rc), (rnO t L (nI 0) (Q 6 0 - nI 1) o a = none → w = nI (tV t L a)) ∧ RC R' L (tE t L (tE t L (tE t L (tE t L a)))) ∧ FO R' (rsO t L (rnO t L (nI 1) (nI 20) (rnO t L w (Q 6 0 - nI 1) (rnO t L (nI 0) (Q 6 0 - nI 1) o a) (tE t L a)) (tE t L (tE t L a))) (tE t L (tE t L (tE t L a)))) ∧ (rsO t L (rnO t L (nI 1) (nI 20) (rnO t L w (Q 6 0 - nI 1) (rnO t L (nI 0) (Q 6 0 - nI 1) o a) (tE t L a)) (tE t L (tE t L a))) (tE t L (tE t L (tE t L a))) = none → fX4_readLoop_16 N T Q R = bnd (fX3_addLoop Q (nI (tV t L a)) (nI (tV t L (tE t L a))) (nI (tV t L (tE t L (tE t L a))))) (fun z6 => some (z6, R'))) ∧ (∀ f, rsO t L (rnO t L (nI 1) (nI 20) (rnO t L w (Q 6 0 - nI 1) (rnO t L (nI 0) (Q 6 0 - nI 1) o a) (tE t L a)) (tE t L (tE t L a))) (tE t L (tE t L (tE t L a))) = some f → fX4_readLoop_16 N T Q R = some (Q, R')) := by
  obtain ⟨w1, R1, a1, a2, a3, a4⟩ := c_rn hT hN hL (lo := nI 0) (hi := Q 6 0 - nI 1) h ho
  obtain ⟨w2, R2, b1, b2, b3, b4⟩ := c_rn hT hN hL (lo := w1) (hi := Q 6 0 - nI 1) a2 a3
  obtain ⟨w3, R3, d1, d2, d3, d4⟩ := c_rn hT hN hL (lo := nI 1) (hi := nI 20) b2 b3
  obtain ⟨R4, c1, c2, c3⟩ := c_rs hT hN hL d2 d3
  refine ⟨w1, R4, a4, c2, c3, fun z => ?_, fun f hf => ?_⟩
  · have z3 := rsO_none z
    have z2 := rnO_none z3
    have z1 := rnO_none z2
    unfold fX4_readLoop_16
    rw [a1, bnd_s, nm_s, b1, bnd_s, nm_s, d1, bnd_s, nm_s, c1, bnd_s, (FO_if c3).1 z, d4 z3, b4 z2, a4 z1]
  · unfold fX4_readLoop_16
    rw [a1, bnd_s, nm_s, b1, bnd_s, nm_s, d1, bnd_s, nm_s, c1, bnd_s, (FO_if c3).2 f hf]
/-- a fault of the model's, seen from ahead -/
theorem MF_mv {M0 M M' : Rc} {f : Nat × Nat} (h : MF M M' f) (ho : ∀ i, i ≠ 4 → i ≠ 5 → i ≠ 6 → i ≠ 7 → i ≠ 12 → M i = M0 i) : MF M0 M' f :=
  ⟨h.1, h.2.1, fun i q1 q2 q3 q4 q5 q6 q7 => (h.2.2 i q1 q2 q3 q4 q5 q6 q7).trans (ho i q1 q2 q3 q4 q7)⟩
theorem MB_12 {t : Nat → Nat} {L a : Nat} {M : Rc} {ML : RcL} {S : Nat → Int32} (h : MB t L a M ML) : MB t L a (va_up M 12 S) ML := by
  refine ⟨⟨?_, ?_, ?_, ?_, h.1.2.2.2.2⟩, ?_, ?_, h.2.2.2⟩
  · rw [va_up_ne _ _ (by omega)]; exact h.1.1
  · rw [va_up_ne _ _ (by omega)]; exact h.1.2.1
  · rw [va_up_ne _ _ (by omega)]; exact h.1.2.2.1
  · rw [va_up_ne _ _ (by omega)]; exact h.1.2.2.2.1
  · rw [va_up_ne _ _ (by omega)]; exact h.2.1
  · rw [va_up_ne _ _ (by omega)]; exact h.2.2.1
end
section
/-! the draft's new entries -/
theorem DR_st {q g : Nx} {S : Nat → Int32} {v w : Nat} (h : DR q g S) (h6 : q 6 0 < 6) (hv : 1 ≤ v ∧ v ≤ 60) (hw : w ≤ 60) : DR (addSt q v w) g (upd (upd (upd S (2 + q 6 0) (nI v)) (8 + q 6 0) (nI w)) 1 (nI (q 6 0 + 1))) := by
  obtain ⟨ha, hb, hc, hd⟩ := h
  have e6 : addSt q v w 6 0 = q 6 0 + 1 := by unfold addSt; rw [up1_at]
  have e7 : addSt q v w 7 0 = q 7 0 := by unfold addSt; rw [up1_ne (by omega), up2_ne (by omega), up2_ne (by omega), up2_ne (by omega)]
  have e8 : addSt q v w 8 0 = q 8 0 := by unfold addSt; rw [up1_ne (by omega), up2_ne (by omega), up2_ne (by omega), up2_ne (by omega)]
  have e9 : addSt q v w 9 0 = q 9 0 := by unfold addSt; rw [up1_ne (by omega), up2_ne (by omega), up2_ne (by omega), up2_ne (by omega)]
  have e2 : ∀ i, addSt q v w 2 i = q 2 i := by intro i; unfold addSt; rw [up1_ne (by omega), up2_ne (by omega), up2_ne (by omega), up2_ne (by omega)]
  have e4 : ∀ i, addSt q v w 4 i = q 4 i := by intro i; unfold addSt; rw [up1_ne (by omega), up2_ne (by omega), up2_ne (by omega), up2_ne (by omega)]
  have e5 : ∀ i, addSt q v w 5 i = q 5 i := by intro i; unfold addSt; rw [up1_ne (by omega), up2_ne (by omega), up2_ne (by omega), up2_ne (by omega)]
  have e3 : ∀ i, addSt q v w 3 i = if i = 0 then q 6 0 else q 3 i := by intro i; unfold addSt; rw [up1_ne (by omega), up2_if, up2_ne (by omega), up2_ne (by omega)]
  have e0 : ∀ i, addSt q v w 0 i = if i = q 6 0 then v else q 0 i := by intro i; unfold addSt; rw [up1_ne (by omega), up2_ne (by omega), up2_ne (by omega), up2_if]
  have e1 : ∀ i, addSt q v w 1 i = if i = q 6 0 then w else q 1 i := by intro i; unfold addSt; rw [up1_ne (by omega), up2_ne (by omega), up2_if, up2_ne (by omega)]
  refine ⟨⟨?_, ?_, ?_, ?_, ?_⟩, ⟨by omega, fun k hk => ?_⟩, ⟨by rw [e7]; exact hc.1, by rw [e2]; exact hc.2.1, fun _ => ?_, ?_, fun l h1 h2 => ?_⟩, ⟨?_, fun r hr => ?_, fun i => by rw [e5]; exact hd.2.2 i⟩⟩
  · simp (disch := omega) only [upd_ne]; exact ha.1
  · rw [upd_eq rfl, e6]
  · simp (disch := omega) only [upd_ne]; rw [e7]; exact ha.2.2.1
  · simp (disch := omega) only [upd_ne]; rw [e8]; exact ha.2.2.2.1
  · simp (disch := omega) only [upd_ne]; exact ha.2.2.2.2
  · rw [e6] at hk
    rw [e0, e1]
    by_cases c : k = q 6 0
    · subst c
      rw [if_pos rfl, if_pos rfl]
      simp (disch := omega) only [upd_ne, upd_eq]
      exact ⟨trivial, trivial, hv.1, hv.2, hw⟩
    · have b := hb.2 k (by omega)
      rw [if_neg c, if_neg c]
      simp (disch := omega) only [upd_ne]
      exact b
  · rw [e3, if_pos rfl, e6]
  · simp (disch := omega) only [upd_ne]; rw [e4]; exact hc.2.2.2.1
  · rw [e7] at h2
    have b := hc.2.2.2.2 l h1 h2
    have hq := hc.1
    rw [e2, e3, e4, if_neg (by omega), e6]
    simp (disch := omega) only [upd_ne]
    exact ⟨b.1, b.2.1, b.2.2.1, b.2.2.2.1, by omega, b.2.2.2.2.2⟩
  · obtain ⟨g1, g2, g3, g4⟩ := hd.1
    unfold GI
    rw [e8, e9]
    exact ⟨g1, g2, g3, fun r hr i hi => by rw [e5]; exact g4 r hr i hi⟩
  · rw [e8] at hr
    have := hd.1.1
    simp (disch := omega) only [upd_ne]
    exact hd.2.1 r hr
theorem DR_lp {q g : Nx} {S : Nat → Int32} {u v w : Nat} (h : DR q g S) (h7 : q 7 0 < 5) (hu : u ≤ v) (hv : v < q 6 0) (hw : 1 ≤ w ∧ w ≤ 20) : DR (addLp q u v w) g (upd (upd (upd (upd S (15 + 4 * q 7 0) (nI u)) (15 + 4 * q 7 0 + 1) (nI v)) (15 + 4 * q 7 0 + 2) (nI w)) 14 (nI (q 7 0 + 1))) := by
  obtain ⟨ha, hb, hc, hd⟩ := h
  have hq := hc.1
  have e7 : addLp q u v w 7 0 = q 7 0 + 1 := by unfold addLp; rw [up1_at]
  have eo : ∀ a i, a ≠ 2 → a ≠ 3 → a ≠ 4 → a ≠ 7 → addLp q u v w a i = q a i := by
    intro a i h1 h2 h3 h4
    unfold addLp
    rw [up1_ne h4, up2_ne h3, up2_ne h2, up2_ne h1]
  have e2 : ∀ i, addLp q u v w 2 i = if i = q 7 0 then u else q 2 i := by intro i; unfold addLp; rw [up1_ne (by omega), up2_ne (by omega), up2_ne (by omega), up2_if]
  have e3 : ∀ i, addLp q u v w 3 i = if i = q 7 0 then v else q 3 i := by intro i; unfold addLp; rw [up1_ne (by omega), up2_ne (by omega), up2_if, up2_ne (by omega)]
  have e4 : ∀ i, addLp q u v w 4 i = if i = q 7 0 then w else q 4 i := by intro i; unfold addLp; rw [up1_ne (by omega), up2_if, up2_ne (by omega), up2_ne (by omega)]
  have o6 := eo 6 0 (by omega) (by omega) (by omega) (by omega)
  have o8 := eo 8 0 (by omega) (by omega) (by omega) (by omega)
  have o9 := eo 9 0 (by omega) (by omega) (by omega) (by omega)
  refine ⟨⟨?_, ?_, ?_, ?_, ?_⟩, ⟨by rw [o6]; exact hb.1, fun k hk => ?_⟩, ⟨by omega, by rw [e2, if_neg (by omega)]; exact hc.2.1, fun z => ?_, ?_, fun l h1 h2 => ?_⟩, ⟨?_, fun r hr => ?_, fun i => by rw [eo 5 i (by omega) (by omega) (by omega) (by omega)]; exact hd.2.2 i⟩⟩
  · simp (disch := omega) only [upd_ne]; exact ha.1
  · simp (disch := omega) only [upd_ne]; rw [o6]; exact ha.2.1
  · rw [upd_eq rfl, e7]
  · simp (disch := omega) only [upd_ne]; rw [o8]; exact ha.2.2.2.1
  · simp (disch := omega) only [upd_ne]; exact ha.2.2.2.2
  · rw [o6] at hk
    have b := hb.2 k hk
    have b6 := hb.1
    rw [eo 0 k (by omega) (by omega) (by omega) (by omega), eo 1 k (by omega) (by omega) (by omega) (by omega)]
    simp (disch := omega) only [upd_ne]
    exact b
  · rw [o6] at z ⊢
    rw [e3, if_neg (by omega)]
    exact hc.2.2.1 z
  · simp (disch := omega) only [upd_ne]; rw [e4, if_neg (by omega)]; exact hc.2.2.2.1
  · rw [e7] at h2
    rw [e2, e3, e4, o6]
    by_cases c : l = q 7 0
    · subst c
      rw [if_pos rfl, if_pos rfl, if_pos rfl]
      simp (disch := omega) only [upd_ne, upd_eq]
      exact ⟨trivial, trivial, trivial, hu, hv, hw.1, hw.2⟩
    · have b := hc.2.2.2.2 l h1 (by omega)
      rw [if_neg c, if_neg c, if_neg c]
      simp (disch := omega) only [upd_ne]
      exact b
  · obtain ⟨g1, g2, g3, g4⟩ := hd.1
    unfold GI
    rw [o8, o9]
    exact ⟨g1, g2, g3, fun r hr i hi => by rw [eo 5 _ (by omega) (by omega) (by omega) (by omega)]; exact g4 r hr i hi⟩
  · rw [o8] at hr
    have := hd.1.1
    simp (disch := omega) only [upd_ne]
    exact hd.2.1 r hr
theorem sumG_up {g : Nx} {a k n : Nat} : ∀ {r : Nat}, r ≤ a → sumG (up2 (up2 g 0 a k) 1 a n) r = sumG g r
  | 0, _ => rfl
  | r + 1, h => by
    rw [sumG, sumG, sumG_up (by omega), up2_o (by omega), up2_ne (by omega)]
theorem DR_rn {q g : Nx} {S : Nat → Int32} {k n : Nat} (h : DR q g S) (h8 : q 8 0 < 6) (hk : k ≤ 3) (hn : 1 ≤ n ∧ n ≤ 20) : DR (addRn q k n) (up2 (up2 g 0 (q 8 0) k) 1 (q 8 0) n) (upd (upd (upd S (36 + 2 * q 8 0) (nI k)) (36 + 2 * q 8 0 + 1) (nI n)) 35 (nI (q 8 0 + 1))) ∧ q 9 0 + n ≤ 120 := by
  obtain ⟨ha, hb, hc, hd⟩ := h
  have hq := hc.1
  have e8 : addRn q k n 8 0 = q 8 0 + 1 := by unfold addRn; rw [up1_at]
  have e9 : addRn q k n 9 0 = q 9 0 + n := by unfold addRn; rw [up1_ne (by omega), putK_90]
  have e5 : ∀ i, addRn q k n 5 i = if q 9 0 ≤ i ∧ i < q 9 0 + n then k else q 5 i := by intro i; unfold addRn; rw [up1_ne (by omega), putK_5]
  have eo : ∀ a i, a ≠ 5 → a ≠ 8 → a ≠ 9 → addRn q k n a i = q a i := by
    intro a i h1 h2 h3
    unfold addRn
    rw [up1_ne h2, putK_o ⟨h1, h3⟩]
  have o6 := eo 6 0 (by omega) (by omega) (by omega)
  have o7 := eo 7 0 (by omega) (by omega) (by omega)
  obtain ⟨g1, g2, g3, g4⟩ := hd.1
  have sl := (sumG_le hd.1 (r := q 8 0) (Nat.le_refl _)).1
  refine ⟨⟨⟨?_, ?_, ?_, ?_, ?_⟩, ⟨by rw [o6]; exact hb.1, fun j hj => ?_⟩, ⟨by rw [o7]; exact hq, by rw [eo 2 0 (by omega) (by omega) (by omega)]; exact hc.2.1, fun z => ?_, ?_, fun l h1 h2 => ?_⟩, ⟨⟨by omega, fun r hr => ?_, ?_, fun r hr i hi => ?_⟩, fun r hr => ?_, fun i => ?_⟩⟩, by omega⟩
  · simp (disch := omega) only [upd_ne]; exact ha.1
  · simp (disch := omega) only [upd_ne]; rw [o6]; exact ha.2.1
  · simp (disch := omega) only [upd_ne]; rw [o7]; exact ha.2.2.1
  · rw [upd_eq rfl, e8]
  · simp (disch := omega) only [upd_ne]; exact ha.2.2.2.2
  · rw [o6] at hj
    have b := hb.2 j hj
    have b6 := hb.1
    rw [eo 0 j (by omega) (by omega) (by omega), eo 1 j (by omega) (by omega) (by omega)]
    simp (disch := omega) only [upd_ne]
    exact b
  · rw [o6] at z ⊢
    rw [eo 3 0 (by omega) (by omega) (by omega)]
    exact hc.2.2.1 z
  · simp (disch := omega) only [upd_ne]; rw [eo 4 0 (by omega) (by omega) (by omega)]; exact hc.2.2.2.1
  · rw [o7] at h2
    have b := hc.2.2.2.2 l h1 h2
    rw [eo 2 l (by omega) (by omega) (by omega), eo 3 l (by omega) (by omega) (by omega), eo 4 l (by omega) (by omega) (by omega), o6]
    simp (disch := omega) only [upd_ne]
    exact b
  · rw [e8] at hr
    by_cases c : r = q 8 0
    · subst c
      rw [up2_at, up2_ne (by omega), up2_at]
      omega
    · have b := g2 r (by omega)
      rw [up2_o c, up2_ne (by omega), up2_ne (by omega), up2_o c]
      exact b
  · rw [e8, e9, sumG, sumG_up (Nat.le_refl _), up2_at, g3]
  · rw [e8] at hr
    rw [sumG_up (by omega), e5]
    by_cases c : r = q 8 0
    · subst c
      rw [up2_at] at hi
      rw [← g3, if_pos (by omega), up2_ne (by omega), up2_at]
    · rw [up2_o c, up2_ne (by omega)] at hi
      rw [up2_ne (by omega), up2_o c]
      have b := g4 r (by omega) i hi
      have m : ∀ d, r + 1 + d ≤ q 8 0 → sumG g (r + 1) ≤ sumG g (r + 1 + d) := by
        intro d
        induction d with
        | zero => intro _; exact Nat.le_refl _
        | succ d ih =>
          intro hd
          have := ih (by omega)
          show _ ≤ sumG g (r + 1 + d) + g 1 (r + 1 + d)
          omega
      have m1 := m (q 8 0 - (r + 1)) (by omega)
      rw [show r + 1 + (q 8 0 - (r + 1)) = q 8 0 from by omega, sumG] at m1
      rw [if_neg (by omega)]
      exact b
  · rw [e8] at hr
    by_cases c : r = q 8 0
    · subst c
      rw [up2_at, up2_ne (by omega), up2_at]
      simp (disch := omega) only [upd_ne, upd_eq]
      exact ⟨trivial, trivial⟩
    · rw [up2_o c, up2_ne (by omega), up2_o c, up2_ne (by omega)]
      simp (disch := omega) only [upd_ne]
      exact hd.2.1 r (by omega)
  · rw [e5]
    split
    · omega
    · exact hd.2.2 i
/-- the empty draft, and one with the works alone -/
def DR0 (q : Nx) (S : Nat → Int32) : Prop := (∀ j, j < 353 → S j = nI 0) ∧ q 6 0 = 0 ∧ q 7 0 = 0 ∧ q 8 0 = 0 ∧ q 9 0 = 0 ∧ ∀ i, q 5 i < 2 ^ 31
theorem DR_wk {q g : Nx} {S : Nat → Int32} {w : Nat} (h : DR0 q S) (hw : 1 ≤ w ∧ w ≤ 20) : DR (addLp q 0 0 w) g (upd (upd (upd S 17 (nI w)) 0 (nI 1)) 14 (nI 1)) := by
  obtain ⟨hS, h6, h7, h8, h9, h5⟩ := h
  have e7 : addLp q 0 0 w 7 0 = 1 := by unfold addLp; rw [up1_at, h7]
  have eo : ∀ a i, a ≠ 2 → a ≠ 3 → a ≠ 4 → a ≠ 7 → addLp q 0 0 w a i = q a i := by
    intro a i h1 h2 h3 h4
    unfold addLp
    rw [up1_ne h4, up2_ne h3, up2_ne h2, up2_ne h1]
  have o6 := eo 6 0 (by omega) (by omega) (by omega) (by omega)
  have o8 := eo 8 0 (by omega) (by omega) (by omega) (by omega)
  have o9 := eo 9 0 (by omega) (by omega) (by omega) (by omega)
  have e2 : addLp q 0 0 w 2 0 = 0 := by unfold addLp; rw [up1_ne (by omega), up2_ne (by omega), up2_ne (by omega), h7, up2_at]
  have e4 : addLp q 0 0 w 4 0 = w := by unfold addLp; rw [up1_ne (by omega), h7, up2_at]
  refine ⟨⟨?_, ?_, ?_, ?_, ?_⟩, ⟨by omega, fun k hk => by omega⟩, ⟨by omega, e2, fun z => by omega, ?_, fun l h1 h2 => by omega⟩, ⟨⟨by omega, fun r hr => by omega, ?_, fun r hr i hi => by omega⟩, fun r hr => by omega, fun i => by rw [eo 5 i (by omega) (by omega) (by omega) (by omega)]; exact h5 i⟩⟩
  · simp (disch := omega) only [upd_ne, upd_eq]
  · simp (disch := omega) only [upd_ne]; rw [o6, h6]; exact hS 1 (by omega)
  · simp (disch := omega) only [upd_eq]; rw [e7]
  · simp (disch := omega) only [upd_ne]; rw [o8, h8]; exact hS 35 (by omega)
  · simp (disch := omega) only [upd_ne]; exact hS 15 (by omega)
  · simp (disch := omega) only [upd_ne, upd_eq]; rw [e4]; exact ⟨rfl, hw⟩
  · rw [o8, o9, h8, h9]; rfl
end
section
/-! each line, by both -/
theorem nI_ran {v lo hi : Nat} (hv : v ≤ 99) (hlo : lo < 2 ^ 31) (hhi : hi < 2 ^ 31) (h1 : ¬ nI v < nI lo) (h2 : nI v ≤ nI hi) : lo ≤ v ∧ v ≤ hi := by
  rw [nI_ltI (by omega) hlo] at h1
  rw [nI_leI (by omega) hhi] at h2
  omega
theorem ln_st {T : Nat → Int32} {t : Nat → Nat} (hT : TP T t) {N L a : Nat} (hN : 500 < N) (hL : L ≤ 440) {R : Rc} {q g : Nx} {M : Rc} {ML : RcL} (h : RC R L (tE t L a)) (ho : FO R none) (h7 : R 7 0 = nI (tS t L a)) (hk : tK t L a = 2) (hM : MB t L a M ML) (hd : DR q g (M 12)) : LnR N t L a q M (fX4_readStation N T (embP q) R) (fX6_readStation N M ML) := by
  have s1 := hd.1.2.1
  have b6 := hd.2.1.1
  have sb := tS_b (t := t) hM.2.2.2 hL
  have tc := tK_c (t := t) hM.2.2.2
  have aE : a < tE t L a := by omega
  unfold fX4_readStation fX6_readStation
  rw [embP_a, s1, nm_s]
  by_cases c : q 6 0 = 6
  · obtain ⟨R1, f1, f2, f3⟩ := c_fail (k := 3) (by omega) sb ho h7
    have rc1 : RC R1 L (tE t L a) := ⟨by rw [f3 2 (by omega) (by omega)]; exact h.1, by rw [f3 5 (by omega) (by omega)]; exact h.2.1, h.2.2⟩
    obtain ⟨R2, r1, r2, r3, r4⟩ := c_st17 hT hN hL (Q := embP q) rc1 f2
    obtain ⟨M', b1, b2⟩ := m_bad (k := 3) hM hL (fun z => by omega)
    rw [if_nlt (by omega) (by omega), f1, bnd_s, if_eq c, b1, bnd_s, gdb_0, r4 _ rfl]
    exact Or.inl ⟨_, R2, _, M', ML, rfl, r1, r2, Or.inl rfl, b2⟩
  · obtain ⟨R2, r1, r2, r3, r4⟩ := c_st17 hT hN hL (Q := embP q) h ho
    obtain ⟨M1, ML1, g1, g2, g3⟩ := m_go hN hL hM (by omega)
    rw [if_lt (by omega) (by omega), if_neq c (by omega) (by omega), g1, bnd_s, nI_add]
    have o1 : ∀ i, i ≠ 4 → i ≠ 5 → i ≠ 6 → i ≠ 7 → i ≠ 12 → M1 i = M i := fun i q1 q2 q3 q4 _ => g3 i q1 q2 q3 q4
    have t1 := m_told (lo := nI 1) (hi := nI 60) hN hL (j := 2 + q 6 0) (by omega) g2
    cases e1 : rnO t L (nI 1) (nI 60) none (tE t L a) with
    | some f =>
      obtain ⟨M2, u1, u2⟩ := t1.2 f e1
      rw [e1] at r2 r4
      rw [u1, bnd_s, if_e0 rfl, r4 _ rfl]
      exact Or.inl ⟨f, R2, _, M2, ML1, rfl, r1, r2, Or.inl rfl, MF_mv u2 o1⟩
    | none =>
      obtain ⟨M2, ML2, u1, u2, u3, u4, u5, u6, u7, u8⟩ := t1.1 e1
      rw [u1, bnd_s, if_n0 (by omega) (by omega), nI_add]
      have o2 : ∀ i, i ≠ 4 → i ≠ 5 → i ≠ 6 → i ≠ 7 → i ≠ 12 → M2 i = M i := fun i q1 q2 q3 q4 q5 => (u8 i q1 q2 q3 q4 q5).trans (o1 i q1 q2 q3 q4 q5)
      have t2 := m_told (lo := nI 0) (hi := nI 60) hN hL (j := 8 + q 6 0) (by omega) u2
      rw [e1] at r2 r3 r4
      cases e2 : rnO t L (nI 0) (nI 60) none (tE t L (tE t L a)) with
      | some f =>
        obtain ⟨M3, v1, v2⟩ := t2.2 f e2
        rw [e2] at r2 r4
        rw [v1, bnd_s, if_e0 rfl, r4 _ rfl]
        exact Or.inl ⟨f, R2, _, M3, ML2, rfl, r1, r2, Or.inl rfl, MF_mv v2 o2⟩
      | none =>
        obtain ⟨M3, ML3, v1, v2, v3, v4, v5, v6, v7, v8⟩ := t2.1 e2
        have o3 : ∀ i, i ≠ 4 → i ≠ 5 → i ≠ 6 → i ≠ 7 → i ≠ 12 → M3 i = M i := fun i q1 q2 q3 q4 q5 => (v8 i q1 q2 q3 q4 q5).trans (o2 i q1 q2 q3 q4 q5)
        have w12 : M3 12 = upd (upd (M 12) (2 + q 6 0) (nI (tV t L (tE t L a)))) (8 + q 6 0) (nI (tV t L (tE t L (tE t L a)))) := by
          rw [v3, u3, g3 12 (by omega) (by omega) (by omega) (by omega)]
        have w1 : M3 12 1 = nI (q 6 0) := by rw [w12, upd_ne (by omega), upd_ne (by omega)]; exact s1
        rw [v1, bnd_s, if_n0 (by omega) (by omega)]
        dsimp only
        rw [w1, nI_add, nm_s]
        have te := m_end hN hL (MB_12 (S := upd (M3 12) 1 (nI (q 6 0 + 1))) v2)
        have o4 : ∀ i, i ≠ 4 → i ≠ 5 → i ≠ 6 → i ≠ 7 → i ≠ 12 → va_up M3 12 (upd (M3 12) 1 (nI (q 6 0 + 1))) i = M i := fun i q1 q2 q3 q4 q5 => by rw [va_up_ne _ _ q5]; exact o3 i q1 q2 q3 q4 q5
        have ran1 := nI_ran u5 (by omega) (by omega) u6 u7
        have ran2 := nI_ran v5 (by omega) (by omega) v6 v7
        rw [e2] at r2 r3 r4
        cases e3 : rsO t L none (tE t L (tE t L (tE t L a))) with
        | some f =>
          obtain ⟨M4, x1, x2⟩ := te.2 f e3
          rw [e3] at r2 r4
          rw [r4 _ rfl]
          exact Or.inl ⟨f, R2, _, M4, ML3, rfl, r1, r2, Or.inr ⟨_, _, rfl, x1⟩, MF_mv x2 o4⟩
        | none =>
          obtain ⟨M4, ML4, x1, x2, x3, x4⟩ := te.1 e3
          rw [e3] at r2 r3
          rw [r3 rfl, c_addSt (by omega), bnd_s]
          refine Or.inr ⟨_, g, _, R2, _, _, M4, ML4, rfl, r1, r2, by omega, rfl, x1, x2, ?_, fun i q1 q2 q3 q4 q5 => (x4 i q1 q2 q3 q4).trans (o4 i q1 q2 q3 q4 q5)⟩
          rw [x4 12 (by omega) (by omega) (by omega) (by omega), va_up_self, w12]
          exact DR_st hd (by omega) ran1 ran2.2
theorem ln_rn {T : Nat → Int32} {t : Nat → Nat} (hT : TP T t) {N L a : Nat} (hN : 500 < N) (hL : L ≤ 440) {R : Rc} {q g : Nx} {M : Rc} {ML : RcL} (h : RC R L (tE t L a)) (ho : FO R none) (h7 : R 7 0 = nI (tS t L a)) (hk : tK t L a = 2) (hM : MB t L a M ML) (hd : DR q g (M 12)) : LnR N t L a q M (fX4_readRun N T (embP q) R) (fX6_readRun N M ML) := by
  have s1 := hd.1.2.2.2.1
  have b8 := hd.2.2.2.1.1
  have sb := tS_b (t := t) hM.2.2.2 hL
  have tc := tK_c (t := t) hM.2.2.2
  have aE : a < tE t L a := by omega
  unfold fX4_readRun fX6_readRun
  rw [embP_a, s1]
  by_cases c : q 8 0 = 6
  · obtain ⟨R1, f1, f2, f3⟩ := c_fail (k := 3) (by omega) sb ho h7
    have rc1 : RC R1 L (tE t L a) := ⟨by rw [f3 2 (by omega) (by omega)]; exact h.1, by rw [f3 5 (by omega) (by omega)]; exact h.2.1, h.2.2⟩
    obtain ⟨R2, r1, r2, r3, r4⟩ := c_rn17 hT hN hL (Q := embP q) rc1 f2
    obtain ⟨M', b1, b2⟩ := m_bad (k := 3) hM hL (fun z => by omega)
    rw [if_nlt (by omega) (by omega), f1, bnd_s, if_eq c, b1, bnd_s, gdb_0, r4 _ rfl]
    exact Or.inl ⟨_, R2, _, M', ML, rfl, r1, r2, Or.inl rfl, b2⟩
  · obtain ⟨R2, r1, r2, r3, r4⟩ := c_rn17 hT hN hL (Q := embP q) h ho
    obtain ⟨M1, ML1, g1, g2, g3⟩ := m_go hN hL hM (by omega)
    have s1' : M1 12 35 = nI (q 8 0) := by rw [g3 12 (by omega) (by omega) (by omega) (by omega)]; exact s1
    rw [if_lt (by omega) (by omega), if_neq c (by omega) (by omega), g1, bnd_s]
    dsimp only
    rw [s1', pk_mul, nI_add, nm_s]
    have o1 : ∀ i, i ≠ 4 → i ≠ 5 → i ≠ 6 → i ≠ 7 → i ≠ 12 → M1 i = M i := fun i q1 q2 q3 q4 _ => g3 i q1 q2 q3 q4
    have t1 := m_told (lo := nI 0) (hi := nI 3) hN hL (j := 36 + 2 * q 8 0) (by omega) g2
    cases e1 : rnO t L (nI 0) (nI 3) none (tE t L a) with
    | some f =>
      obtain ⟨M2, u1, u2⟩ := t1.2 f e1
      rw [e1] at r2 r4
      rw [u1, bnd_s, if_e0 rfl, r4 _ rfl]
      exact Or.inl ⟨f, R2, _, M2, ML1, rfl, r1, r2, Or.inl rfl, MF_mv u2 o1⟩
    | none =>
      obtain ⟨M2, ML2, u1, u2, u3, u4, u5, u6, u7, u8⟩ := t1.1 e1
      rw [u1, bnd_s, if_n0 (by omega) (by omega), nI_add]
      have o2 : ∀ i, i ≠ 4 → i ≠ 5 → i ≠ 6 → i ≠ 7 → i ≠ 12 → M2 i = M i := fun i q1 q2 q3 q4 q5 => (u8 i q1 q2 q3 q4 q5).trans (o1 i q1 q2 q3 q4 q5)
      have t2 := m_told (lo := nI 1) (hi := nI 20) hN hL (j := 36 + 2 * q 8 0 + 1) (by omega) u2
      rw [e1] at r2 r3 r4
      cases e2 : rnO t L (nI 1) (nI 20) none (tE t L (tE t L a)) with
      | some f =>
        obtain ⟨M3, v1, v2⟩ := t2.2 f e2
        rw [e2] at r2 r4
        rw [v1, bnd_s, if_e0 rfl, r4 _ rfl]
        exact Or.inl ⟨f, R2, _, M3, ML2, rfl, r1, r2, Or.inl rfl, MF_mv v2 o2⟩
      | none =>
        obtain ⟨M3, ML3, v1, v2, v3, v4, v5, v6, v7, v8⟩ := t2.1 e2
        have o3 : ∀ i, i ≠ 4 → i ≠ 5 → i ≠ 6 → i ≠ 7 → i ≠ 12 → M3 i = M i := fun i q1 q2 q3 q4 q5 => (v8 i q1 q2 q3 q4 q5).trans (o2 i q1 q2 q3 q4 q5)
        have w12 : M3 12 = upd (upd (M 12) (36 + 2 * q 8 0) (nI (tV t L (tE t L a)))) (36 + 2 * q 8 0 + 1) (nI (tV t L (tE t L (tE t L a)))) := by
          rw [v3, u3, g3 12 (by omega) (by omega) (by omega) (by omega)]
        have w1 : M3 12 35 = nI (q 8 0) := by rw [w12, upd_ne (by omega), upd_ne (by omega)]; exact s1
        rw [v1, bnd_s, if_n0 (by omega) (by omega)]
        dsimp only
        rw [w1, nI_add, nm_s]
        have te := m_end hN hL (MB_12 (S := upd (M3 12) 35 (nI (q 8 0 + 1))) v2)
        have o4 : ∀ i, i ≠ 4 → i ≠ 5 → i ≠ 6 → i ≠ 7 → i ≠ 12 → va_up M3 12 (upd (M3 12) 35 (nI (q 8 0 + 1))) i = M i := fun i q1 q2 q3 q4 q5 => by rw [va_up_ne _ _ q5]; exact o3 i q1 q2 q3 q4 q5
        have ran1 := nI_ran u5 (by omega) (by omega) u6 u7
        have ran2 := nI_ran v5 (by omega) (by omega) v6 v7
        rw [e2] at r2 r3 r4
        cases e3 : rsO t L none (tE t L (tE t L (tE t L a))) with
        | some f =>
          obtain ⟨M4, x1, x2⟩ := te.2 f e3
          rw [e3] at r2 r4
          rw [r4 _ rfl]
          exact Or.inl ⟨f, R2, _, M4, ML3, rfl, r1, r2, Or.inr ⟨_, _, rfl, x1⟩, MF_mv x2 o4⟩
        | none =>
          obtain ⟨M4, ML4, x1, x2, x3, x4⟩ := te.1 e3
          have dr := DR_rn hd (by omega) ran1.2 ran2
          rw [e3] at r2 r3
          rw [r3 rfl, c_addRn hN ran2.2 (by omega) dr.2, bnd_s]
          refine Or.inr ⟨_, up2 (up2 g 0 (q 8 0) (tV t L (tE t L a))) 1 (q 8 0) (tV t L (tE t L (tE t L a))), _, R2, _, _, M4, ML4, rfl, r1, r2, by omega, rfl, x1, x2, ?_, fun i q1 q2 q3 q4 q5 => (x4 i q1 q2 q3 q4).trans (o4 i q1 q2 q3 q4 q5)⟩
          rw [x4 12 (by omega) (by omega) (by omega) (by omega), va_up_self, w12]
          exact dr.1
theorem ln_wk {T : Nat → Int32} {t : Nat → Nat} (hT : TP T t) {N L a : Nat} (hN : 500 < N) (hL : L ≤ 440) {R : Rc} {q : Nx} {M : Rc} {ML : RcL} (h : RC R L (tE t L a)) (ho : FO R none) (hk : tK t L a = 2) (hM : MB t L a M ML) (hd : DR0 q (M 12)) : LnR N t L a q M (fX4_readWorks N T (embP q) R) (fX6_readWorks N M ML) := by
  have tc := tK_c (t := t) hM.2.2.2
  have aE : a < tE t L a := by omega
  unfold fX6_readWorks
  obtain ⟨R2, r1, r2, r3, r4⟩ := c_wk hT hN hL (Q := embP q) h ho
  obtain ⟨M1, ML1, g1, g2, g3⟩ := m_go hN hL hM (by omega)
  rw [g1, bnd_s]
  have o1 : ∀ i, i ≠ 4 → i ≠ 5 → i ≠ 6 → i ≠ 7 → i ≠ 12 → M1 i = M i := fun i q1 q2 q3 q4 _ => g3 i q1 q2 q3 q4
  have t1 := m_told (lo := nI 1) (hi := nI 20) hN hL (j := 17) (by omega) g2
  cases e1 : rnO t L (nI 1) (nI 20) none (tE t L a) with
  | some f =>
    obtain ⟨M2, u1, u2⟩ := t1.2 f e1
    rw [e1] at r2 r4
    rw [u1, bnd_s, if_e0 rfl, r4 _ rfl]
    exact Or.inl ⟨f, R2, _, M2, ML1, rfl, r1, r2, Or.inl rfl, MF_mv u2 o1⟩
  | none =>
    obtain ⟨M2, ML2, u1, u2, u3, u4, u5, u6, u7, u8⟩ := t1.1 e1
    have o2 : ∀ i, i ≠ 4 → i ≠ 5 → i ≠ 6 → i ≠ 7 → i ≠ 12 → M2 i = M i := fun i q1 q2 q3 q4 q5 => (u8 i q1 q2 q3 q4 q5).trans (o1 i q1 q2 q3 q4 q5)
    have w12 : M2 12 = upd (M 12) 17 (nI (tV t L (tE t L a))) := by
      rw [u3, g3 12 (by omega) (by omega) (by omega) (by omega)]
    rw [u1, bnd_s, if_n0 (by omega) (by omega)]
    dsimp only
    rw [nm_s, va_up_self, nm_s]
    have te := m_end hN hL (MB_12 (S := upd (upd (M2 12) 0 (nI 1)) 14 (nI 1)) (MB_12 (S := upd (M2 12) 0 (nI 1)) u2))
    have o4 : ∀ i, i ≠ 4 → i ≠ 5 → i ≠ 6 → i ≠ 7 → i ≠ 12 → va_up (va_up M2 12 (upd (M2 12) 0 (nI 1))) 12 (upd (upd (M2 12) 0 (nI 1)) 14 (nI 1)) i = M i := fun i q1 q2 q3 q4 q5 => by rw [va_up_ne _ _ q5, va_up_ne _ _ q5]; exact o2 i q1 q2 q3 q4 q5
    have ran1 := nI_ran u5 (by omega) (by omega) u6 u7
    rw [e1] at r2 r3 r4
    cases e3 : rsO t L none (tE t L (tE t L a)) with
    | some f =>
      obtain ⟨M4, x1, x2⟩ := te.2 f e3
      rw [e3] at r2 r4
      rw [r4 _ rfl]
      exact Or.inl ⟨f, R2, _, M4, ML2, rfl, r1, r2, Or.inr ⟨_, _, rfl, x1⟩, MF_mv x2 o4⟩
    | none =>
      obtain ⟨M4, ML4, x1, x2, x3, x4⟩ := te.1 e3
      rw [e3] at r2 r3
      rw [r3 rfl, c_addLp (by have := hd.2.2.1; omega), bnd_s]
      refine Or.inr ⟨_, fun _ _ => 0, _, R2, _, _, M4, ML4, rfl, r1, r2, by omega, rfl, x1, x2, ?_, fun i q1 q2 q3 q4 q5 => (x4 i q1 q2 q3 q4).trans (o4 i q1 q2 q3 q4 q5)⟩
      rw [x4 12 (by omega) (by omega) (by omega) (by omega), va_up_self, w12]
      exact DR_wk hd ran1
/-- numbers against one that may be below 0 -/
theorem nI_le_m1 {v s : Nat} (hv : v ≤ 99) (hs : s ≤ 6) (h : nI v ≤ nI s - nI 1) : v < s := by
  by_cases c : s = 0
  · exfalso
    rw [c, show nI 0 - nI 1 = -1 from by decide, m1le (by omega)] at h
    exact h
  · rw [nI_sub' (by omega), nI_leI (by omega) (by omega)] at h
    omega
theorem ln_lp {T : Nat → Int32} {t : Nat → Nat} (hT : TP T t) {N L a : Nat} (hN : 500 < N) (hL : L ≤ 440) {R : Rc} {q g : Nx} {M : Rc} {ML : RcL} (h : RC R L (tE t L a)) (ho : FO R none) (h7 : R 7 0 = nI (tS t L a)) (hk : tK t L a = 2) (hM : MB t L a M ML) (hd : DR q g (M 12)) : LnR N t L a q M (fX4_readLoop N T (embP q) R) (fX6_readLoop N M ML) := by
  have s1 := hd.1.2.2.1
  have s6 := hd.1.2.1
  have b6 := hd.2.1.1
  have b7 := hd.2.2.1.1
  have sb := tS_b (t := t) hM.2.2.2 hL
  have tc := tK_c (t := t) hM.2.2.2
  have aE : a < tE t L a := by omega
  unfold fX4_readLoop fX6_readLoop
  rw [embP_a, s1]
  by_cases c : q 7 0 = 5
  · obtain ⟨R1, f1, f2, f3⟩ := c_fail (k := 3) (by omega) sb ho h7
    have rc1 : RC R1 L (tE t L a) := ⟨by rw [f3 2 (by omega) (by omega)]; exact h.1, by rw [f3 5 (by omega) (by omega)]; exact h.2.1, h.2.2⟩
    obtain ⟨w, R2, r0, r1, r2, r3, r4⟩ := c_lp16 hT hN hL (Q := embP q) rc1 f2
    obtain ⟨M', b1, b2⟩ := m_bad (k := 3) hM hL (fun z => by omega)
    rw [if_nlt (by omega) (by omega), f1, bnd_s, if_eq c, b1, bnd_s, gdb_0, r4 _ rfl]
    exact Or.inl ⟨_, R2, _, M', ML, rfl, r1, r2, Or.inl rfl, b2⟩
  · obtain ⟨w, R2, r0, r1, r2, r3, r4⟩ := c_lp16 hT hN hL (Q := embP q) h ho
    rw [embP_a] at r0 r2 r3 r4
    obtain ⟨M1, ML1, g1, g2, g3⟩ := m_go hN hL hM (by omega)
    have g12 := g3 12 (by omega) (by omega) (by omega) (by omega)
    have s1' : M1 12 14 = nI (q 7 0) := by rw [g12]; exact s1
    have s6' : M1 12 1 = nI (q 6 0) := by rw [g12]; exact s6
    rw [if_lt (by omega) (by omega), if_neq c (by omega) (by omega), g1, bnd_s]
    dsimp only
    rw [s1', pk_mul, nI_add, nm_s, s6']
    have o1 : ∀ i, i ≠ 4 → i ≠ 5 → i ≠ 6 → i ≠ 7 → i ≠ 12 → M1 i = M i := fun i q1 q2 q3 q4 _ => g3 i q1 q2 q3 q4
    have t1 := m_told (lo := nI 0) (hi := nI (q 6 0) - nI 1) hN hL (j := 15 + 4 * q 7 0) (by omega) g2
    cases e1 : rnO t L (nI 0) (nI (q 6 0) - nI 1) none (tE t L a) with
    | some f =>
      obtain ⟨M2, u1, u2⟩ := t1.2 f e1
      rw [e1] at r2 r4
      rw [u1, bnd_s, if_e0 rfl, r4 _ rfl]
      exact Or.inl ⟨f, R2, _, M2, ML1, rfl, r1, r2, Or.inl rfl, MF_mv u2 o1⟩
    | none =>
      obtain ⟨M2, ML2, u1, u2, u3, u4, u5, u6, u7, u8⟩ := t1.1 e1
      have w0 := r0 e1
      subst w0
      have x1 : M2 12 1 = nI (q 6 0) := by rw [u3, upd_ne (by omega)]; exact s6'
      have x2 : M2 12 (15 + 4 * q 7 0) = nI (tV t L (tE t L a)) := by rw [u3, upd_eq rfl]
      rw [u1, bnd_s, if_n0 (by omega) (by omega), gdi_nI (by omega) (by omega), nI_clamp (by omega)]
      dsimp only
      rw [x1, x2, nI_add]
      have o2 : ∀ i, i ≠ 4 → i ≠ 5 → i ≠ 6 → i ≠ 7 → i ≠ 12 → M2 i = M i := fun i q1 q2 q3 q4 q5 => (u8 i q1 q2 q3 q4 q5).trans (o1 i q1 q2 q3 q4 q5)
      have t2 := m_told (lo := nI (tV t L (tE t L a))) (hi := nI (q 6 0) - nI 1) hN hL (j := 15 + 4 * q 7 0 + 1) (by omega) u2
      rw [e1] at r2 r3 r4
      cases e2 : rnO t L (nI (tV t L (tE t L a))) (nI (q 6 0) - nI 1) none (tE t L (tE t L a)) with
      | some f =>
        obtain ⟨M3, v1, v2⟩ := t2.2 f e2
        rw [e2] at r2 r4
        rw [v1, bnd_s, if_e0 rfl, r4 _ rfl]
        exact Or.inl ⟨f, R2, _, M3, ML2, rfl, r1, r2, Or.inl rfl, MF_mv v2 o2⟩
      | none =>
        obtain ⟨M3, ML3, v1, v2, v3, v4, v5, v6, v7, v8⟩ := t2.1 e2
        have o3 : ∀ i, i ≠ 4 → i ≠ 5 → i ≠ 6 → i ≠ 7 → i ≠ 12 → M3 i = M i := fun i q1 q2 q3 q4 q5 => (v8 i q1 q2 q3 q4 q5).trans (o2 i q1 q2 q3 q4 q5)
        rw [v1, bnd_s, if_n0 (by omega) (by omega), nI_add]
        have t3 := m_told (lo := nI 1) (hi := nI 20) hN hL (j := 15 + 4 * q 7 0 + 2) (by omega) v2
        rw [e2] at r2 r3 r4
        cases e3 : rnO t L (nI 1) (nI 20) none (tE t L (tE t L (tE t L a))) with
        | some f =>
          obtain ⟨M4, y1, y2⟩ := t3.2 f e3
          rw [e3] at r2 r4
          rw [y1, bnd_s, if_e0 rfl, r4 _ rfl]
          exact Or.inl ⟨f, R2, _, M4, ML3, rfl, r1, r2, Or.inl rfl, MF_mv y2 o3⟩
        | none =>
          obtain ⟨M4, ML4, y1, y2, y3, y4, y5, y6, y7, y8⟩ := t3.1 e3
          have o4 : ∀ i, i ≠ 4 → i ≠ 5 → i ≠ 6 → i ≠ 7 → i ≠ 12 → M4 i = M i := fun i q1 q2 q3 q4 q5 => (y8 i q1 q2 q3 q4 q5).trans (o3 i q1 q2 q3 q4 q5)
          have w12 : M4 12 = upd (upd (upd (M 12) (15 + 4 * q 7 0) (nI (tV t L (tE t L a)))) (15 + 4 * q 7 0 + 1) (nI (tV t L (tE t L (tE t L a))))) (15 + 4 * q 7 0 + 2) (nI (tV t L (tE t L (tE t L (tE t L a))))) := by
            rw [y3, v3, u3, g12]
          have w14 : M4 12 14 = nI (q 7 0) := by rw [w12, upd_ne (by omega), upd_ne (by omega), upd_ne (by omega)]; exact s1
          rw [y1, bnd_s, if_n0 (by omega) (by omega)]
          dsimp only
          rw [w14, nI_add, nm_s]
          have te := m_end hN hL (MB_12 (S := upd (M4 12) 14 (nI (q 7 0 + 1))) y2)
          have o5 : ∀ i, i ≠ 4 → i ≠ 5 → i ≠ 6 → i ≠ 7 → i ≠ 12 → va_up M4 12 (upd (M4 12) 14 (nI (q 7 0 + 1))) i = M i := fun i q1 q2 q3 q4 q5 => by rw [va_up_ne _ _ q5]; exact o4 i q1 q2 q3 q4 q5
          have ran2 : tV t L (tE t L a) ≤ tV t L (tE t L (tE t L a)) := by
            rw [nI_ltI (by omega) (by omega)] at v6
            omega
          have ran3 := nI_le_m1 v5 b6 v7
          have ran4 := nI_ran y5 (by omega) (by omega) y6 y7
          rw [e3] at r2 r3 r4
          cases e4 : rsO t L none (tE t L (tE t L (tE t L (tE t L a)))) with
          | some f =>
            obtain ⟨M5, x1, x2⟩ := te.2 f e4
            rw [e4] at r2 r4
            rw [r4 _ rfl]
            exact Or.inl ⟨f, R2, _, M5, ML4, rfl, r1, r2, Or.inr ⟨_, _, rfl, x1⟩, MF_mv x2 o5⟩
          | none =>
            obtain ⟨M5, ML5, x1, x2, x3, x4⟩ := te.1 e4
            rw [e4] at r2 r3
            rw [r3 rfl, c_addLp (by omega), bnd_s]
            refine Or.inr ⟨_, g, _, R2, _, _, M5, ML5, rfl, r1, r2, by omega, rfl, x1, x2, ?_, fun i q1 q2 q3 q4 q5 => (x4 i q1 q2 q3 q4).trans (o5 i q1 q2 q3 q4 q5)⟩
            rw [x4 12 (by omega) (by omega) (by omega) (by omega), va_up_self, w12]
            exact DR_lp hd (by omega) ran2 ran3 ran4
end
section
/-! a line's word -/
theorem bnd_eta {α β : Type} {o : Option (α × β)} : bnd o (fun z => some (z.1, z.2)) = o := by
  cases o <;> rfl
theorem LnR_eta {N : Nat} {t : Nat → Nat} {L a : Nat} {q : Nx} {M : Rc} {cl : Option (Rc × Rc)} {mo : Option (Int32 × (Rc × RcL))} (h : LnR N t L a q M cl mo) : LnR N t L a q M (bnd cl (fun z => some (z.1, z.2))) (bnd mo (fun z => gdb z.1 (some (z.1, (z.2.1, z.2.2))))) := by
  rw [bnd_eta]
  have e : bnd mo (fun z => gdb z.1 (some (z.1, (z.2.1, z.2.2)))) = mo := by
    rcases h with ⟨f, R', b, M', ML', h1, h2, h3, h4 | ⟨M1, ML1, h4, _⟩, _⟩ | ⟨q', g', b, R', M1, ML1, M', ML', h1, h2, h3, h4, h5, _⟩
    · rw [h4]; rfl
    · rw [h4]; rfl
    · rw [h5]; rfl
  rw [e]
  exact h
theorem ln_bad {N : Nat} {t : Nat → Nat} {L a : Nat} (hL : L ≤ 440) {R : Rc} {q : Nx} {M : Rc} {ML : RcL} (h : RC R L (tE t L a)) (ho : FO R none) (h7 : R 7 0 = nI (tS t L a)) (hM : MB t L a M ML) : LnR N t L a q M (bnd (fX4_fail R (nI 1)) (fun z4 => some (embP q, z4))) (bnd (fX6_bad M ML (nI 1)) (fun z5 => gdb z5.1 (some (z5.1, (z5.2, ML))))) := by
  have sb := tS_b (t := t) hM.2.2.2 hL
  obtain ⟨R1, f1, f2, f3⟩ := c_fail (k := 1) (by omega) sb ho h7
  obtain ⟨M', b1, b2⟩ := m_bad (k := 1) hM hL (fun _ => rfl)
  rw [f1, bnd_s, b1, bnd_s, gdb_0]
  exact Or.inl ⟨_, R1, tE t L a, M', ML, rfl, ⟨by rw [f3 2 (by omega) (by omega)]; exact h.1, by rw [f3 5 (by omega) (by omega)]; exact h.2.1, h.2.2⟩, f2, Or.inl rfl, b2⟩
theorem w0_ok {M : Rc} {ML : RcL} : fX6_isWorks M ML = bnd (fX6_isWord M ML (lN (wdV 0))) (fun z2 => gdb z2 (some z2)) := by
  unfold fX6_isWorks fX6_four
  rw [bnd_s]
  rfl
theorem w1_ok {M : Rc} {ML : RcL} : fX6_isStationWord M ML = bnd (fX6_isWord M ML (lN (wdV 1))) (fun z2 => gdb z2 (some z2)) := by
  unfold fX6_isStationWord fX6_four
  rw [bnd_s]
  rfl
theorem w2_ok : fX6_four (nI 108) (nI 111) (nI 111) (nI 112) = some (lN (wdV 2)) := by
  unfold fX6_four
  rfl
theorem ln_first {T : Nat → Int32} {t : Nat → Nat} (hT : TP T t) {N L a : Nat} (hN : 500 < N) (hL : L ≤ 440) {R : Rc} {q : Nx} {M : Rc} {ML : RcL} (h : RC R L (tE t L a)) (ho : FO R none) (h6 : R 6 0 = nI (cs (tK t L a))) (h7 : R 7 0 = nI (tS t L a)) (hM : MB t L a M ML) (hd : DR0 q (M 12)) : LnR N t L a q M (fX4_readLine N T (embP q) R (nI 1)) (fX6_readLine N M ML) := by
  have cw := c_isWd hT hN hL hM.2.2.2 (wi := 0) (by omega) h.2.1 h6 h7
  have mw := m_isWd (wi := 0) (by omega) hM.2.2.2 hM.1
  unfold fX4_readLine fX6_readLine
  rw [if_n0 (by omega) (by omega), hd.1 0 (by omega), if_e0 rfl, w0_ok]
  by_cases c : tK t L a = 2 ∧ isWp t (tS t L a) (tE t L a - tS t L a) 0
  · rw [cw.1 c, mw.1 c, bnd_s, bnd_s, gdb_1, bnd_s, if_n0 (by omega) (by omega), if_n0 (by omega) (by omega)]
    exact LnR_eta (ln_wk hT hN hL h ho c.1 hM hd)
  · rw [cw.2 c, mw.2 c, bnd_s, bnd_s, gdb_0, bnd_s, if_e0 rfl, if_e0 rfl]
    exact ln_bad hL h ho h7 hM
theorem ln_next {T : Nat → Int32} {t : Nat → Nat} (hT : TP T t) {N L a : Nat} (hN : 500 < N) (hL : L ≤ 440) {R : Rc} {q g : Nx} {M : Rc} {ML : RcL} (h : RC R L (tE t L a)) (ho : FO R none) (h6 : R 6 0 = nI (cs (tK t L a))) (h7 : R 7 0 = nI (tS t L a)) (hM : MB t L a M ML) (hd : DR q g (M 12)) : LnR N t L a q M (fX4_readLine N T (embP q) R (nI 0)) (fX6_readLine N M ML) := by
  have cw1 := c_isWd hT hN hL hM.2.2.2 (wi := 1) (by omega) h.2.1 h6 h7
  have mw1 := m_isWd (wi := 1) (by omega) hM.2.2.2 hM.1
  have cw2 := c_isWd hT hN hL hM.2.2.2 (wi := 2) (by omega) h.2.1 h6 h7
  have mw2 := m_isWd (wi := 2) (by omega) hM.2.2.2 hM.1
  have cw3 := c_isWd hT hN hL hM.2.2.2 (wi := 3) (by omega) h.2.1 h6 h7
  have mw3 := m_isWd (wi := 3) (by omega) hM.2.2.2 hM.1
  unfold fX4_readLine fX6_readLine
  rw [if_e0 rfl, hd.1.1, if_n0 (by omega) (by omega), w1_ok, w2_ok, show (13703 : Int64) = lN (wdV 3) from rfl]
  by_cases c1 : tK t L a = 2 ∧ isWp t (tS t L a) (tE t L a - tS t L a) 1
  · rw [cw1.1 c1, mw1.1 c1, bnd_s, bnd_s, gdb_1, bnd_s, if_n0 (by omega) (by omega), if_n0 (by omega) (by omega)]
    exact LnR_eta (ln_st hT hN hL h ho h7 c1.1 hM hd)
  · rw [cw1.2 c1, mw1.2 c1, bnd_s, bnd_s, gdb_0, bnd_s, if_e0 rfl, if_e0 rfl, bnd_s]
    by_cases c2 : tK t L a = 2 ∧ isWp t (tS t L a) (tE t L a - tS t L a) 2
    · rw [cw2.1 c2, mw2.1 c2, bnd_s, bnd_s, if_n0 (by omega) (by omega), if_n0 (by omega) (by omega)]
      exact LnR_eta (ln_lp hT hN hL h ho h7 c2.1 hM hd)
    · rw [cw2.2 c2, mw2.2 c2, bnd_s, bnd_s, if_e0 rfl, if_e0 rfl]
      by_cases c3 : tK t L a = 2 ∧ isWp t (tS t L a) (tE t L a - tS t L a) 3
      · rw [cw3.1 c3, mw3.1 c3, bnd_s, bnd_s, if_n0 (by omega) (by omega), if_n0 (by omega) (by omega)]
        exact LnR_eta (ln_rn hT hN hL h ho h7 c3.1 hM hd)
      · rw [cw3.2 c3, mw3.2 c3, bnd_s, bnd_s, if_e0 rfl, if_e0 rfl]
        exact ln_bad hL h ho h7 hM
/-! the whole text -/
def DN (n : Nat) (q g : Nx) (S : Nat → Int32) : Prop := (n = 0 ∧ DR0 q S) ∨ (1 ≤ n ∧ DR q g S)
theorem DN_5 {n : Nat} {q g : Nx} {S : Nat → Int32} (h : DN n q g S) : ∀ i, q 5 i < 2 ^ 31 := by
  rcases h with h | h
  · exact h.2.2.2.2.2.2
  · exact h.2.2.2.2.2.2
def TxR (M : Rc) (N : Nat) (cl : Option (Int32 × (Rc × Rc))) (mo : Option (Int32 × (Rc × RcL))) : Prop :=
  (∃ f q' R' M' ML', cl = some ((-1 : Int32) - nI f.2, (embP q', R')) ∧ FO R' (some f) ∧ (∀ i, q' 5 i < 2 ^ 31) ∧ mo = some ((-1 : Int32) - nI f.2, (M', ML')) ∧ MF M M' f) ∨
  (∃ n q' g' R' M' ML', cl = some (nI n, (embP q', R')) ∧ R' 3 0 = nI 0 ∧ n ≤ 440 ∧ mo = fX6_text_116 N M' ML' (nI n) ∧ DN n q' g' (M' 12) ∧ (1 ≤ n → 1 ≤ q' 6 0) ∧ ∀ i, i ≠ 4 → i ≠ 5 → i ≠ 6 → i ≠ 7 → i ≠ 12 → M' i = M i)
theorem TxR_mv {M0 M : Rc} {N : Nat} {cl : Option (Int32 × (Rc × Rc))} {mo : Option (Int32 × (Rc × RcL))} (h : TxR M N cl mo) (ho : ∀ i, i ≠ 4 → i ≠ 5 → i ≠ 6 → i ≠ 7 → i ≠ 12 → M i = M0 i) : TxR M0 N cl mo := by
  rcases h with ⟨f, q', R', M', ML', h1, h2, h3, h4, h5⟩ | ⟨n, q', g', R', M', ML', h1, h2, h3, h4, h5, h6, h7⟩
  · exact Or.inl ⟨f, q', R', M', ML', h1, h2, h3, h4, MF_mv h5 ho⟩
  · exact Or.inr ⟨n, q', g', R', M', ML', h1, h2, h3, h4, h5, h6, fun i q1 q2 q3 q4 q5 => (h7 i q1 q2 q3 q4 q5).trans (ho i q1 q2 q3 q4 q5)⟩
theorem rd_loop {T : Nat → Int32} {t : Nat → Nat} (hT : TP T t) {N L : Nat} (hN : 500 < N) (hL : L ≤ 440) : ∀ {d u w a n : Nat} {R : Rc} {q g : Nx} {M : Rc} {ML : RcL}, L < a + d → d < u → d < w → 2 * n ≤ a → RC R L (tE t L a) → FO R none → R 6 0 = nI (cs (tK t L a)) → R 7 0 = nI (tS t L a) → MB t L a M ML → DN n q g (M 12) → TxR M N (itn (fX4_read_36b N) (fun _ _ _ _ => none) u T (embP q) R (nI n)) (itn (fX6_text_56b N) (fun _ _ _ => none) w M ML (nI n))
  | 0, _, _, a, n, R, q, g, M, ML, h1, _, _, _, h, _, _, _, hM, _ => by have := hM.2.2.2; omega
  | d + 1, 0, _, _, _, _, _, _, _, _, _, h, _, _, _, _, _, _, _, _ => by omega
  | d + 1, u + 1, 0, _, _, _, _, _, _, _, _, _, h, _, _, _, _, _, _, _ => by omega
  | d + 1, u + 1, w + 1, a, n, R, q, g, M, ML, h1, hu, hw, hn, h, ho, h6, h7, hM, hd => by
    have tc := tK_c (t := t) hM.2.2.2
    have eb := tE_b (t := t) hM.2.2.2
    have ab := hM.2.2.2
    have sb := tS_b (t := t) hM.2.2.2 hL
    have r3 : R 3 0 = nI 0 := ho
    have tk4 : tK t L a ≤ 4 := by omega
    by_cases c : tK t L a = 0
    · -- the end
      have ec : fX4_read_36b N (itn (fX4_read_36b N) (fun _ _ _ _ => none) u) T (embP q) R (nI n) = fX4_read_81 N T (embP q) R (nI n) := by
        unfold fX4_read_36b
        rw [r3, if_e0 rfl, h6, if_eq (by rw [c]; rfl)]
      have em : fX6_text_56b N (itn (fX6_text_56b N) (fun _ _ _ => none) w) M ML (nI n) = if nI n ≤ 0 then fX6_text_116 N M ML (nI n) else if M 12 1 = 0 then bnd (fX6_bad M ML (nI 1)) (fun z1 => some ((-1 : Int32) - z1.2 9 0, (z1.2, ML))) else fX6_text_116 N M ML (nI n) := by
        unfold fX6_text_56b
        rw [hM.1.2.1, if_e0 c]
      rw [itn_s, itn_s, ec, em]
      unfold fX4_read_81 fX4_read_107
      rw [r3, if_e0 rfl]
      rcases hd with ⟨z, hd⟩ | ⟨z, hd⟩
      · rw [if_le0 z, if_le0 z, if_e0 rfl]
        exact Or.inr ⟨n, q, g, R, M, ML, rfl, r3, by omega, rfl, Or.inl ⟨z, hd⟩, fun y => by omega, fun _ _ _ _ _ _ => rfl⟩
      · rw [if_nle0 (by omega) (by omega), if_nle0 (by omega) (by omega), embP_a, hd.1.2.1]
        have b6 := hd.2.1.1
        by_cases e : q 6 0 = 0
        · obtain ⟨R1, f1, f2, f3⟩ := c_fail (k := 1) (by omega) sb ho h7
          obtain ⟨M', b1, b2⟩ := m_bad (k := 1) hM hL (fun _ => rfl)
          have f2' : R1 3 0 = nI 1 ∧ R1 4 0 = nI (tS t L a) ∧ 1 ≤ 1 ∧ 1 ≤ 3 ∧ tS t L a ≤ 440 := f2
          rw [if_e0 e, if_e0 e, f1, bnd_s, b1, bnd_s]
          dsimp only
          rw [f2'.1, if_n0 (by omega) (by omega), f2'.2.1, b2.2.1]
          exact Or.inl ⟨(1, tS t L a), q, R1, M', ML, rfl, f2, hd.2.2.2.2.2, rfl, b2⟩
        · rw [if_n0 e (by omega), if_n0 e (by omega), if_e0 rfl]
          exact Or.inr ⟨n, q, g, R, M, ML, rfl, r3, by omega, rfl, Or.inr ⟨z, hd⟩, fun _ => by omega, fun _ _ _ _ _ _ => rfl⟩
    · have ln : ∃ x1 : Int32, LnR N t L a q M (fX4_readLine N T (embP q) R x1) (fX6_readLine N M ML) ∧ fX4_read_36b N (itn (fX4_read_36b N) (fun _ _ _ _ => none) u) T (embP q) R (nI n) = fX4_read_68 N (itn (fX4_read_36b N) (fun _ _ _ _ => none) u) T (embP q) R (nI n) x1 := by
        rcases hd with ⟨z, hd⟩ | ⟨z, hd⟩
        · refine ⟨nI 1, ln_first hT hN hL h ho h6 h7 hM hd, ?_⟩
          unfold fX4_read_36b
          rw [r3, if_e0 rfl, h6, if_neq (by unfold cs; split <;> (try split) <;> omega) (by unfold cs; split <;> (try split) <;> omega) (by omega), if_nle (by omega) (by omega), if_e0 z]
        · refine ⟨nI 0, ln_next hT hN hL h ho h6 h7 hM hd, ?_⟩
          unfold fX4_read_36b
          rw [r3, if_e0 rfl, h6, if_neq (by unfold cs; split <;> (try split) <;> omega) (by unfold cs; split <;> (try split) <;> omega) (by omega), if_nle (by omega) (by omega), if_n0 (by omega) (by omega)]
      obtain ⟨x1, ln, ec⟩ := ln
      have em : fX6_text_56b N (itn (fX6_text_56b N) (fun _ _ _ => none) w) M ML (nI n) = bnd (fX6_readLine N M ML) (fun z2 => if z2.1 = 0 then fX6_text_77 N z2.2.1 z2.2.2 else bnd (fX6_readEnd N z2.2.1 z2.2.2) (fun z3 => if z3.1 = 0 then fX6_text_77 N z3.2.1 z3.2.2 else nm (nI n + (nI 1)) (fun v4 => (itn (fX6_text_56b N) (fun _ _ _ => none) w) z3.2.1 z3.2.2 v4))) := by
        unfold fX6_text_56b
        rw [hM.1.2.1, if_n0 c (by omega)]
      rw [itn_s, itn_s, ec, em]
      unfold fX4_read_68
      rcases ln with ⟨f, R1, b, M', ML', l1, l2, l3, l4, l5⟩ | ⟨q', g', b, R1, M1, ML1, M', ML', l1, l2, l3, l4, l5, l6, l7, l8, l9⟩
      · -- a fault
        obtain ⟨R2, k1, k2, k3, k4, k5⟩ := tokC hT hN hL l2.2.2 l2.2.1 l2.1
        have fo2 : FO R2 (some f) := FO_mv l3 (k5 3 (by omega) (by omega) (by omega)) (k5 4 (by omega) (by omega) (by omega))
        have fo2' : R2 3 0 = nI f.1 ∧ R2 4 0 = nI f.2 ∧ 1 ≤ f.1 ∧ f.1 ≤ 3 ∧ f.2 ≤ 440 := fo2
        obtain ⟨u', rfl⟩ : ∃ u', u = u' + 1 := ⟨u - 1, by omega⟩
        rw [l1, bnd_s, nm_s]
        dsimp only
        rw [k1, bnd_s, itn_s]
        unfold fX4_read_36b fX4_read_81 fX4_read_107
        rw [fo2'.1, if_n0 (by omega) (by omega), if_n0 (by omega) (by omega), if_n0 (by omega) (by omega), fo2'.2.1]
        refine Or.inl ⟨f, q, R2, M', ML', rfl, fo2, DN_5 hd, ?_, l5⟩
        unfold fX6_text_77
        rcases l4 with l4 | ⟨M1, ML1, l4, l4'⟩
        · rw [l4, bnd_s]
          dsimp only
          rw [if_e0 rfl, l5.2.1]
        · rw [l4, bnd_s]
          dsimp only
          rw [if_n0 (by omega) (by omega), l4', bnd_s]
          dsimp only
          rw [if_e0 rfl, l5.2.1]
      · obtain ⟨R2, k1, k2, k3, k4, k5⟩ := tokC hT hN hL l2.2.2 l2.2.1 l2.1
        have bb := tE_b (t := t) l2.2.2
        have r := rd_loop hT hN hL (d := d) (u := u) (w := w) (a := b) (n := n + 1) (R := R2) (q := q') (g := g') (M := M') (ML := ML') (by omega) (by omega) (by omega) (by omega) ⟨by rw [k5 2 (by omega) (by omega) (by omega)]; exact l2.1, k2, bb.2.1⟩ (FO_mv l3 (k5 3 (by omega) (by omega) (by omega)) (k5 4 (by omega) (by omega) (by omega))) k3 k4 l7 (Or.inr ⟨by omega, l8⟩)
        rw [l1, bnd_s, nm_s]
        dsimp only
        rw [k1, bnd_s, nI_add, l5, bnd_s]
        dsimp only
        rw [if_n0 (by omega) (by omega), l6, bnd_s]
        dsimp only
        rw [if_n0 (by omega) (by omega), nm_s]
        exact TxR_mv r l9
theorem m_zero {ML : RcL} {N : Nat} {v : Int32} : ∀ {d i u : Nat} {M : Rc}, d < u → i + d = 353 → ∃ M', itn (fX6_text_32b N) (fun _ _ _ _ => none) u M ML v (nI i) = bnd (fX6_go N M' ML) (fun z1 => fX6_text_56 N z1.1 z1.2 v) ∧ (∀ j, i ≤ j → j < 353 → M' 12 j = nI 0) ∧ (∀ j, j < i → M' 12 j = M 12 j) ∧ ∀ a, a ≠ 12 → M' a = M a
  | _, _, 0, _, h, _ => by omega
  | 0, i, u + 1, M, _, e => by
    refine ⟨M, ?_, fun j h1 h2 => by omega, fun _ _ => rfl, fun _ _ => rfl⟩
    rw [itn_s]
    unfold fX6_text_32b
    rw [if_le (by omega) (by omega)]
  | d + 1, i, u + 1, M, hu, e => by
    obtain ⟨M', r1, r2, r3, r4⟩ := m_zero (ML := ML) (N := N) (v := v) (d := d) (i := i + 1) (u := u) (M := va_up M 12 (upd (M 12) i (nI 0))) (by omega) (by omega)
    refine ⟨M', ?_, fun j q1 q2 => ?_, fun j q1 => ?_, fun a ha => by rw [r4 a ha, va_up_ne _ _ ha]⟩
    · rw [itn_s, ← r1]
      unfold fX6_text_32b
      rw [if_nle (by omega) (by omega), gdi_nI (by omega) (by omega), nI_clamp (by omega), nm_s, nI_add, nm_s]
    · by_cases c : j = i
      · rw [r3 j (by omega), va_up_self, upd_eq c]
      · exact r2 j (by omega) q2
    · rw [r3 j (by omega), va_up_self, upd_ne (by omega)]
end
section
/-! the relation between class and model -/
theorem m_copy3 {nU nV N a b : Nat} (hU : a + 353 ≤ nU) (hV : b + 353 ≤ nV) (hU' : nU < 2 ^ 31) (hV' : nV < 2 ^ 31) {U : Nat → Int32} : ∀ {d i u : Nat} {V : Nat → Int32}, d < u → i + d = 353 → itn (fX6_copy_3b nU nV N) (fun _ _ _ _ _ => none) u U V (nI a) (nI b) (nI i) = some (fun j => if b + i ≤ j ∧ j < b + 353 then U (a + (j - b)) else V j)
  | _, _, 0, _, h, _ => by omega
  | 0, i, u + 1, V, _, e => by
    rw [itn_s]
    unfold fX6_copy_3b
    rw [if_le (by omega) (by omega)]
    congr 1
    funext j
    rw [if_neg (by omega)]
  | d + 1, i, u + 1, V, hu, e => by
    have r := m_copy3 (N := N) hU hV hU' hV' (U := U) (d := d) (i := i + 1) (u := u) (V := upd V (b + i) (U (a + i))) (by omega) (by omega)
    rw [itn_s]
    generalize itn (fX6_copy_3b nU nV N) (fun _ _ _ _ _ => none) u = K at r ⊢
    unfold fX6_copy_3b
    rw [if_nle (by omega) (by omega), nI_add, nI_add, gdi_nI (by omega) (by omega), gdi_nI (by omega) (by omega), nI_clamp (by omega), nI_clamp (by omega), nm_s, nI_add, nm_s, r]
    congr 1
    funext j
    by_cases c : j = b + i
    · rw [if_neg (by omega), upd_eq c, if_pos (by omega), show j - b = i from by omega]
    · rw [upd_ne c]
      by_cases q : b + (i + 1) ≤ j ∧ j < b + 353
      · rw [if_pos q, if_pos (by omega)]
      · rw [if_neg q, if_neg (by omega)]
theorem m_copy {nU nV N a b : Nat} (hN : 400 < N) (hU : a + 353 ≤ nU) (hV : b + 353 ≤ nV) (hU' : nU < 2 ^ 31) (hV' : nV < 2 ^ 31) {U V : Nat → Int32} : fX6_copy nU nV N U V (nI a) (nI b) = some (fun j => if b ≤ j ∧ j < b + 353 then U (a + (j - b)) else V j) := by
  unfold fX6_copy
  rw [nm_s]
  unfold fX6_copy_3
  exact m_copy3 (N := N) hU hV hU' hV' (d := 353) (i := 0) (u := N) (by omega) (by omega)
theorem RelS_eq {p g x : Nx} {S T : Nat → Int32} (hp : PI p) (hg : GI p g) (hx : LI p x) (hT : ∀ j, j < 353 → T j = S j) (h : RelS p g x S) : RelS p g x T := by
  have hn := hp.n
  have hq := hp.q
  refine ⟨Stat.mv hp hg h.1 (fun _ _ => rfl) (fun j h1 _ => hT j (by omega)), ⟨⟨?_, ?_, ?_, ?_, ?_⟩, fun l hl => ?_⟩, fun k hk => ?_⟩
  · rw [hT 48 (by omega)]; exact h.2.1.1.1
  · rw [hT 49 (by omega)]; exact h.2.1.1.2.1
  · rw [hT 50 (by omega)]; exact h.2.1.1.2.2.1
  · rw [hT 51 (by omega)]; exact h.2.1.1.2.2.2.1
  · rw [hT 52 (by omega)]; exact h.2.1.1.2.2.2.2
  · rw [hT _ (by omega)]; exact h.2.1.2 l hl
  · exact Dst.mv (sWait_20 hp hx hk) (h.2.2 k hk) rfl rfl rfl rfl rfl (fun _ _ _ _ => rfl) (fun c hc => hT _ (by omega)) (fun c hc => hT _ (by omega)) (hx.k hk).1
theorem SumS_eq {p x : Nx} {S T : Nat → Int32} (hp : PI p) (hT : ∀ j, j < 353 → T j = S j) (h : SumS p x S) : SumS p x T := by
  intro k s h1 h2
  have hn := hp.n
  rw [hT _ (by omega)]
  exact h k s h1 h2
/-- a line that stands, with the model's row of it -/
def Lst (p g x : Nx) (S : Nat → Int32) : Prop := LZ p x ∧ x 7 0 = 1 ∧ x 8 0 ≤ 99999 ∧ RelS p g x S ∧ SumS p x S
theorem Lst_eq {p g x : Nx} {S T : Nat → Int32} (hp : PI p) (hg : GI p g) (hT : ∀ j, j < 353 → T j = S j) (h : Lst p g x S) : Lst p g x T := ⟨h.1, h.2.1, h.2.2.1, RelS_eq hp hg h.1.1 hT h.2.2.2.1, SumS_eq hp hT h.2.2.2.2⟩
theorem Lst_agr {p g x y : Nx} {S : Nat → Int32} (hp : PI p) (ha : Agr x y) (h6 : ∀ i, i < 24 → y 6 i = x 6 i) (h : Lst p g x S) : Lst p g y S := by
  refine ⟨LZ_agr hp ha h.1, by rw [ha.g1 (by omega)]; exact h.2.1, by rw [ha.g1 (by omega)]; exact h.2.2.1, RelS_agr hp ha h.2.2.2.1, fun k s h1 h2 => ?_⟩
  have hn := hp.n
  rw [h6 _ (by omega)]
  exact h.2.2.2.2 k s h1 h2
def HR (p g : Nx) (c : Nat → Rc) (M : Rc) : Prop := ∃ n d, n ≤ 8 ∧ d < 8 ∧ c 7 1 0 = nI n ∧ c 7 2 0 = nI d ∧ M 15 0 = nI n ∧ ∀ i, i < n → ∃ y, c (8 + (d + 7 - i) % 8) = embL y ∧ Lst p g y (fun j => M 14 (353 * (n - 1 - i) + j))
def kn (p : Nx) (C : Nat → Nat) (f : Nat) (z : Nx) : Option (Nat × Nat) := paceAt p (sRound p (sClr z C f)) 1500 0
def KN (p : Nx) (C : Nat → Nat) (X : Rc) : Prop := ∀ f, 1 ≤ f → f ≤ 5 → X 9 f = nI 0 ∨ ∃ z, X 9 f = pcP p (sRound p (sClr z C f)) (kn p C f z) ∧ X 10 f = pcM p (sRound p (sClr z C f)) (kn p C f z)
def Em (p : Nx) (c : Nat → Rc) (M : Rc) : Prop := (p 6 0 = 0 ∧ p 7 0 = 0 ∧ p 8 0 = 0) ∧ (c 5 8 0 = nI 0 ∧ c 5 1 0 = nI 0 ∧ c 5 9 0 = -1 ∧ c 5 10 0 = -1) ∧ (c 7 1 0 = nI 0 ∧ (∃ d, d < 8 ∧ c 7 2 0 = nI d) ∧ M 15 0 = nI 0) ∧ (M 11 0 = nI 0 ∧ M 11 1 = nI 0 ∧ M 11 14 = nI 0 ∧ M 11 35 = nI 0 ∧ M 11 48 = nI 0 ∧ M 11 49 = nI 0 ∧ M 11 50 = nI 0 ∧ M 11 51 = -1 ∧ M 11 52 = -1)
def Wk (p g x : Nx) (c : Nat → Rc) (M : Rc) : Prop := PI p ∧ GI p g ∧ c 5 = embL x ∧ Lst p g x (M 11) ∧ HR p g c M ∧ KN p (x 4) (c 0)
def Tpe (c : Nat → Rc) (M : Rc) : Prop := ∃ t L, L ≤ 440 ∧ c 0 1 0 = nI L ∧ M 2 0 = nI L ∧ TP (c 16 0) t ∧ TP (M 1) t
def Rel (c : Nat → Rc) (FL : RcL) (M : Rc) (ML : RcL) : Prop := Tpe c M ∧ c 3 3 0 = M 8 0 ∧ (∃ q, c 4 = embP q ∧ ∀ i, q 5 i < 2 ^ 31) ∧ ∃ p, c 1 = embP p ∧ (∀ i, p 5 i < 2 ^ 31) ∧ (Em p c M ∨ ∃ g x, Wk p g x c M)
/-! plans copied -/
def pCpy (p q : Nx) : Nx := fun a i => if a = 0 ∨ a = 1 then (if i < 6 then q a i else p a i) else if a = 2 ∨ a = 3 ∨ a = 4 then (if i < 5 then q a i else p a i) else if a = 5 then (if i < 120 then q a i else p a i) else if a = 6 ∨ a = 7 ∨ a = 8 ∨ a = 9 then q a 0 else p a i
theorem c_pCpy (p q : Nx) : fX3_copyFrom (embP p) (embP q) = some (embP (pCpy p q)) := by
  unfold fX3_copyFrom
  simp only [↓nm_s]
  congr 1
  funext a i
  by_cases h9 : a = 9
  · subst h9
    rw [va_up_self]
    simp [embP, pCpy]
  rw [va_up_ne _ _ h9]
  by_cases h8 : a = 8
  · subst h8
    rw [va_up_self]
    simp [embP, pCpy]
  rw [va_up_ne _ _ h8]
  by_cases h7 : a = 7
  · subst h7
    rw [va_up_self]
    simp [embP, pCpy]
  rw [va_up_ne _ _ h7]
  by_cases h6 : a = 6
  · subst h6
    rw [va_up_self]
    simp [embP, pCpy]
  rw [va_up_ne _ _ h6]
  by_cases h5 : a = 5
  · subst h5
    rw [va_up_self, va_up_ne _ _ (by omega), va_up_ne _ _ (by omega), va_up_ne _ _ (by omega), va_up_ne _ _ (by omega), va_up_ne _ _ (by omega)]
    by_cases c : i < 120
    · rw [pk_cpy_in (by omega) (by omega), show 0 + (i - 0) = i from by omega]; simp [embP, pCpy, c]
    · rw [pk_cpy_out (by omega)]; simp [embP, pCpy, c]
  rw [va_up_ne _ _ h5]
  by_cases h4 : a = 4
  · subst h4
    rw [va_up_self, va_up_ne _ _ (by omega), va_up_ne _ _ (by omega), va_up_ne _ _ (by omega), va_up_ne _ _ (by omega)]
    by_cases c : i < 5
    · rw [pk_cpy_in (by omega) (by omega), show 0 + (i - 0) = i from by omega]; simp [embP, pCpy, c]
    · rw [pk_cpy_out (by omega)]; simp [embP, pCpy, c]
  rw [va_up_ne _ _ h4]
  by_cases h3 : a = 3
  · subst h3
    rw [va_up_self, va_up_ne _ _ (by omega), va_up_ne _ _ (by omega), va_up_ne _ _ (by omega)]
    by_cases c : i < 5
    · rw [pk_cpy_in (by omega) (by omega), show 0 + (i - 0) = i from by omega]; simp [embP, pCpy, c]
    · rw [pk_cpy_out (by omega)]; simp [embP, pCpy, c]
  rw [va_up_ne _ _ h3]
  by_cases h2 : a = 2
  · subst h2
    rw [va_up_self, va_up_ne _ _ (by omega), va_up_ne _ _ (by omega)]
    by_cases c : i < 5
    · rw [pk_cpy_in (by omega) (by omega), show 0 + (i - 0) = i from by omega]; simp [embP, pCpy, c]
    · rw [pk_cpy_out (by omega)]; simp [embP, pCpy, c]
  rw [va_up_ne _ _ h2]
  by_cases h1 : a = 1
  · subst h1
    rw [va_up_self, va_up_ne _ _ (by omega)]
    by_cases c : i < 6
    · rw [pk_cpy_in (by omega) (by omega), show 0 + (i - 0) = i from by omega]; simp [embP, pCpy, c]
    · rw [pk_cpy_out (by omega)]; simp [embP, pCpy, c]
  rw [va_up_ne _ _ h1]
  by_cases h0 : a = 0
  · subst h0
    rw [va_up_self]
    by_cases c : i < 6
    · rw [pk_cpy_in (by omega) (by omega), show 0 + (i - 0) = i from by omega]; simp [embP, pCpy, c]
    · rw [pk_cpy_out (by omega)]; simp [embP, pCpy, c]
  rw [va_up_ne _ _ h0]
  simp [embP, pCpy, h9, h8, h7, h6, h5, h4, h3, h2, h1, h0]
theorem pCpy_01 {p q : Nx} {a i : Nat} (ha : a = 0 ∨ a = 1) (hi : i < 6) : pCpy p q a i = q a i := by
  unfold pCpy
  rw [if_pos ha, if_pos hi]
theorem pCpy_234 {p q : Nx} {a i : Nat} (ha : a = 2 ∨ a = 3 ∨ a = 4) (hi : i < 5) : pCpy p q a i = q a i := by
  unfold pCpy
  rw [if_neg (by omega), if_pos ha, if_pos hi]
theorem pCpy_5 {p q : Nx} {i : Nat} : pCpy p q 5 i = if i < 120 then q 5 i else p 5 i := by
  unfold pCpy
  rw [if_neg (by omega), if_neg (by omega), if_pos rfl]
theorem pCpy_6 {p q : Nx} {a i : Nat} (ha : a = 6 ∨ a = 7 ∨ a = 8 ∨ a = 9) : pCpy p q a i = q a 0 := by
  unfold pCpy
  rw [if_neg (by omega), if_neg (by omega), if_neg (by omega), if_pos ha]
/-- a text that was read: its plan, and the model's row of it -/
theorem tx_plan {p0 q g : Nx} {S : Nat → Int32} (h : DR q g S) (h1 : 1 ≤ q 6 0) (h0 : ∀ i, p0 5 i < 2 ^ 31) : PI (pCpy p0 q) ∧ GI (pCpy p0 q) g ∧ (∀ l, l < pCpy p0 q 7 0 → 1 ≤ pCpy p0 q 4 l ∧ pCpy p0 q 4 l ≤ 20) ∧ Stat (pCpy p0 q) g (pCpy p0 q 4) 1 (upd S 16 (nI (q 6 0) - nI 1)) := by
  obtain ⟨ha, hb, hc, hd⟩ := h
  have e6 : pCpy p0 q 6 0 = q 6 0 := pCpy_6 (by omega)
  have e7 : pCpy p0 q 7 0 = q 7 0 := pCpy_6 (by omega)
  have e8 : pCpy p0 q 8 0 = q 8 0 := pCpy_6 (by omega)
  have e9 : pCpy p0 q 9 0 = q 9 0 := pCpy_6 (by omega)
  have b6 := hb.1
  have b7 := hc.1
  have l30 := hc.2.2.1 h1
  have sl := (sumG_le hd.1 (r := q 8 0) (Nat.le_refl _)).1
  have g9 := hd.1.2.2.1
  have g8 := hd.1.1
  have lp : ∀ l, l < q 7 0 → q 2 l ≤ q 3 l ∧ q 3 l < q 6 0 ∧ 1 ≤ q 4 l ∧ q 4 l ≤ 20 := by
    intro l hl
    by_cases c : l = 0
    · subst c
      have := hc.2.1
      have := hc.2.2.2.1
      omega
    · have := hc.2.2.2.2 l (by omega) hl
      omega
  refine ⟨⟨by omega, by omega, ?_, fun l hl => ?_, fun k hk => ?_, by omega, fun i => ?_⟩, ⟨by omega, ?_, ?_, fun r hr i hi => ?_⟩, fun l hl => ?_, ⟨⟨?_, ?_, ?_, ?_⟩, fun k hk => ?_, fun l hl => ?_, fun r hr => ?_⟩⟩
  · rw [pCpy_234 (by omega) (by omega), pCpy_234 (by omega) (by omega), e6]; exact ⟨hc.2.1, l30⟩
  · rw [e7] at hl
    have := lp l hl
    rw [pCpy_234 (by omega) (by omega), pCpy_234 (by omega) (by omega), e6]
    omega
  · rw [e6] at hk
    have := hb.2 k hk
    rw [pCpy_01 (by omega) (by omega), pCpy_01 (by omega) (by omega)]
    omega
  · rw [pCpy_5]
    split
    · exact hd.2.2 i
    · exact h0 i
  · rw [e8]; exact hd.1.2.1
  · rw [e8, e9]; exact g9
  · rw [e8] at hr
    have w := hd.1.2.2.2 r hr i hi
    have m : ∀ d, r + 1 + d ≤ q 8 0 → sumG g (r + 1) ≤ sumG g (r + 1 + d) := by
      intro d
      induction d with
      | zero => intro _; exact Nat.le_refl _
      | succ d ih =>
        intro hd
        have := ih (by omega)
        show _ ≤ sumG g (r + 1 + d) + g 1 (r + 1 + d)
        omega
    have m1 := m (q 8 0 - (r + 1)) (by omega)
    rw [show r + 1 + (q 8 0 - (r + 1)) = q 8 0 from by omega, sumG] at m1
    rw [pCpy_5, if_pos (by omega)]
    exact w
  · rw [e7] at hl
    rw [pCpy_234 (by omega) (by omega)]
    have := lp l hl
    omega
  · rw [upd_ne (by omega)]; exact ha.1
  · rw [upd_ne (by omega), e6]; exact ha.2.1
  · rw [upd_ne (by omega), e7]; exact ha.2.2.1
  · rw [upd_ne (by omega), e8]; exact ha.2.2.2.1
  · rw [e6] at hk
    have := hb.2 k hk
    rw [pCpy_01 (by omega) (by omega), pCpy_01 (by omega) (by omega), upd_ne (by omega), upd_ne (by omega)]
    exact ⟨this.1, this.2.1⟩
  · rw [e7] at hl
    rw [pCpy_234 (by omega) (by omega), pCpy_234 (by omega) (by omega), pCpy_234 (by omega) (by omega)]
    by_cases c : l = 0
    · subst c
      rw [upd_ne (by omega), upd_eq (by omega), upd_ne (by omega), nI_sub' h1, hc.2.1]
      refine ⟨ha.2.2.2.2, congrArg nI (by omega), hc.2.2.2.1.1⟩
    · have := hc.2.2.2.2 l (by omega) hl
      rw [upd_ne (by omega), upd_ne (by omega), upd_ne (by omega)]
      exact ⟨this.1, this.2.1, this.2.2.1⟩
  · rw [e8] at hr
    rw [upd_ne (by omega), upd_ne (by omega), Nat.mul_one]
    exact hd.2.1 r hr
end
section
/-! what the law asks of each call -/
def stK (z : Option Int32) : Int32 := match z with
  | none => 1
  | some _ => 0
def SP0 (N : Nat) (Rel : (Nat → Rc) → RcL → Rc → RcL → Prop) : Prop := ∀ (c : Nat → Rc) (FL : RcL) (M : Rc) (ML : RcL), Rel c FL M ML → ∀ (a1 : Int32) (a2 : Int32) (a3 : Int32) (a4 : Int32) (a5 : Int32), ∃ (zx : Int32 × (Rc × (Nat → Int32))) (zm : Int32 × (Rc)), fX5_feed N (c 0) (c 16 0) a1 a2 a3 a4 a5 = some zx ∧ fX6_feed N M ML a1 a2 a3 a4 a5 = some zm ∧ zx.1 = zm.1 ∧ Rel (va_up (va_up c 0 (zx.2.1)) 16 (fun _ => (zx.2.2))) FL (zm.2) ML
def SP1 (N : Nat) (Rel : (Nat → Rc) → RcL → Rc → RcL → Prop) : Prop := ∀ (c : Nat → Rc) (FL : RcL) (M : Rc) (ML : RcL), Rel c FL M ML → ∀ (a1 : Int32), ∃ (zx : Int32 × (Rc)) (zm : Int32 × (Rc)), fX5_end (c 0) a1 = some zx ∧ fX6_end M ML a1 = some zm ∧ zx.1 = zm.1 ∧ Rel (va_up c 0 (zx.2)) FL (zm.2) ML
def SP2 (N : Nat) (Rel : (Nat → Rc) → RcL → Rc → RcL → Prop) : Prop := ∀ (c : Nat → Rc) (FL : RcL) (M : Rc) (ML : RcL), Rel c FL M ML → ∀ (_ : Unit), ∃ (zx : Int32 × (Rc × Rc × Rc × Rc × Rc × Rc)) (zm : Int32 × (Rc × RcL)), fX5_text N (c 0) (c 16 0) (c 1) (c 4) (c 3) (c 5) (c 7) = some zx ∧ fX6_text N M ML = some zm ∧ zx.1 = zm.1 ∧ Rel (va_up (va_up (va_up (va_up (va_up (va_up c 0 (zx.2.1)) 1 (zx.2.2.1)) 3 (zx.2.2.2.2.1)) 4 (zx.2.2.2.1)) 5 (zx.2.2.2.2.2.1)) 7 (zx.2.2.2.2.2.2)) FL (zm.2.1) (zm.2.2)
def SP3 (N : Nat) (Rel : (Nat → Rc) → RcL → Rc → RcL → Prop) : Prop := ∀ (c : Nat → Rc) (FL : RcL) (M : Rc) (ML : RcL), Rel c FL M ML → ∀ (_ : Unit), ∃ (zx : Int32) (zm : Int32 × (Rc)), fX5_fault (c 0) (c 3) = some zx ∧ fX6_fault M ML = some zm ∧ zx = zm.1 ∧ Rel c FL (zm.2) ML
def SP4 (N : Nat) (Rel : (Nat → Rc) → RcL → Rc → RcL → Prop) : Prop := ∀ (c : Nat → Rc) (FL : RcL) (M : Rc) (ML : RcL), Rel c FL M ML → ∀ (a1 : Int32), ∃ (zx : Int32) (zm : Int32 × (Rc)), fX5_now (c 0) (c 1) (c 5) (c 7) a1 = some zx ∧ fX6_now M ML a1 = some zm ∧ zx = zm.1 ∧ Rel c FL (zm.2) ML
def SP5 (N : Nat) (Rel : (Nat → Rc) → RcL → Rc → RcL → Prop) : Prop := ∀ (c : Nat → Rc) (FL : RcL) (M : Rc) (ML : RcL), Rel c FL M ML → ∀ (a1 : Int32) (a2 : Int32), ∃ (zx : Option Int32) (zm : Int32 × (Rc)), fX5_station (c 0) (c 1) (c 5) a1 a2 = some zx ∧ fX6_station M ML a1 a2 = some zm ∧ fX6_thrown (zm.2) ML = some (stK zx) ∧ (∀ v, zx = some v → zm.1 = v) ∧ Rel c FL (zm.2) ML
def SP6 (N : Nat) (Rel : (Nat → Rc) → RcL → Rc → RcL → Prop) : Prop := ∀ (c : Nat → Rc) (FL : RcL) (M : Rc) (ML : RcL), Rel c FL M ML → ∀ (a1 : Int32) (a2 : Int32), ∃ (zx : Int32) (zm : Int32 × (Rc)), fX5_waits (c 0) (c 1) (c 5) a1 a2 = some zx ∧ fX6_waits_ M ML a1 a2 = some zm ∧ zx = zm.1 ∧ Rel c FL (zm.2) ML
def SP7 (N : Nat) (Rel : (Nat → Rc) → RcL → Rc → RcL → Prop) : Prop := ∀ (c : Nat → Rc) (FL : RcL) (M : Rc) (ML : RcL), Rel c FL M ML → ∀ (a1 : Int32) (a2 : Int32), ∃ (zx : Int32) (zm : Int32 × (Rc)), fX5_loop (c 0) (c 1) (c 5) a1 a2 = some zx ∧ fX6_loop M ML a1 a2 = some zm ∧ zx = zm.1 ∧ Rel c FL (zm.2) ML
def SP8 (N : Nat) (Rel : (Nat → Rc) → RcL → Rc → RcL → Prop) : Prop := ∀ (c : Nat → Rc) (FL : RcL) (M : Rc) (ML : RcL), Rel c FL M ML → ∀ (a1 : Int32), ∃ (zx : Int32) (zm : Int32 × (Rc)), fX5_next (c 0) (c 1) (c 5) a1 = some zx ∧ fX6_next N M ML a1 = some zm ∧ zx = zm.1 ∧ Rel c FL (zm.2) ML
def SP9 (N : Nat) (Rel : (Nat → Rc) → RcL → Rc → RcL → Prop) : Prop := ∀ (c : Nat → Rc) (FL : RcL) (M : Rc) (ML : RcL), Rel c FL M ML → ∀ (a1 : Int32) (a2 : Int32), ∃ (zx : Int32 × (Rc)) (zm : Int32 × (Rc)), fX5_when N (c 0) (c 1) (c 5) (c 2) a1 a2 = some zx ∧ fX6_when N M ML a1 a2 = some zm ∧ zx.1 = zm.1 ∧ Rel (va_up c 2 (zx.2)) FL (zm.2) ML
def SP10 (N : Nat) (Rel : (Nat → Rc) → RcL → Rc → RcL → Prop) : Prop := ∀ (c : Nat → Rc) (FL : RcL) (M : Rc) (ML : RcL), Rel c FL M ML → ∀ (a1 : Int32), ∃ (zx : Int32 × (Rc × Rc × Rc × RcL)) (zm : Int32 × (Rc × RcL)), fX5_pace N (c 0) (c 1) (c 5) (c 2) (c 6) FL a1 = some zx ∧ fX6_pace N M ML a1 = some zm ∧ zx.1 = zm.1 ∧ Rel (va_up (va_up (va_up c 0 (zx.2.1)) 2 (zx.2.2.1)) 6 (zx.2.2.2.1)) (zx.2.2.2.2) (zm.2.1) (zm.2.2)
def SP11 (N : Nat) (Rel : (Nat → Rc) → RcL → Rc → RcL → Prop) : Prop := ∀ (c : Nat → Rc) (FL : RcL) (M : Rc) (ML : RcL), Rel c FL M ML → ∀ (a1 : Int32), ∃ (zx : Int32) (zm : Int32 × (Rc)), fX5_bound N (c 0) (c 1) (c 5) a1 = some zx ∧ fX6_bound N M ML a1 = some zm ∧ zx = zm.1 ∧ Rel c FL (zm.2) ML
def SP12 (N : Nat) (Rel : (Nat → Rc) → RcL → Rc → RcL → Prop) : Prop := ∀ (c : Nat → Rc) (FL : RcL) (M : Rc) (ML : RcL), Rel c FL M ML → ∀ (a1 : Int32) (a2 : Int32) (a3 : Int32), ∃ (zx : Int32) (zm : Int32 × (Rc)), fX5_needs N (c 0) (c 1) a1 a2 a3 = some zx ∧ fX6_needs N M ML a1 a2 a3 = some zm ∧ zx = zm.1 ∧ Rel c FL (zm.2) ML
def SP13 (N : Nat) (Rel : (Nat → Rc) → RcL → Rc → RcL → Prop) : Prop := ∀ (c : Nat → Rc) (FL : RcL) (M : Rc) (ML : RcL), Rel c FL M ML → ∀ (a1 : Int32) (a2 : Int32) (a3 : Int32), ∃ (zx : Int32 × (Rc × Rc × Rc × RcL)) (zm : Int32 × (Rc × RcL)), fX5_least N (c 0) (c 1) (c 5) (c 2) (c 6) FL a1 a2 a3 = some zx ∧ fX6_least N M ML a1 a2 a3 = some zm ∧ zx.1 = zm.1 ∧ Rel (va_up (va_up (va_up c 0 (zx.2.1)) 2 (zx.2.2.1)) 6 (zx.2.2.2.1)) (zx.2.2.2.2) (zm.2.1) (zm.2.2)
def SP14 (N : Nat) (Rel : (Nat → Rc) → RcL → Rc → RcL → Prop) : Prop := ∀ (c : Nat → Rc) (FL : RcL) (M : Rc) (ML : RcL), Rel c FL M ML → ∀ (a1 : Int32) (a2 : Int32), ∃ (zx : Int32 × (Rc × Rc × Rc × RcL)) (zm : Int32 × (Rc × RcL)), fX5_longer N (c 0) (c 1) (c 5) (c 2) (c 6) FL a1 a2 = some zx ∧ fX6_longer N M ML a1 a2 = some zm ∧ zx.1 = zm.1 ∧ Rel (va_up (va_up (va_up c 0 (zx.2.1)) 2 (zx.2.2.1)) 6 (zx.2.2.2.1)) (zx.2.2.2.2) (zm.2.1) (zm.2.2)
def SP15 (N : Nat) (Rel : (Nat → Rc) → RcL → Rc → RcL → Prop) : Prop := ∀ (c : Nat → Rc) (FL : RcL) (M : Rc) (ML : RcL), Rel c FL M ML → ∀ (_ : Unit), ∃ (zx : Int32 × (Rc × Rc × Rc × RcL)) (zm : Int32 × (Rc × RcL)), fX5_longest N (c 0) (c 1) (c 5) (c 2) (c 6) FL = some zx ∧ fX6_longest N M ML = some zm ∧ zx.1 = zm.1 ∧ Rel (va_up (va_up (va_up c 0 (zx.2.1)) 2 (zx.2.2.1)) 6 (zx.2.2.2.1)) (zx.2.2.2.2) (zm.2.1) (zm.2.2)
def SP16 (N : Nat) (Rel : (Nat → Rc) → RcL → Rc → RcL → Prop) : Prop := ∀ (c : Nat → Rc) (FL : RcL) (M : Rc) (ML : RcL), Rel c FL M ML → ∀ (a1 : Int32), ∃ (zx : Int32 × (Rc × Rc × Rc × Rc × Rc × Rc × Rc × Rc × Rc × Rc)) (zm : Int32 × (Rc)), fX5_pass N (c 0) (c 1) (c 5) (c 7) (c 8) (c 9) (c 10) (c 11) (c 12) (c 13) (c 14) (c 15) a1 = some zx ∧ fX6_pass N M ML a1 = some zm ∧ zx.1 = zm.1 ∧ Rel (va_up (va_up (va_up (va_up (va_up (va_up (va_up (va_up (va_up (va_up c 5 (zx.2.1)) 7 (zx.2.2.1)) 8 (zx.2.2.2.1)) 9 (zx.2.2.2.2.1)) 10 (zx.2.2.2.2.2.1)) 11 (zx.2.2.2.2.2.2.1)) 12 (zx.2.2.2.2.2.2.2.1)) 13 (zx.2.2.2.2.2.2.2.2.1)) 14 (zx.2.2.2.2.2.2.2.2.2.1)) 15 (zx.2.2.2.2.2.2.2.2.2.2)) FL (zm.2) ML
def SP17 (N : Nat) (Rel : (Nat → Rc) → RcL → Rc → RcL → Prop) : Prop := ∀ (c : Nat → Rc) (FL : RcL) (M : Rc) (ML : RcL), Rel c FL M ML → ∀ (_ : Unit), ∃ (zx : Int32 × (Rc × Rc × Rc × Rc × Rc × Rc × Rc × Rc × Rc × Rc)) (zm : Int32 × (Rc)), fX5_step N (c 0) (c 1) (c 5) (c 7) (c 8) (c 9) (c 10) (c 11) (c 12) (c 13) (c 14) (c 15) = some zx ∧ fX6_step N M ML = some zm ∧ zx.1 = zm.1 ∧ Rel (va_up (va_up (va_up (va_up (va_up (va_up (va_up (va_up (va_up (va_up c 5 (zx.2.1)) 7 (zx.2.2.1)) 8 (zx.2.2.2.1)) 9 (zx.2.2.2.2.1)) 10 (zx.2.2.2.2.2.1)) 11 (zx.2.2.2.2.2.2.1)) 12 (zx.2.2.2.2.2.2.2.1)) 13 (zx.2.2.2.2.2.2.2.2.1)) 14 (zx.2.2.2.2.2.2.2.2.2.1)) 15 (zx.2.2.2.2.2.2.2.2.2.2)) FL (zm.2) ML
def SP18 (N : Nat) (Rel : (Nat → Rc) → RcL → Rc → RcL → Prop) : Prop := ∀ (c : Nat → Rc) (FL : RcL) (M : Rc) (ML : RcL), Rel c FL M ML → ∀ (a1 : Int32) (a2 : Int32), ∃ (zx : Int32 × (Rc × Rc × Rc × Rc × Rc × Rc × Rc × Rc × Rc × Rc × Rc)) (zm : Int32 × (Rc)), fX5_cards N (c 0) (c 1) (c 5) (c 7) (c 8) (c 9) (c 10) (c 11) (c 12) (c 13) (c 14) (c 15) a1 a2 = some zx ∧ fX6_cards N M ML a1 a2 = some zm ∧ zx.1 = zm.1 ∧ Rel (va_up (va_up (va_up (va_up (va_up (va_up (va_up (va_up (va_up (va_up (va_up c 0 (zx.2.1)) 5 (zx.2.2.1)) 7 (zx.2.2.2.1)) 8 (zx.2.2.2.2.1)) 9 (zx.2.2.2.2.2.1)) 10 (zx.2.2.2.2.2.2.1)) 11 (zx.2.2.2.2.2.2.2.1)) 12 (zx.2.2.2.2.2.2.2.2.1)) 13 (zx.2.2.2.2.2.2.2.2.2.1)) 14 (zx.2.2.2.2.2.2.2.2.2.2.1)) 15 (zx.2.2.2.2.2.2.2.2.2.2.2)) FL (zm.2) ML
def SP19 (N : Nat) (Rel : (Nat → Rc) → RcL → Rc → RcL → Prop) : Prop := ∀ (c : Nat → Rc) (FL : RcL) (M : Rc) (ML : RcL), Rel c FL M ML → ∀ (_ : Unit), ∃ (zx : Int32 × (Rc × Rc × Rc × Rc × Rc × Rc × Rc × Rc × Rc × Rc)) (zm : Int32 × (Rc)), fX5_anew N (c 0) (c 1) (c 5) (c 7) (c 8) (c 9) (c 10) (c 11) (c 12) (c 13) (c 14) (c 15) = some zx ∧ fX6_anew N M ML = some zm ∧ zx.1 = zm.1 ∧ Rel (va_up (va_up (va_up (va_up (va_up (va_up (va_up (va_up (va_up (va_up c 5 (zx.2.1)) 7 (zx.2.2.1)) 8 (zx.2.2.2.1)) 9 (zx.2.2.2.2.1)) 10 (zx.2.2.2.2.2.1)) 11 (zx.2.2.2.2.2.2.1)) 12 (zx.2.2.2.2.2.2.2.1)) 13 (zx.2.2.2.2.2.2.2.2.1)) 14 (zx.2.2.2.2.2.2.2.2.2.1)) 15 (zx.2.2.2.2.2.2.2.2.2.2)) FL (zm.2) ML
def SP20 (N : Nat) (Rel : (Nat → Rc) → RcL → Rc → RcL → Prop) : Prop := ∀ (c : Nat → Rc) (FL : RcL) (M : Rc) (ML : RcL), Rel c FL M ML → ∀ (_ : Unit), ∃ (zx : Int32 × (Rc × Rc × Rc)) (zm : Int32 × (Rc)), fX5_undo N (c 0) (c 5) (c 7) (c 8) (c 9) (c 10) (c 11) (c 12) (c 13) (c 14) (c 15) = some zx ∧ fX6_undo N M ML = some zm ∧ zx.1 = zm.1 ∧ Rel (va_up (va_up (va_up c 0 (zx.2.1)) 5 (zx.2.2.1)) 7 (zx.2.2.2)) FL (zm.2) ML
end
section
/-! the calls that only tell -/
theorem Rel_tp {c c' : Nat → Rc} {FL FL' : RcL} {M M' : Rc} {ML ML' : RcL} (hc : ∀ a, a ≠ 0 → a ≠ 2 → a ≠ 6 → a ≠ 16 → c' a = c a) (h9 : c' 0 9 = c 0 9) (h10 : c' 0 10 = c 0 10) (hM : ∀ a, a = 8 ∨ a = 11 ∨ a = 14 ∨ a = 15 → M' a = M a) (ht : Tpe c' M') (h : Rel c FL M ML) : Rel c' FL' M' ML' := by
  obtain ⟨_, h3, ⟨q, q1, q2⟩, p, p1, p2, h4⟩ := h
  refine ⟨ht, ?_, ⟨q, ?_, q2⟩, p, ?_, p2, ?_⟩
  · rw [hc 3 (by omega) (by omega) (by omega) (by omega), hM 8 (by omega)]; exact h3
  · rw [hc 4 (by omega) (by omega) (by omega) (by omega)]; exact q1
  · rw [hc 1 (by omega) (by omega) (by omega) (by omega)]; exact p1
  · rcases h4 with h4 | ⟨g, x, w1, w2, w3, w4, ⟨n, d, r1, r2, r3, r4, r5, r6⟩, w6⟩
    · refine Or.inl ?_
      unfold Em at h4 ⊢
      rw [hc 5 (by omega) (by omega) (by omega) (by omega), hc 7 (by omega) (by omega) (by omega) (by omega), hM 15 (by omega), hM 11 (by omega)]
      exact h4
    · refine Or.inr ⟨g, x, w1, w2, ?_, ?_, ⟨n, d, r1, r2, ?_, ?_, ?_, fun i hi => ?_⟩, ?_⟩
      · rw [hc 5 (by omega) (by omega) (by omega) (by omega)]; exact w3
      · rw [hM 11 (by omega)]; exact w4
      · rw [hc 7 (by omega) (by omega) (by omega) (by omega)]; exact r3
      · rw [hc 7 (by omega) (by omega) (by omega) (by omega)]; exact r4
      · rw [hM 15 (by omega)]; exact r5
      · obtain ⟨y, y1, y2⟩ := r6 i hi
        refine ⟨y, ?_, ?_⟩
        · rw [hc _ (by omega) (by omega) (by omega) (by omega)]; exact y1
        · rw [hM 14 (by omega)]; exact y2
      · intro f q1 q2
        rw [h9, h10]
        exact w6 f q1 q2
theorem Rel_mv {c c' : Nat → Rc} {FL FL' : RcL} {M M' : Rc} {ML ML' : RcL} (hc : ∀ a, a ≠ 2 → a ≠ 6 → c' a = c a) (hM : ∀ a, a = 1 ∨ a = 2 ∨ a = 8 ∨ a = 11 ∨ a = 14 ∨ a = 15 → M' a = M a) (h : Rel c FL M ML) : Rel c' FL' M' ML' := by
  obtain ⟨t, L, t1, t2, t3, t4, t5⟩ := h.1
  refine Rel_tp (fun a _ q1 q2 _ => hc a q1 q2) (by rw [hc 0 (by omega) (by omega)]) (by rw [hc 0 (by omega) (by omega)]) (fun a ha => hM a (by omega)) ⟨t, L, t1, ?_, ?_, ?_, ?_⟩ h
  · rw [hc 0 (by omega) (by omega)]; exact t2
  · rw [hM 2 (by omega)]; exact t3
  · rw [hc 16 (by omega) (by omega)]; exact t4
  · rw [hM 1 (by omega)]; exact t5
theorem Rel_0 {c : Nat → Rc} {FL : RcL} {M : Rc} {ML : RcL} {v : Nat → Int32} (h : Rel c FL M ML) : Rel c FL (va_up M 0 v) ML := Rel_mv (fun _ _ _ => rfl) (fun a ha => by rw [va_up_ne _ _ (by omega)]) h
theorem SP3_ok {N : Nat} : SP3 N Rel := by
  intro c FL M ML h _
  unfold fX5_fault fX6_fault
  rw [nm_s, va_up_ne _ _ (by omega)]
  exact ⟨_, _, rfl, rfl, h.2.1, Rel_0 h⟩
theorem le_m1 {j q : Nat} (hj : j < 2 ^ 31) (hq : q < 2 ^ 30) : nI j ≤ nI q - nI 1 ↔ j < q := by
  rw [Int32.le_iff_toInt_le, nI_toInt hj, pk_sub_toInt hq (by omega)]
  omega
/-- a number against 0 .. q - 1 -/
theorem in_q {x : Int32} {q : Nat} (hq : q < 2 ^ 30) : (∃ j, j < q ∧ x = nI j ∧ ¬ x < 0 ∧ fX6_isIn x (nI 0) (nI q - nI 1) = some (nI 1)) ∨ (fX6_isIn x (nI 0) (nI q - nI 1) = some (nI 0) ∧ (x < 0 ∨ (¬ x < 0 ∧ nI q ≤ x ∧ ¬ x < nI q))) := by
  by_cases c : x < 0
  · exact Or.inr ⟨isIn_F (Or.inl c), Or.inl c⟩
  · obtain ⟨j, hj, rfl⟩ := nI_of c
    by_cases d : j < q
    · exact Or.inl ⟨j, d, rfl, c, isIn_T c ((le_m1 hj hq).mpr d)⟩
    · refine Or.inr ⟨isIn_F (Or.inr (fun z => d ((le_m1 hj hq).mp z))), Or.inr ⟨c, ?_, ?_⟩⟩
      · rw [nI_leI (by omega) hj]; omega
      · rw [nI_ltI hj (by omega)]; omega
/-- a number against a .. b -/
theorem in_ab (x : Int32) {a b : Nat} (hb : b < 2 ^ 31) (ha : a < 2 ^ 31) : (∃ j, a ≤ j ∧ j ≤ b ∧ x = nI j ∧ ¬ x < nI a ∧ x ≤ nI b ∧ ¬ nI b < x ∧ fX6_isIn x (nI a) (nI b) = some (nI 1)) ∨ (fX6_isIn x (nI a) (nI b) = some (nI 0) ∧ (x < nI a ∨ (¬ x < nI a ∧ nI b < x ∧ ¬ x ≤ nI b))) := by
  by_cases c : x < nI a
  · exact Or.inr ⟨isIn_F (Or.inl c), Or.inl c⟩
  · by_cases d : x ≤ nI b
    · refine Or.inl ?_
      have n0 : ¬ x < 0 := by
        intro z
        apply c
        rw [Int32.lt_iff_toInt_lt] at z ⊢
        rw [nI_toInt ha]
        have : (0 : Int32).toInt = 0 := by decide
        omega
      obtain ⟨j, hj, rfl⟩ := nI_of n0
      have d' := d
      rw [nI_leI hj hb] at d'
      have c' := c
      rw [nI_ltI hj (by omega)] at c'
      exact ⟨j, by omega, d', rfl, c, d, fun z => Int32.not_lt.mpr d z, isIn_T c d⟩
    · exact Or.inr ⟨isIn_F (Or.inr d), Or.inr ⟨c, Int32.not_le.mp d, d⟩⟩
theorem z_0 : nI 0 = 0 := rfl
/-- a LOOP's number, by both -/
theorem both_lp {p : Nx} {M : Rc} {ML : RcL} {X : Rc} {x : Int32} (h7 : p 7 0 ≤ 5) (hM : M 11 14 = nI (p 7 0)) : (∃ l, l < p 7 0 ∧ x = nI l ∧ fX5_isLoop X (embP p) x = some (nI 1) ∧ fX6_isLoop M ML x = some (nI 1)) ∨ (fX5_isLoop X (embP p) x = some (nI 0) ∧ fX6_isLoop M ML x = some (nI 0)) := by
  unfold fX5_isLoop fX6_isLoop fX5_isLoop_19
  rw [hM, embP_a]
  rcases in_q (x := x) (q := p 7 0) (by omega) with ⟨j, h1, rfl, h2, h3⟩ | ⟨h3, h2⟩
  · refine Or.inl ⟨j, h1, rfl, ?_, by rw [h3, bnd_s, gdb_1]⟩
    rw [if_neg h2, if_nle (by omega) (by omega)]
  · refine Or.inr ⟨?_, by rw [h3, bnd_s, gdb_0]⟩
    rcases h2 with h2 | h2
    · rw [if_pos h2]
    · rw [if_neg h2.1, if_pos h2.2.1]
theorem empty_T {p : Nx} {X : Rc} (h : p 6 0 = 0) : fX5_isEmpty X (embP p) = some (nI 1) := by
  unfold fX5_isEmpty
  rw [embP_a, if_nle (by omega) (by omega)]
theorem empty_F {p : Nx} {X : Rc} (h : PI p) : fX5_isEmpty X (embP p) = some (nI 0) := by
  have := h.n
  unfold fX5_isEmpty
  rw [embP_a, if_le (by omega) (by omega)]
theorem there_F {M : Rc} {ML : RcL} (h : M 11 0 = nI 0) : fX6_isThere M ML = some (nI 0) := by
  unfold fX6_isThere
  rw [h, if_neq (by omega) (by omega) (by omega)]
theorem there_T {M : Rc} {ML : RcL} (h : M 11 0 = nI 1) : fX6_isThere M ML = some (nI 1) := by
  unfold fX6_isThere
  rw [h, if_eq rfl]
theorem SP4_ok {N : Nat} : SP4 N Rel := by
  intro c FL M ML h a1
  have h1 := Rel_0 (v := fun _ => nI 0) h
  unfold fX6_now
  rw [nm_s]
  generalize va_up M 0 (fun _ => nI 0) = M1 at h1 ⊢
  obtain ⟨⟨t, L, t1, t2, t3, t4, t5⟩, h3, ⟨q, q1, q2⟩, p, p1, p2, h4⟩ := id h1
  have fc : c 1 6 0 = M1 11 1 ∧ c 1 7 0 = M1 11 14 ∧ c 1 8 0 = M1 11 35 ∧ c 5 8 0 = M1 11 48 ∧ fX1_out (c 1) (c 5) = some (M1 11 49) ∧ fX1_onTheirWay (c 1) (c 5) = some (M1 11 50 - M1 11 49) ∧ c 5 9 0 = M1 11 51 ∧ c 5 10 0 = M1 11 52 ∧ c 7 1 0 = M1 15 0 := by
    rw [p1]
    rcases h4 with ⟨e1, e2, e3, e4⟩ | ⟨g, x, w1, w2, w3, w4, ⟨n, d, r1, r2, r3, r4, r5, r6⟩, w6⟩
    · have o : fX1_out (embP p) (c 5) = some (M1 11 49) := by
        unfold fX1_out
        rw [embP_a, e1.1, if_nle (by omega) (by omega), e4.2.2.2.2.2.1]
      refine ⟨by rw [embP_a, e1.1, e4.2.1], by rw [embP_a, e1.2.1, e4.2.2.1], by rw [embP_a, e1.2.2, e4.2.2.2.1], by rw [e2.1, e4.2.2.2.2.1], o, ?_, by rw [e2.2.2.1, e4.2.2.2.2.2.2.2.1], by rw [e2.2.2.2, e4.2.2.2.2.2.2.2.2], by rw [e3.1, e3.2.2]⟩
      unfold fX1_onTheirWay
      rw [o, bnd_s, e2.2.1, e4.2.2.2.2.2.2.1]
    · have S := w4.2.2.2.1
      have o : fX1_out (embP p) (c 5) = some (M1 11 49) := by rw [w3, s_out w1, S.2.1.1.2.1]
      refine ⟨by rw [embP_a, S.1.1.2.1], by rw [embP_a, S.1.1.2.2.1], by rw [embP_a, S.1.1.2.2.2], by rw [w3, embL_a (by omega), S.2.1.1.1], o, ?_, by rw [w3, embL_9, S.2.1.1.2.2.2.1], by rw [w3, embL_10, S.2.1.1.2.2.2.2], by rw [r3, r5]⟩
      unfold fX1_onTheirWay
      rw [o, bnd_s, w3, embL_a (by omega), S.2.1.1.2.2.1]
  obtain ⟨f0, f1, f2, f3, f4, f5, f6, f7, f8⟩ := fc
  unfold fX5_now
  rw [f4, f5, bnd_s, bnd_s, f0, f1, f2, f3, f6, f7, f8, t2, ← t3]
  by_cases c0 : a1 = nI 0
  · rw [if_pos c0, if_pos c0]; exact ⟨_, _, rfl, rfl, rfl, h1⟩
  rw [if_neg c0, if_neg c0]
  by_cases c1 : a1 = nI 1
  · rw [if_pos c1, if_pos c1]; exact ⟨_, _, rfl, rfl, rfl, h1⟩
  rw [if_neg c1, if_neg c1]
  by_cases c2 : a1 = nI 2
  · rw [if_pos c2, if_pos c2]; exact ⟨_, _, rfl, rfl, rfl, h1⟩
  rw [if_neg c2, if_neg c2]
  by_cases c3 : a1 = nI 3
  · rw [if_pos c3, if_pos c3]; exact ⟨_, _, rfl, rfl, rfl, h1⟩
  rw [if_neg c3, if_neg c3]
  by_cases c4 : a1 = nI 4
  · rw [if_pos c4, if_pos c4]; exact ⟨_, _, rfl, rfl, rfl, h1⟩
  rw [if_neg c4, if_neg c4]
  by_cases c5 : a1 = nI 5
  · rw [if_pos c5, if_pos c5]; exact ⟨_, _, rfl, rfl, rfl, h1⟩
  rw [if_neg c5, if_neg c5]
  by_cases c6 : a1 = nI 6
  · rw [if_pos c6, if_pos c6]; exact ⟨_, _, rfl, rfl, rfl, h1⟩
  rw [if_neg c6, if_neg c6]
  by_cases c7 : a1 = nI 7
  · rw [if_pos c7, if_pos c7]; exact ⟨_, _, rfl, rfl, rfl, h1⟩
  rw [if_neg c7, if_neg c7]
  by_cases c8 : a1 = nI 8
  · rw [if_pos c8, if_pos c8]; exact ⟨_, _, rfl, rfl, rfl, h1⟩
  rw [if_neg c8, if_neg c8]
  by_cases c9 : a1 = nI 9
  · rw [if_pos c9, if_pos c9]; exact ⟨_, _, rfl, rfl, rfl, h1⟩
  rw [if_neg c9, if_neg c9]
  exact ⟨_, _, rfl, rfl, rfl, h1⟩
theorem SP1_ok {N : Nat} : SP1 N Rel := by
  intro c FL M ML h a1
  have h1 := Rel_0 (v := fun _ => nI 0) h
  unfold fX6_end
  rw [nm_s]
  generalize va_up M 0 (fun _ => nI 0) = M1 at h1 ⊢
  obtain ⟨⟨t, L, t1, t2, t3, t4, t5⟩, h3, hq, hp⟩ := id h1
  have same : Rel (va_up c 0 (c 0)) FL M1 ML := Rel_mv (fun a _ _ => by
    by_cases e : a = 0
    · rw [e, va_up_self]
    · rw [va_up_ne _ _ e]) (fun _ _ => rfl) h1
  unfold fX5_end fX5_end_12 fX6_end_17
  rw [t2, t3]
  by_cases d : a1 < 0
  · rw [if_pos d, if_pos d]
    exact ⟨_, _, rfl, rfl, rfl, same⟩
  · rw [if_neg d, if_neg d]
    by_cases e : a1 ≤ nI L
    · obtain ⟨j, hj, rfl⟩ := nI_of d
      have e' := e
      rw [nI_leI hj (by omega)] at e'
      rw [if_pos e, if_pos e, nm_s, nm_s]
      refine ⟨_, _, rfl, rfl, rfl, Rel_tp (fun a q1 _ _ _ => by rw [va_up_ne _ _ q1]) ?_ ?_ (fun a ha => ?_) ⟨t, j, by omega, ?_, ?_, ?_, ?_⟩ h1⟩
      · dsimp only; rw [va_up_self, va_up_ne _ _ (by omega)]
      · dsimp only; rw [va_up_self, va_up_ne _ _ (by omega)]
      · dsimp only; rw [va_up_ne _ _ (by omega)]
      · dsimp only; rw [va_up_self, va_up_self]
      · dsimp only; rw [va_up_self]
      · rw [va_up_ne _ _ (by omega)]; exact t4
      · dsimp only; rw [va_up_ne _ _ (by omega)]; exact t5
    · rw [if_neg e, if_neg e]
      exact ⟨_, _, rfl, rfl, rfl, same⟩
end
section
/-! feed -/
theorem pb_c {X : Rc} {T : Nat → Int32} {t : Nat → Nat} {N L s : Nat} {w : Int32} {K : Rc → (Nat → Int32) → Int32 → Int32 → Option (Rc × (Nat → Int32))} (hL : L < 440) (hs : s < 2 ^ 31) (h1 : X 1 0 = nI L) : fX5_putBytes_3b N K X T w (nI s) = K (va_up X 1 (fun _ => nI (L + 1))) (upd T L (((w.toUInt32 >>> ((nI s).toUInt32 &&& Int32.toUInt32 31)).toInt32) &&& (nI 255))) w (nI s + (-8 : Int32)) := by
  unfold fX5_putBytes_3b
  rw [if_l0 hs, h1, if_nle (by omega) (by omega), gdi_nI hL (by omega), nI_clamp (by omega), nm_s, nI_add, nm_s, nm_s]
theorem pb_m {M : Rc} {ML : RcL} {N L s : Nat} {w : Int32} {K : Rc → RcL → Int32 → Int32 → Option Rc} (hL : L < 440) (hs : s < 2 ^ 31) (h1 : M 2 0 = nI L) : fX6_lays_3b N K M ML w (nI s) = K (va_up (va_up M 1 (upd (M 1) L (((w.toUInt32 >>> ((nI s).toUInt32 &&& Int32.toUInt32 31)).toInt32) &&& (nI 255)))) 2 (fun _ => nI (L + 1))) ML w (nI s + (-8 : Int32)) := by
  unfold fX6_lays_3b
  rw [if_l0 hs, h1, gdi_nI hL (by omega), nI_clamp (by omega), nm_s, va_up_ne _ _ (show (2 : Nat) ≠ 1 from by omega), h1, nI_add, nm_s, nm_s]
def byt (w : Int32) (s : Nat) : Nat := (((w.toUInt32 >>> ((nI s).toUInt32 &&& Int32.toUInt32 31)).toInt32).toBitVec.toNat) % 256
theorem byt_ok (w : Int32) (s : Nat) : (((w.toUInt32 >>> ((nI s).toUInt32 &&& Int32.toUInt32 31)).toInt32) &&& (nI 255)) = nI (byt w s) := pk_and _ 8 (by decide)
theorem byt_lt (w : Int32) (s : Nat) : byt w s < 256 := Nat.mod_lt _ (by omega)
theorem TP_up {T : Nat → Int32} {t : Nat → Nat} {L v : Nat} (h : TP T t) (hv : v < 256) : TP (upd T L (nI v)) (fun i => if i = L then v else t i) := by
  intro i hi
  show upd T L (nI v) i = nI (if i = L then v else t i) ∧ (if i = L then v else t i) < 256
  by_cases c : i = L
  · rw [upd_eq c, if_pos c]; exact ⟨rfl, hv⟩
  · rw [upd_ne c, if_neg c]; exact h i hi
/-- what stands on both tapes -/
def TT (X : Rc) (T : Nat → Int32) (M : Rc) (t : Nat → Nat) (L : Nat) : Prop := X 1 0 = nI L ∧ M 2 0 = nI L ∧ TP T t ∧ TP (M 1) t
theorem pb_loop {ML : RcL} {N : Nat} {w : Int32} : ∀ {d u v L s : Nat} {X : Rc} {T : Nat → Int32} {M : Rc} {t : Nat → Nat}, d < u → d < v → s + 8 = 8 * (d + 1) → L + d + 1 ≤ 440 → d ≤ 3 → TT X T M t L → ∃ X' T' M' t', itn (fX5_putBytes_3b N) (fun _ _ _ _ => none) (u + 1) X T w (nI s) = some (X', T') ∧ itn (fX6_lays_3b N) (fun _ _ _ _ => none) (v + 1) M ML w (nI s) = some M' ∧ TT X' T' M' t' (L + d + 1) ∧ (∀ a, a ≠ 1 → X' a = X a) ∧ ∀ a, a ≠ 1 → a ≠ 2 → M' a = M a
  | 0, u, v, L, s, X, T, M, t, hu, hv, e, hL, _, h => by
    obtain ⟨u', rfl⟩ : ∃ u', u = u' + 1 := ⟨u - 1, by omega⟩
    obtain ⟨v', rfl⟩ : ∃ v', v = v' + 1 := ⟨v - 1, by omega⟩
    have s0 : s = 0 := by omega
    subst s0
    refine ⟨va_up X 1 (fun _ => nI (L + 1)), upd T L (nI (byt w 0)), va_up (va_up M 1 (upd (M 1) L (nI (byt w 0)))) 2 (fun _ => nI (L + 1)), fun i => if i = L then byt w 0 else t i, ?_, ?_, ⟨?_, ?_, ?_, ?_⟩, fun a ha => by rw [va_up_ne _ _ ha], fun a h1 h2 => by rw [va_up_ne _ _ h2, va_up_ne _ _ h1]⟩
    · rw [itn_s, pb_c (t := t) (by omega) (by omega) h.1, byt_ok, itn_s]
      unfold fX5_putBytes_3b
      rw [if_pos (by decide)]
    · rw [itn_s, pb_m (by omega) (by omega) h.2.1, byt_ok, itn_s]
      unfold fX6_lays_3b
      rw [if_pos (by decide)]
    · rw [va_up_self]
    · rw [va_up_self]
    · exact TP_up h.2.2.1 (byt_lt w 0)
    · rw [va_up_ne _ _ (by omega), va_up_self]; exact TP_up h.2.2.2 (byt_lt w 0)
  | d + 1, u, v, L, s, X, T, M, t, hu, hv, e, hL, h3, h => by
    obtain ⟨u', rfl⟩ : ∃ u', u = u' + 1 := ⟨u - 1, by omega⟩
    obtain ⟨v', rfl⟩ : ∃ v', v = v' + 1 := ⟨v - 1, by omega⟩
    obtain ⟨X', T', M', t', r1, r2, r3, r4, r5⟩ := pb_loop (ML := ML) (N := N) (w := w) (d := d) (u := u') (v := v') (L := L + 1) (s := s - 8) (X := va_up X 1 (fun _ => nI (L + 1))) (T := upd T L (nI (byt w s))) (M := va_up (va_up M 1 (upd (M 1) L (nI (byt w s)))) 2 (fun _ => nI (L + 1))) (t := fun i => if i = L then byt w s else t i) (by omega) (by omega) (by omega) (by omega) (by omega) ⟨by rw [va_up_self], by rw [va_up_self], TP_up h.2.2.1 (byt_lt w s), by rw [va_up_ne _ _ (by omega), va_up_self]; exact TP_up h.2.2.2 (byt_lt w s)⟩
    have m8 : nI s + (-8 : Int32) = nI (s - 8) := by
      rcases (show s = 8 ∨ s = 16 ∨ s = 24 from by omega) with rfl | rfl | rfl <;> decide
    refine ⟨X', T', M', t', ?_, ?_, ?_, fun a ha => by rw [r4 a ha, va_up_ne _ _ ha], fun a h1 h2 => by rw [r5 a h1 h2, va_up_ne _ _ h2, va_up_ne _ _ h1]⟩
    · rw [itn_s, pb_c (t := t) (by omega) (by omega) h.1, byt_ok, m8]
      exact r1
    · rw [itn_s, pb_m (by omega) (by omega) h.2.1, byt_ok, m8]
      exact r2
    · rw [show L + (d + 1) + 1 = L + 1 + d + 1 from by omega]
      exact r3
theorem pb_one {ML : RcL} {N L : Nat} {w : Int32} {X : Rc} {T : Nat → Int32} {M : Rc} {t : Nat → Nat} (hN : 100 < N) (hL : L + 4 ≤ 440) (h : TT X T M t L) : ∃ X' T' M' t', fX5_putBytes N X T w = some (X', T') ∧ fX6_lays N M ML w = some M' ∧ TT X' T' M' t' (L + 4) ∧ (∀ a, a ≠ 1 → X' a = X a) ∧ ∀ a, a ≠ 1 → a ≠ 2 → M' a = M a := by
  obtain ⟨u, rfl⟩ : ∃ u, N = u + 1 := ⟨N - 1, by omega⟩
  obtain ⟨X', T', M', t', r1, r2, r3, r4, r5⟩ := pb_loop (ML := ML) (N := u + 1) (w := w) (d := 3) (u := u) (v := u) (L := L) (s := 24) (by omega) (by omega) (by omega) (by omega) (by omega) h
  refine ⟨X', T', M', t', ?_, ?_, r3, r4, r5⟩
  · unfold fX5_putBytes
    rw [nm_s]
    exact r1
  · unfold fX6_lays
    rw [nm_s]
    exact r2
theorem SP0_ok {N : Nat} (hN : 100 < N) : SP0 N Rel := by
  intro c FL M ML h a1 a2 a3 a4 a5
  have h1 := Rel_0 (v := fun _ => nI 0) h
  unfold fX6_feed
  rw [nm_s]
  generalize va_up M 0 (fun _ => nI 0) = M1 at h1 ⊢
  obtain ⟨t, L, t1, t2, t3, t4, t5⟩ := h1.1
  unfold fX5_feed
  rw [t2, t3, nI_add]
  by_cases d : L ≤ 420
  · obtain ⟨X1, T1, N1, u1, e1, f1, g1, o1, m1⟩ := pb_one (ML := ML) (w := a1) hN (by omega) (show TT (c 0) (c 16 0) M1 t L from ⟨t2, t3, t4, t5⟩)
    obtain ⟨X2, T2, N2, u2, e2, f2, g2, o2, m2⟩ := pb_one (ML := ML) (w := a2) hN (by omega) g1
    obtain ⟨X3, T3, N3, u3, e3, f3, g3, o3, m3⟩ := pb_one (ML := ML) (w := a3) hN (by omega) g2
    obtain ⟨X4, T4, N4, u4, e4, f4, g4, o4, m4⟩ := pb_one (ML := ML) (w := a4) hN (by omega) g3
    obtain ⟨X5, T5, N5, u5, e5, f5, g5, o5, m5⟩ := pb_one (ML := ML) (w := a5) hN (by omega) g4
    rw [if_le d (by omega), if_le (by omega) (by omega), e1, bnd_s]
    dsimp only
    rw [e2, bnd_s]
    dsimp only
    rw [e3, bnd_s]
    dsimp only
    rw [e4, bnd_s]
    dsimp only
    rw [e5, bnd_s, f1, bnd_s, f2, bnd_s, f3, bnd_s, f4, bnd_s, f5, bnd_s]
    dsimp only
    refine ⟨_, _, rfl, rfl, by dsimp only; rw [g5.1, g5.2.1], Rel_tp (fun a q1 _ _ q4 => ?_) ?_ ?_ (fun a ha => ?_) ⟨u5, L + 4 + 4 + 4 + 4 + 4, by omega, ?_, ?_, ?_, ?_⟩ h1⟩
    · rw [va_up_ne _ _ q4, va_up_ne _ _ q1]
    · rw [va_up_ne _ _ (by omega), va_up_self]
      exact (o5 9 (by omega)).trans ((o4 9 (by omega)).trans ((o3 9 (by omega)).trans ((o2 9 (by omega)).trans (o1 9 (by omega)))))
    · rw [va_up_ne _ _ (by omega), va_up_self]
      exact (o5 10 (by omega)).trans ((o4 10 (by omega)).trans ((o3 10 (by omega)).trans ((o2 10 (by omega)).trans (o1 10 (by omega)))))
    · exact (m5 a (by omega) (by omega)).trans ((m4 a (by omega) (by omega)).trans ((m3 a (by omega) (by omega)).trans ((m2 a (by omega) (by omega)).trans (m1 a (by omega) (by omega)))))
    · rw [va_up_ne _ _ (by omega), va_up_self]; exact g5.1
    · exact g5.2.1
    · rw [va_up_self]; exact g5.2.2.1
    · exact g5.2.2.2
  · rw [if_nle (by omega) (by omega), if_nle (by omega) (by omega)]
    refine ⟨_, _, rfl, rfl, rfl, Rel_tp (fun a q1 _ _ q4 => ?_) ?_ ?_ (fun _ _ => rfl) ⟨t, L, t1, ?_, t3, ?_, t5⟩ h1⟩
    · rw [va_up_ne _ _ q4, va_up_ne _ _ q1]
    · rw [va_up_ne _ _ (by omega), va_up_self]
    · rw [va_up_ne _ _ (by omega), va_up_self]
    · rw [va_up_ne _ _ (by omega), va_up_self]; exact t2
    · rw [va_up_self]; exact t4
end
section
/-! station, waits, loop, next -/
/-- what stands in every state -/
theorem Rel_base {c : Nat → Rc} {FL : RcL} {M : Rc} {ML : RcL} (h : Rel c FL M ML) : ∃ p, c 1 = embP p ∧ p 6 0 ≤ 6 ∧ p 7 0 ≤ 5 ∧ M 11 1 = nI (p 6 0) ∧ M 11 14 = nI (p 7 0) ∧ ((p 6 0 = 0 ∧ p 7 0 = 0 ∧ M 11 0 = nI 0) ∨ ∃ g x, Wk p g x c M) := by
  obtain ⟨_, _, _, p, p1, p2, h4⟩ := h
  rcases h4 with ⟨e1, e2, e3, e4⟩ | ⟨g, x, w⟩
  · exact ⟨p, p1, by omega, by omega, by rw [e4.2.1, e1.1], by rw [e4.2.2.1, e1.2.1], Or.inl ⟨e1.1, e1.2.1, e4.1⟩⟩
  · have n := w.1.n
    have q := w.1.q
    have S := w.2.2.2.1.2.2.2.1
    exact ⟨p, p1, n.2, q.2, S.1.1.2.1, S.1.1.2.2.1, Or.inr ⟨g, x, w⟩⟩
theorem s_kindAt {p x : Nx} (hp : PI p) (hx : LI p x) (hT : x 8 0 < 2 ^ 30) {k : Nat} (hk : k < p 6 0) : fX1_kindAt (embP p) (embL x) (nI k) = some (if x 1 k = x 2 k then -1 else nI (sKind p (x 7 0) (x 1 k - 1))) := by
  have hn := hp.n
  have a := hx.k hk
  have i := s_isIdle (x := x) (k := k) (by omega) (by omega) (by omega)
  unfold fX1_kindAt
  rw [i, bnd_s]
  by_cases c : x 1 k = x 2 k
  · rw [if_bT (decide_eq_true c), if_pos c]
  · rw [if_bF (decide_eq_false c), if_neg c, gdi_nI (by omega) (by omega), nI_clamp (by omega), embL_a (by omega), nI_sub' (by omega), s_kindOf hp hx (by omega), bnd_s]
theorem st_refuse {c : Nat → Rc} {FL : RcL} {M1 : Rc} {ML : RcL} (h : Rel c FL M1 ML) {cl : Option (Option Int32)} {mo : Option (Int32 × Rc)} (h1 : cl = some none) (h2 : mo = fX6_station_31 M1 ML) : ∃ (zx : Option Int32) (zm : Int32 × Rc), cl = some zx ∧ mo = some zm ∧ fX6_thrown zm.2 ML = some (stK zx) ∧ (∀ v, zx = some v → zm.1 = v) ∧ Rel c FL zm.2 ML := by
  refine ⟨none, (nI 0, va_up M1 0 (fun _ => nI 1)), h1, ?_, ?_, fun v hv => (by cases hv), Rel_0 h⟩
  · rw [h2]
    unfold fX6_station_31 fX6_refuse
    rw [nm_s, bnd_s]
  · unfold fX6_thrown
    dsimp only
    rw [va_up_self]
    rfl
theorem st_tell {c : Nat → Rc} {FL : RcL} {M1 : Rc} {ML : RcL} (h : Rel c FL M1 ML) (h0 : M1 0 0 = nI 0) {cl : Option (Option Int32)} {mo : Option (Int32 × Rc)} {v : Int32} (h1 : cl = some (some v)) (h2 : mo = some (v, M1)) : ∃ (zx : Option Int32) (zm : Int32 × Rc), cl = some zx ∧ mo = some zm ∧ fX6_thrown zm.2 ML = some (stK zx) ∧ (∀ v, zx = some v → zm.1 = v) ∧ Rel c FL zm.2 ML := by
  refine ⟨some v, (v, M1), h1, h2, ?_, fun w hw => (by cases hw; rfl), h⟩
  unfold fX6_thrown
  dsimp only
  rw [h0]
  rfl
theorem SP5_ok {N : Nat} : SP5 N Rel := by
  intro c FL M ML h a1 a2
  have h1 := Rel_0 (v := fun _ => nI 0) h
  have h0 : va_up M 0 (fun _ => nI 0) 0 0 = nI 0 := by rw [va_up_self]
  unfold fX6_station
  rw [nm_s]
  generalize va_up M 0 (fun _ => nI 0) = M1 at h1 h0 ⊢
  obtain ⟨p, p1, b6, b7, s1, s14, hw⟩ := Rel_base h1
  unfold fX5_station
  rw [p1, s1, embP_a]
  rcases in_q (x := a1) (q := p 6 0) (by omega) with ⟨k, hk, rfl, k0, ki⟩ | ⟨ki, k0⟩
  · rcases hw with z | ⟨g, x, w1, w2, w3, w4, w5, w6⟩
    · omega
    have S := w4.2.2.2.1
    have hn := w1.n
    have x8 := w4.2.2.1
    have hx := w4.1.1
    have D := S.2.2 k hk
    have xk := hx.k hk
    rw [if_neg k0, if_lt hk (by omega), ki, bnd_s, if_n0 (by omega) (by omega), w3]
    rcases in_ab a2 (a := 0) (b := 9) (by omega) (by omega) with ⟨j, _, j9, rfl, _, _, _, ji⟩ | ⟨ji, j0⟩
    · rw [ji, bnd_s, if_n0 (by omega) (by omega)]
      rcases (show j = 0 ∨ j = 1 ∨ j = 2 ∨ j = 3 ∨ j = 4 ∨ j = 5 ∨ j = 6 ∨ j = 7 ∨ j = 8 ∨ j = 9 from by omega) with rfl | rfl | rfl | rfl | rfl | rfl | rfl | rfl | rfl | rfl
      · rw [if_eq rfl, if_eq rfl, gdi_nI (by omega) (by omega), nI_clamp (by omega), embP_a, nI_add, gdi_nI (by omega) (by omega), nI_clamp (by omega), (S.1.2.1 k hk).1]
        exact st_tell h1 h0 rfl rfl
      · rw [if_neq (by omega) (by omega) (by omega), if_eq rfl, if_neq (by omega) (by omega) (by omega), if_eq rfl, gdi_nI (by omega) (by omega), nI_clamp (by omega), embP_a, nI_add, gdi_nI (by omega) (by omega), nI_clamp (by omega), (S.1.2.1 k hk).2]
        exact st_tell h1 h0 rfl rfl
      · rw [if_neq (by omega) (by omega) (by omega), if_neq (by omega) (by omega) (by omega), if_eq rfl, if_neq (by omega) (by omega) (by omega), if_neq (by omega) (by omega) (by omega), if_eq rfl, s_state w1 hx (by omega) hk, bnd_s, m_doing w1 hx (by omega) hk S, bnd_s]
        exact st_tell h1 h0 rfl rfl
      · rw [if_neq (by omega) (by omega) (by omega), if_neq (by omega) (by omega) (by omega), if_neq (by omega) (by omega) (by omega), if_eq rfl, if_neq (by omega) (by omega) (by omega), if_neq (by omega) (by omega) (by omega), if_neq (by omega) (by omega) (by omega), if_eq rfl, s_kindAt w1 hx (by omega) hk, bnd_s, m_its (c := 0) (by omega), bnd_s, Nat.add_zero, D.1]
        exact st_tell h1 h0 rfl rfl
      · rw [if_neq (by omega) (by omega) (by omega), if_neq (by omega) (by omega) (by omega), if_neq (by omega) (by omega) (by omega), if_neq (by omega) (by omega) (by omega), if_eq rfl, if_neq (by omega) (by omega) (by omega), if_neq (by omega) (by omega) (by omega), if_neq (by omega) (by omega) (by omega), if_neq (by omega) (by omega) (by omega), if_eq rfl, s_wait w1 hx (by omega) hk, bnd_s, m_wait w1 hk D, bnd_s]
        exact st_tell h1 h0 rfl rfl
      · rw [if_neq (by omega) (by omega) (by omega), if_neq (by omega) (by omega) (by omega), if_neq (by omega) (by omega) (by omega), if_neq (by omega) (by omega) (by omega), if_neq (by omega) (by omega) (by omega), if_eq rfl, if_neq (by omega) (by omega) (by omega), if_neq (by omega) (by omega) (by omega), if_neq (by omega) (by omega) (by omega), if_neq (by omega) (by omega) (by omega), if_neq (by omega) (by omega) (by omega), if_eq rfl, s_isIdle (by omega) (by omega) (by omega), bnd_s, m_idle w1 hk D, bnd_s]
        by_cases e : x 1 k = x 2 k
        · rw [if_bT (decide_eq_true e), if_bT (decide_eq_true e)]
          exact st_tell h1 h0 rfl rfl
        · rw [if_bF (decide_eq_false e), if_bF (decide_eq_false e), gdi_nI (by omega) (by omega), nI_clamp (by omega), embL_a (by omega), m_its (c := 3) (by omega), bnd_s, (D.2.2.1 e).2.1]
          exact st_tell h1 h0 rfl rfl
      · have q := w4.2.2.2.2 k 0 hk (by omega)
        rw [if_neq (by omega) (by omega) (by omega), if_neq (by omega) (by omega) (by omega), if_neq (by omega) (by omega) (by omega), if_neq (by omega) (by omega) (by omega), if_neq (by omega) (by omega) (by omega), if_neq (by omega) (by omega) (by omega), if_eq rfl, if_neq (by omega) (by omega) (by omega), if_neq (by omega) (by omega) (by omega), if_neq (by omega) (by omega) (by omega), if_neq (by omega) (by omega) (by omega), if_neq (by omega) (by omega) (by omega), if_neq (by omega) (by omega) (by omega), pk_mul, nI_add, nI_sub' (by omega), nI_add, nI_sub' (by omega), gdi_nI (by omega) (by omega), nI_clamp (by omega), embL_a (by omega), m_its (by omega), bnd_s, show 53 + 9 * k + (5 + 6 - 6) = 53 + 9 * k + 5 + 0 from by omega, q, show k * 4 + 6 - 6 = k * 4 + 0 from by omega]
        exact st_tell h1 h0 rfl rfl
      · have q := w4.2.2.2.2 k 1 hk (by omega)
        rw [if_neq (by omega) (by omega) (by omega), if_neq (by omega) (by omega) (by omega), if_neq (by omega) (by omega) (by omega), if_neq (by omega) (by omega) (by omega), if_neq (by omega) (by omega) (by omega), if_neq (by omega) (by omega) (by omega), if_neq (by omega) (by omega) (by omega), if_eq rfl, if_neq (by omega) (by omega) (by omega), if_neq (by omega) (by omega) (by omega), if_neq (by omega) (by omega) (by omega), if_neq (by omega) (by omega) (by omega), if_neq (by omega) (by omega) (by omega), if_neq (by omega) (by omega) (by omega), pk_mul, nI_add, nI_sub' (by omega), nI_add, nI_sub' (by omega), gdi_nI (by omega) (by omega), nI_clamp (by omega), embL_a (by omega), m_its (by omega), bnd_s, show 53 + 9 * k + (5 + 7 - 6) = 53 + 9 * k + 5 + 1 from by omega, q, show k * 4 + 7 - 6 = k * 4 + 1 from by omega]
        exact st_tell h1 h0 rfl rfl
      · have q := w4.2.2.2.2 k 2 hk (by omega)
        rw [if_neq (by omega) (by omega) (by omega), if_neq (by omega) (by omega) (by omega), if_neq (by omega) (by omega) (by omega), if_neq (by omega) (by omega) (by omega), if_neq (by omega) (by omega) (by omega), if_neq (by omega) (by omega) (by omega), if_neq (by omega) (by omega) (by omega), if_neq (by omega) (by omega) (by omega), if_eq rfl, if_neq (by omega) (by omega) (by omega), if_neq (by omega) (by omega) (by omega), if_neq (by omega) (by omega) (by omega), if_neq (by omega) (by omega) (by omega), if_neq (by omega) (by omega) (by omega), if_neq (by omega) (by omega) (by omega), pk_mul, nI_add, nI_sub' (by omega), nI_add, nI_sub' (by omega), gdi_nI (by omega) (by omega), nI_clamp (by omega), embL_a (by omega), m_its (by omega), bnd_s, show 53 + 9 * k + (5 + 8 - 6) = 53 + 9 * k + 5 + 2 from by omega, q, show k * 4 + 8 - 6 = k * 4 + 2 from by omega]
        exact st_tell h1 h0 rfl rfl
      · have q := w4.2.2.2.2 k 3 hk (by omega)
        rw [if_neq (by omega) (by omega) (by omega), if_neq (by omega) (by omega) (by omega), if_neq (by omega) (by omega) (by omega), if_neq (by omega) (by omega) (by omega), if_neq (by omega) (by omega) (by omega), if_neq (by omega) (by omega) (by omega), if_neq (by omega) (by omega) (by omega), if_neq (by omega) (by omega) (by omega), if_neq (by omega) (by omega) (by omega), if_eq rfl, if_neq (by omega) (by omega) (by omega), if_neq (by omega) (by omega) (by omega), if_neq (by omega) (by omega) (by omega), if_neq (by omega) (by omega) (by omega), if_neq (by omega) (by omega) (by omega), if_neq (by omega) (by omega) (by omega), pk_mul, nI_add, nI_sub' (by omega), nI_add, nI_sub' (by omega), gdi_nI (by omega) (by omega), nI_clamp (by omega), embL_a (by omega), m_its (by omega), bnd_s, show 53 + 9 * k + (5 + 9 - 6) = 53 + 9 * k + 5 + 3 from by omega, q, show k * 4 + 9 - 6 = k * 4 + 3 from by omega]
        exact st_tell h1 h0 rfl rfl
    · have hne : ∀ j, j < 10 → ¬ a2 = nI j := by
        intro j hj z
        subst z
        rcases j0 with j0 | j0
        · exact nI_pos (by omega) j0
        · exact j0.2.2 (nI_le (by omega) (by omega))
      rw [ji, bnd_s, if_e0 rfl, if_neg (hne 0 (by omega)), if_neg (hne 1 (by omega)), if_neg (hne 2 (by omega)), if_neg (hne 3 (by omega)), if_neg (hne 4 (by omega)), if_neg (hne 5 (by omega)), if_neg (hne 6 (by omega)), if_neg (hne 7 (by omega)), if_neg (hne 8 (by omega)), if_neg (hne 9 (by omega))]
      exact st_refuse h1 rfl rfl
  · rw [ki, bnd_s, if_e0 rfl]
    refine st_refuse h1 ?_ rfl
    rcases k0 with k0 | k0
    · rw [if_pos k0]
    · rw [if_neg k0.1, if_neg k0.2.2]
theorem SP6_ok {N : Nat} : SP6 N Rel := by
  intro c FL M ML h a1 a2
  have h1 := Rel_0 (v := fun _ => nI 0) h
  unfold fX6_waits_
  rw [nm_s]
  generalize va_up M 0 (fun _ => nI 0) = M1 at h1 ⊢
  obtain ⟨p, p1, b6, b7, s1, s14, hw⟩ := Rel_base h1
  unfold fX5_waits fX5_waits_31 fX6_waits__60
  rw [p1, s1, embP_a]
  rcases in_q (x := a1) (q := p 6 0) (by omega) with ⟨k, hk, rfl, k0, ki⟩ | ⟨ki, k0⟩
  · rcases hw with z | ⟨g, x, w1, w2, w3, w4, w5, w6⟩
    · omega
    have S := w4.2.2.2.1
    have hn := w1.n
    have x8 := w4.2.2.1
    have hx := w4.1.1
    have D := S.2.2 k hk
    have xk := hx.k hk
    have w20 := sWait_20 w1 hx hk
    rw [if_neg k0, if_nle (by omega) (by omega), ki, bnd_s, if_n0 (by omega) (by omega), w3, s_wait w1 hx (by omega) hk, bnd_s, m_wait w1 hk D, bnd_s]
    rcases in_q (x := a2) (q := sWait x k) (by omega) with ⟨i, hi, rfl, i0, ii⟩ | ⟨ii, i0⟩
    · rw [if_neg i0, if_lt hi (by omega), ii, bnd_s, if_n0 (by omega) (by omega), gdi_nI (by omega) (by omega), nI_clamp (by omega), embL_a (by omega), nI_add, s_kindOf w1 hx (by omega), bnd_s, pk_mul, pk_mul, nI_add, nI_add, nI_add, gdi_nI (by omega) (by omega), nI_clamp (by omega), (D.2.2.2.2 i hi).1]
      exact ⟨_, _, rfl, rfl, rfl, h1⟩
    · rw [ii, bnd_s, if_e0 rfl]
      rcases i0 with i0 | i0
      · rw [if_pos i0]; exact ⟨_, _, rfl, rfl, rfl, h1⟩
      · rw [if_neg i0.1, if_neg i0.2.2]; exact ⟨_, _, rfl, rfl, rfl, h1⟩
  · rw [ki, bnd_s, if_e0 rfl]
    rcases k0 with k0 | k0
    · rw [if_pos k0]; exact ⟨_, _, rfl, rfl, rfl, h1⟩
    · rw [if_neg k0.1, if_pos k0.2.1]; exact ⟨_, _, rfl, rfl, rfl, h1⟩
theorem SP7_ok {N : Nat} : SP7 N Rel := by
  intro c FL M ML h a1 a2
  have h1 := Rel_0 (v := fun _ => nI 0) h
  unfold fX6_loop
  rw [nm_s]
  generalize va_up M 0 (fun _ => nI 0) = M1 at h1 ⊢
  obtain ⟨p, p1, b6, b7, s1, s14, hw⟩ := Rel_base h1
  unfold fX5_loop fX6_loop_38
  rw [p1]
  rcases both_lp (ML := ML) (X := c 0) (x := a1) b7 s14 with ⟨l, hl, rfl, e1, e2⟩ | ⟨e1, e2⟩
  · rcases hw with z | ⟨g, x, w1, w2, w3, w4, w5, w6⟩
    · omega
    have S := w4.2.2.2.1
    have x8 := w4.2.2.1
    have hx := w4.1.1
    have Sl := S.1.2.2.1 l hl
    have Dl := S.2.1.2 l hl
    rw [e1, e2, bnd_s, bnd_s, if_n0 (by omega) (by omega), if_n0 (by omega) (by omega), w3]
    rcases in_ab a2 (a := 0) (b := 3) (by omega) (by omega) with ⟨j, _, j9, rfl, _, _, _, ji⟩ | ⟨ji, j0⟩
    · rw [ji, bnd_s, if_n0 (by omega) (by omega), pk_mul, nI_add, nI_add]
      rcases (show j = 0 ∨ j = 1 ∨ j = 2 ∨ j = 3 from by omega) with rfl | rfl | rfl | rfl
      · rw [if_eq rfl, gdi_nI (by omega) (by omega), nI_clamp (by omega), embP_a, gdi_nI (by omega) (by omega), nI_clamp (by omega), Nat.add_zero, Sl.1]
        exact ⟨_, _, rfl, rfl, rfl, h1⟩
      · rw [if_neq (by omega) (by omega) (by omega), if_eq rfl, gdi_nI (by omega) (by omega), nI_clamp (by omega), embP_a, gdi_nI (by omega) (by omega), nI_clamp (by omega), Sl.2.1]
        exact ⟨_, _, rfl, rfl, rfl, h1⟩
      · rw [if_neq (by omega) (by omega) (by omega), if_neq (by omega) (by omega) (by omega), if_eq rfl, gdi_nI (by omega) (by omega), nI_clamp (by omega), embL_a (by omega), gdi_nI (by omega) (by omega), nI_clamp (by omega), Sl.2.2]
        exact ⟨_, _, rfl, rfl, rfl, h1⟩
      · rw [if_neq (by omega) (by omega) (by omega), if_neq (by omega) (by omega) (by omega), if_neq (by omega) (by omega) (by omega), if_eq rfl, s_free w1 hx (by omega) hl, bnd_s, gdi_nI (by omega) (by omega), nI_clamp (by omega), Dl]
        exact ⟨_, _, rfl, rfl, rfl, h1⟩
    · have hne : ∀ j, j < 4 → ¬ a2 = nI j := by
        intro j hj z
        subst z
        rcases j0 with j0 | j0
        · exact nI_pos (by omega) j0
        · exact j0.2.2 (nI_le (by omega) (by omega))
      rw [ji, bnd_s, if_e0 rfl, if_neg (hne 0 (by omega)), if_neg (hne 1 (by omega)), if_neg (hne 2 (by omega)), if_neg (hne 3 (by omega))]
      exact ⟨_, _, rfl, rfl, rfl, h1⟩
  · rw [e1, e2, bnd_s, bnd_s, if_e0 rfl, if_e0 rfl]
    exact ⟨_, _, rfl, rfl, rfl, h1⟩
theorem SP8_ok {N : Nat} (hN : 100 < N) : SP8 N Rel := by
  intro c FL M ML h a1
  have h1 := Rel_0 (v := fun _ => nI 0) h
  unfold fX6_next
  rw [nm_s]
  generalize va_up M 0 (fun _ => nI 0) = M1 at h1 ⊢
  obtain ⟨p, p1, b6, b7, s1, s14, hw⟩ := Rel_base h1
  unfold fX5_next fX5_next_18 fX6_next_42
  rw [p1]
  rcases hw with z | ⟨g, x, w1, w2, w3, w4, w5, w6⟩
  · rw [empty_T z.1, there_F z.2.2, bnd_s, bnd_s, if_n0 (by omega) (by omega), if_e0 rfl]
    exact ⟨_, _, rfl, rfl, rfl, h1⟩
  · have S := w4.2.2.2.1
    have x8 := w4.2.2.1
    have hx := w4.1.1
    have xk := hx.k (k := 0) (by have := w1.n; omega)
    rw [empty_F w1, there_T S.1.1.1, bnd_s, bnd_s, if_e0 rfl, if_n0 (by omega) (by omega), w3]
    rcases in_ab a1 (a := 0) (b := 999) (by omega) (by omega) with ⟨j, _, j9, rfl, q1, q2, _, ji⟩ | ⟨ji, j0⟩
    · rw [if_neg (show ¬ nI j < 0 from q1), if_pos q2, ji, bnd_s, if_n0 (by omega) (by omega), embL_a (by omega), nI_add, s_kindOf w1 hx (by omega), bnd_s, S.2.1.1.2.2.1, nI_add, m_kind w2 S.1 hx.f (by omega) (by omega), bnd_s]
      exact ⟨_, _, rfl, rfl, rfl, h1⟩
    · rw [ji, bnd_s, if_e0 rfl]
      rcases j0 with j0 | j0
      · rw [if_pos (show a1 < 0 from j0)]; exact ⟨_, _, rfl, rfl, rfl, h1⟩
      · rw [if_neg (show ¬ a1 < 0 from j0.1), if_neg j0.2.2]; exact ⟨_, _, rfl, rfl, rfl, h1⟩
end
section
/-! rings: needs, bound -/
theorem tmS_s {p : Nx} {a d : Nat} : tmS' p a (d + 1) = tmS' p a d + p 0 (a + d) := rfl
theorem tmS_le {p : Nx} (hp : PI p) {a : Nat} : ∀ {d : Nat}, a + d ≤ p 6 0 → tmS' p a d ≤ 60 * d ∧ d ≤ tmS' p a d
  | 0, _ => ⟨Nat.le_refl _, Nat.le_refl _⟩
  | d + 1, h => by
    have i := tmS_le hp (a := a) (d := d) (by omega)
    have k := hp.k (k := a + d) (by omega)
    rw [tmS_s]
    omega
/-- minutes and cards of rings by numbers: LOOPS, behind them STATIONS -/
def rgA (p : Nx) (r : Nat) : Nat := if r < p 7 0 then p 2 r else r - p 7 0
def rgD (p : Nx) (r : Nat) : Nat := if r < p 7 0 then p 3 r - p 2 r else 0
def rgM (p : Nx) (r : Nat) : Nat := tmS' p (rgA p r) (rgD p r + 1)
def rgC (p : Nx) (C : Nat → Nat) (r : Nat) : Nat := if r < p 7 0 then C r else 1
theorem rg_b {p : Nx} (hp : PI p) {r : Nat} (hr : r < p 7 0 + p 6 0) : rgA p r + rgD p r < p 6 0 ∧ 1 ≤ rgM p r ∧ rgM p r ≤ 360 := by
  have hn := hp.n
  have b : rgA p r + rgD p r < p 6 0 := by
    unfold rgA rgD
    by_cases c : r < p 7 0
    · have := hp.l c
      rw [if_pos c, if_pos c]
      omega
    · rw [if_neg c, if_neg c]
      omega
  have t := tmS_le hp (a := rgA p r) (d := rgD p r + 1) (by omega)
  unfold rgM
  omega
theorem rg_Rng {p : Nx} (hp : PI p) {C : Nat → Nat} {r : Nat} (hr : r < p 7 0 + p 6 0) : Rng p C (rgA p r) (rgD p r) (rgC p C r) := by
  refine ⟨(rg_b hp hr).1, ?_⟩
  unfold rgA rgD rgC
  by_cases c : r < p 7 0
  · have := hp.l c
    rw [if_pos c, if_pos c, if_pos c]
    exact Or.inr ⟨r, c, rfl, by omega, rfl⟩
  · rw [if_neg c, if_neg c, if_neg c]
    exact Or.inl ⟨rfl, rfl⟩
theorem c_rm41 {p : Nx} (hp : PI p) {X : Rc} {N l : Nat} (hl : l < p 7 0) : ∀ {d e u : Nat}, d < u → e + d = p 3 l + 1 - p 2 l → itn (fX5_ringMinutes_41b N) (fun _ _ _ _ _ => none) u X (embP p) (nI l) (nI (tmS' p (p 2 l) e)) (nI (p 2 l + e)) = some (nI (tmS' p (p 2 l) (p 3 l + 1 - p 2 l)))
  | _, _, 0, h, _ => by omega
  | 0, e, u + 1, _, h => by
    have hn := hp.n
    have hq := hp.q
    have h3 := hp.l hl
    rw [itn_s]
    unfold fX5_ringMinutes_41b
    rw [gdi_nI (by omega) (by omega), nI_clamp (by omega), embP_a, if_lt (by omega) (by omega), show e = p 3 l + 1 - p 2 l from by omega]
  | d + 1, e, u + 1, hu, h => by
    have hn := hp.n
    have hq := hp.q
    have h3 := hp.l hl
    have i := c_rm41 hp (X := X) (N := N) hl (d := d) (e := e + 1) (u := u) (by omega) (by omega)
    rw [itn_s]
    generalize itn (fX5_ringMinutes_41b N) (fun _ _ _ _ _ => none) u = K at i ⊢
    unfold fX5_ringMinutes_41b
    rw [gdi_nI (by omega) (by omega), nI_clamp (by omega), embP_a, if_nlt (by omega) (by omega), gdi_nI (by omega) (by omega), nI_clamp (by omega), embP_a, nI_add, nm_s, nI_add, nm_s]
    exact i
theorem c_rm {p : Nx} (hp : PI p) {X : Rc} {N r : Nat} (hN : 100 < N) (hr : r < p 7 0 + p 6 0) : fX5_ringMinutes N X (embP p) (nI r) = some (nI (rgM p r)) := by
  have hn := hp.n
  have hq := hp.q
  unfold fX5_ringMinutes rgM rgA rgD
  by_cases c : r < p 7 0
  · have h3 := hp.l c
    have i := c_rm41 hp (X := X) (N := N) c (d := p 3 r + 1 - p 2 r) (e := 0) (u := N) (by omega) (by omega)
    rw [Nat.add_zero] at i
    rw [embP_a, if_lt c (by omega), nm_s, gdi_nI (by omega) (by omega), nI_clamp (by omega), embP_a, nm_s, if_pos c, if_pos c, show p 3 r - p 2 r + 1 = p 3 r + 1 - p 2 r from by omega]
    unfold fX5_ringMinutes_41
    exact i
  · rw [embP_a, if_nlt (by omega) (by omega), nI_sub' (by omega), gdi_nI (by omega) (by omega), nI_clamp (by omega), embP_a, if_neg c, if_neg c]
    show _ = some (nI (0 + p 0 (r - p 7 0 + 0)))
    rw [Nat.zero_add, Nat.add_zero]
theorem m_rg14 {p g : Nx} {C : Nat → Nat} {f : Nat} (hp : PI p) {M : Rc} {ML : RcL} {N l : Nat} (hS : Stat p g C f (M 11)) (hl : l < p 7 0) : ∀ {d e u : Nat}, d < u → e + d = p 3 l + 1 - p 2 l → itn (fX6_ringOf_14b N) (fun _ _ _ _ _ => none) u M ML (nI l) (nI (tmS' p (p 2 l) e)) (nI (p 2 l + e)) = some (nI (tmS' p (p 2 l) (p 3 l + 1 - p 2 l)))
  | _, _, 0, h, _ => by omega
  | 0, e, u + 1, _, h => by
    have hn := hp.n
    have hq := hp.q
    have h3 := hp.l hl
    have s := hS.2.2.1 l hl
    rw [itn_s]
    unfold fX6_ringOf_14b
    rw [pk_mul, nI_add, nI_add, gdi_nI (by omega) (by omega), nI_clamp (by omega), s.2.1, if_lt (by omega) (by omega), show e = p 3 l + 1 - p 2 l from by omega]
  | d + 1, e, u + 1, hu, h => by
    have hn := hp.n
    have hq := hp.q
    have h3 := hp.l hl
    have s := hS.2.2.1 l hl
    have k := hS.2.1 (p 2 l + e) (by omega)
    have i := m_rg14 hp (ML := ML) (N := N) hS hl (d := d) (e := e + 1) (u := u) (by omega) (by omega)
    rw [itn_s]
    generalize itn (fX6_ringOf_14b N) (fun _ _ _ _ _ => none) u = K at i ⊢
    unfold fX6_ringOf_14b
    rw [pk_mul, nI_add, nI_add, gdi_nI (by omega) (by omega), nI_clamp (by omega), s.2.1, if_nlt (by omega) (by omega), nI_add, gdi_nI (by omega) (by omega), nI_clamp (by omega), k.1, nI_add, nm_s, nI_add, nm_s]
    exact i
theorem m_rg {p g : Nx} {C : Nat → Nat} {f : Nat} (hp : PI p) {M : Rc} {ML : RcL} {N l : Nat} (hN : 100 < N) (hS : Stat p g C f (M 11)) (hl : l < p 7 0) : fX6_ringOf N M ML (nI l) = some (nI (rgM p l)) := by
  have hn := hp.n
  have hq := hp.q
  have h3 := hp.l hl
  have s := hS.2.2.1 l hl
  have i := m_rg14 hp (ML := ML) (N := N) hS hl (d := p 3 l + 1 - p 2 l) (e := 0) (u := N) (by omega) (by omega)
  rw [Nat.add_zero] at i
  unfold fX6_ringOf rgM rgA rgD
  rw [nm_s, pk_mul, nI_add, gdi_nI (by omega) (by omega), nI_clamp (by omega), s.1, nm_s, if_pos hl, if_pos hl, show p 3 l - p 2 l + 1 = p 3 l + 1 - p 2 l from by omega]
  unfold fX6_ringOf_14
  exact i
theorem prom {x y : Int32} : (∃ n m, 1 ≤ n ∧ n ≤ 99 ∧ 1 ≤ m ∧ m ≤ 99 ∧ x = nI n ∧ y = nI m ∧ fX5_isPromise x y = some (nI 1) ∧ fX6_isIn x (nI 1) (nI 99) = some (nI 1) ∧ fX6_isIn y (nI 1) (nI 99) = some (nI 1)) ∨ (fX5_isPromise x y = some (nI 0) ∧ (fX6_isIn x (nI 1) (nI 99) = some (nI 0) ∨ (fX6_isIn x (nI 1) (nI 99) = some (nI 1) ∧ fX6_isIn y (nI 1) (nI 99) = some (nI 0)))) := by
  unfold fX5_isPromise fX5_isPromise_26
  rcases in_ab x (a := 1) (b := 99) (by omega) (by omega) with ⟨n, n1, n2, rfl, q1, q2, q3, q4⟩ | ⟨q4, q1⟩
  · rw [if_neg q1, if_neg q3]
    rcases in_ab y (a := 1) (b := 99) (by omega) (by omega) with ⟨m, m1, m2, rfl, r1, r2, r3, r4⟩ | ⟨r4, r1⟩
    · rw [if_neg r1, if_neg r3]
      exact Or.inl ⟨n, m, n1, n2, m1, m2, rfl, rfl, rfl, q4, r4⟩
    · refine Or.inr ⟨?_, Or.inr ⟨q4, r4⟩⟩
      rcases r1 with r1 | r1
      · rw [if_pos r1]
      · rw [if_neg r1.1, if_pos r1.2.1]
  · refine Or.inr ⟨?_, Or.inl q4⟩
    rcases q1 with q1 | q1
    · rw [if_pos q1]
    · rw [if_neg q1.1, if_pos q1.2.1]
theorem m_need {p g : Nx} {C : Nat → Nat} {f : Nat} (hp : PI p) {M : Rc} {ML : RcL} {N l n m : Nat} (hN : 100 < N) (hS : Stat p g C f (M 11)) (hl : l < p 7 0) (hn : n ≤ 99) (hm : 1 ≤ m ∧ m ≤ 99) : ∀ {d k u : Nat}, d < u → 1 ≤ k → k + d = (n * rgM p l + m - 1) / m → itn (fX6_needs_38b N) (fun _ _ _ _ _ _ => none) u M ML (nI l) (nI n) (nI m) (nI k) = some (nI ((n * rgM p l + m - 1) / m), M)
  | _, _, 0, h, _, _ => by omega
  | d, k, u + 1, hu, hk, e => by
    have rb := rg_b hp (r := l) (by have := hp.q; omega)
    have b1 : n * rgM p l ≤ 99 * 360 := Nat.mul_le_mul hn rb.2.2
    have dv := Nat.div_add_mod (n * rgM p l + m - 1) m
    have ml := Nat.mod_lt (n * rgM p l + m - 1) (show m > 0 from by omega)
    have dl : (n * rgM p l + m - 1) / m ≤ n * rgM p l + m - 1 := Nat.div_le_self _ _
    have rg := m_rg hp (ML := ML) (N := N) hN hS hl
    have km : k * m ≤ ((n * rgM p l + m - 1) / m) * m := Nat.mul_le_mul_right _ (by omega)
    rw [Nat.mul_comm m] at dv
    cases d with
    | zero =>
      rw [itn_s]
      unfold fX6_needs_38b
      have ek : k = (n * rgM p l + m - 1) / m := by omega
      rw [rg, bnd_s, pk_mul, pk_mul, if_le (by rw [ek]; omega) (by omega), ek]
    | succ d =>
      have i := m_need hp (ML := ML) (N := N) hN hS hl hn hm (d := d) (k := k + 1) (u := u) (by omega) (by omega) (by omega)
      have km2 : (k + 1) * m ≤ ((n * rgM p l + m - 1) / m) * m := Nat.mul_le_mul_right _ (by omega)
      rw [Nat.add_mul, Nat.one_mul] at km2
      rw [itn_s]
      generalize itn (fX6_needs_38b N) (fun _ _ _ _ _ _ => none) u = K at i ⊢
      unfold fX6_needs_38b
      rw [rg, bnd_s, pk_mul, pk_mul, if_nle (by omega) (by omega), nI_add, nm_s, i]
theorem SP12_ok {N : Nat} (hN : 100000 < N) : SP12 N Rel := by
  intro c FL M ML h a1 a2 a3
  have h1 := Rel_0 (v := fun _ => nI 0) h
  unfold fX6_needs
  rw [nm_s]
  generalize va_up M 0 (fun _ => nI 0) = M1 at h1 ⊢
  obtain ⟨p, p1, b6, b7, s1, s14, hw⟩ := Rel_base h1
  unfold fX5_needs fX5_needs_16 fX6_needs_33
  rw [p1]
  rcases both_lp (ML := ML) (X := c 0) (x := a1) b7 s14 with ⟨l, hl, rfl, e1, e2⟩ | ⟨e1, e2⟩
  · rcases hw with z | ⟨g, x, w1, w2, w3, w4, w5, w6⟩
    · omega
    have S := w4.2.2.2.1
    rw [e1, e2, bnd_s, bnd_s, if_n0 (by omega) (by omega), if_n0 (by omega) (by omega)]
    rcases prom (x := a2) (y := a3) with ⟨n, m, n1, n2, m1, m2, rfl, rfl, q1, q2, q3⟩ | ⟨q1, q2⟩
    · have rb := rg_b w1 (r := l) (by omega)
      have b1 : n * rgM p l ≤ 99 * 360 := Nat.mul_le_mul n2 rb.2.2
      have b0 : 1 ≤ n * rgM p l := Nat.mul_pos n1 rb.2.1
      have dl : (n * rgM p l + m - 1) / m ≤ n * rgM p l + m - 1 := Nat.div_le_self _ _
      have d1 : 1 ≤ (n * rgM p l + m - 1) / m := (Nat.le_div_iff_mul_le (by omega)).mpr (by omega)
      have nd := m_need w1 (ML := ML) (N := N) (by omega) S.1 hl n2 ⟨m1, m2⟩ (d := (n * rgM p l + m - 1) / m - 1) (k := 1) (u := N) (by omega) (by omega) (by omega)
      rw [q1, q2, q3, bnd_s, bnd_s, bnd_s, if_n0 (by omega) (by omega), if_n0 (by omega) (by omega), if_n0 (by omega) (by omega), nm_s, c_rm w1 (by omega) (by omega), bnd_s, gdz_nI (by omega) (by omega), pk_mul, nI_add, nI_sub' (by omega), nI_div (by omega) (by omega) (by omega)]
      unfold fX6_needs_38
      rw [nd]
      exact ⟨_, _, rfl, rfl, rfl, h1⟩
    · rw [q1, bnd_s, if_e0 rfl]
      rcases q2 with q2 | ⟨q2, q3⟩
      · rw [q2, bnd_s, if_e0 rfl]; exact ⟨_, _, rfl, rfl, rfl, h1⟩
      · rw [q2, q3, bnd_s, bnd_s, if_n0 (by omega) (by omega), if_e0 rfl]; exact ⟨_, _, rfl, rfl, rfl, h1⟩
  · rw [e1, e2, bnd_s, bnd_s, if_e0 rfl, if_e0 rfl]
    exact ⟨_, _, rfl, rfl, rfl, h1⟩
/-! bound -/
theorem c_rcA {p x : Nx} (hp : PI p) {X : Rc} {r : Nat} (hr : r < p 7 0 + p 6 0) : fX5_ringCardsa X (embP p) (embL x) (nI r) = some (nI (rgC p (x 4) r)) := by
  have hn := hp.n
  have hq := hp.q
  unfold fX5_ringCardsa rgC
  rw [embP_a]
  by_cases c : r < p 7 0
  · rw [if_nle (by omega) (by omega), gdi_nI (by omega) (by omega), nI_clamp (by omega), embL_a (by omega), if_pos c]
  · rw [if_le (by omega) (by omega), if_neg c]
theorem rgC_b {p x : Nx} (hx : LI p x) {r : Nat} : 1 ≤ rgC p (x 4) r ∧ rgC p (x 4) r ≤ 20 := by
  unfold rgC
  by_cases c : r < p 7 0
  · have := hx.l c
    rw [if_pos c]; omega
  · rw [if_neg c]; omega
/-- the tight ring, as both go through them -/
def tgt (p : Nx) (C : Nat → Nat) : Nat → Nat → Nat → Nat
  | _, 0, b => b
  | r, d + 1, b => tgt p C (r + 1) d (if rgM p r * rgC p C b ≤ rgM p b * rgC p C r then b else r)
theorem tgt_lt {p : Nx} {C : Nat → Nat} {n : Nat} : ∀ {d r b : Nat}, r + d = n → b < n → tgt p C r d b < n
  | 0, r, b, _, h => h
  | d + 1, r, b, e, h => by
    rw [tgt]
    apply tgt_lt (by omega)
    split <;> omega
theorem mul_b {a b : Nat} (h1 : a ≤ 360) (h2 : b ≤ 20) : a * b ≤ 7200 := Nat.mul_le_mul h1 h2
theorem c_tg4 {p x : Nx} (hp : PI p) (hx : LI p x) {X : Rc} {N : Nat} (hN : 100 < N) : ∀ {d r b u : Nat}, d < u → r + d = p 7 0 + p 6 0 → b < p 7 0 + p 6 0 → itn (fX5_tightRing_4b N) (fun _ _ _ _ _ => none) u X (embP p) (embL x) (nI b) (nI r) = some (nI (tgt p (x 4) r d b))
  | _, _, _, 0, h, _, _ => by omega
  | 0, r, b, u + 1, _, e, hb => by
    have hn := hp.n
    have hq := hp.q
    rw [itn_s]
    unfold fX5_tightRing_4b
    rw [embP_a, embP_a, nI_add, if_le (by omega) (by omega)]
    rfl
  | d + 1, r, b, u + 1, hu, e, hb => by
    have hn := hp.n
    have hq := hp.q
    have m1 := rg_b hp (r := r) (by omega)
    have m2 := rg_b hp (r := b) hb
    have c1 := rgC_b (r := r) hx
    have c2 := rgC_b (r := b) hx
    have p1 := mul_b m2.2.2 c1.2
    have p2 := mul_b m1.2.2 c2.2
    rw [itn_s]
    unfold fX5_tightRing_4b
    rw [embP_a, embP_a, nI_add, if_nle (by omega) (by omega), c_rm hp hN hb, bnd_s, c_rcA hp (by omega), bnd_s, pk_mul, nm_s, c_rm hp hN (by omega), bnd_s, c_rcA hp hb, bnd_s, pk_mul, tgt]
    by_cases c : rgM p r * rgC p (x 4) b ≤ rgM p b * rgC p (x 4) r
    · rw [if_le c (by omega), if_pos c]
      unfold fX5_tightRing_66
      rw [nI_add, nm_s]
      exact c_tg4 hp hx hN (by omega) (by omega) hb
    · rw [if_nle (by omega) (by omega), if_neg c, nm_s]
      unfold fX5_tightRing_66
      rw [nI_add, nm_s]
      exact c_tg4 hp hx hN (by omega) (by omega) (by omega)
def cod (p : Nx) (r : Nat) : Nat := if r < p 7 0 then r else 100 + r - p 7 0
theorem m_bd43 {p g x : Nx} (hp : PI p) (hx : LI p x) {M : Rc} {ML : RcL} {N : Nat} {w : Int32} (hN : 100 < N) (S : RelS p g x (M 11)) : ∀ {d r b u : Nat}, d < u → r + d = p 7 0 + p 6 0 → b < p 7 0 + p 6 0 → ∃ K, itn (fX6_bound_43b N) (fun _ _ _ _ _ _ _ => none) u M ML w (nI (cod p b)) (nI (rgM p b)) (nI (rgC p (x 4) b)) (nI r) = fX6_bound_43b N K M ML w (nI (cod p (tgt p (x 4) r d b))) (nI (rgM p (tgt p (x 4) r d b))) (nI (rgC p (x 4) (tgt p (x 4) r d b))) (nI (p 7 0 + p 6 0))
  | _, _, _, 0, h, _, _ => by omega
  | 0, r, b, u + 1, _, e, hb => by
    refine ⟨itn (fX6_bound_43b N) (fun _ _ _ _ _ _ _ => none) u, ?_⟩
    rw [itn_s, show r = p 7 0 + p 6 0 from by omega]
    rfl
  | d + 1, r, b, u + 1, hu, e, hb => by
    have hn := hp.n
    have hq := hp.q
    have m1 := rg_b hp (r := r) (by omega)
    have m2 := rg_b hp (r := b) hb
    have c1 := rgC_b (r := r) hx
    have c2 := rgC_b (r := b) hx
    have p1 := mul_b m2.2.2 c1.2
    have p2 := mul_b m1.2.2 c2.2
    have s1 := S.1.1.2.1
    have s14 := S.1.1.2.2.1
    rw [itn_s, tgt]
    have fin : ∀ z : Int32, (z = if r < p 7 0 then nI 1 else nI 0) → fX6_bound_137 N (itn (fX6_bound_43b N) (fun _ _ _ _ _ _ _ => none) u) M ML w (nI (cod p b)) (nI (rgM p b)) (nI (rgC p (x 4) b)) (nI r) z (nI (rgM p r)) (nI (rgC p (x 4) r)) = itn (fX6_bound_43b N) (fun _ _ _ _ _ _ _ => none) u M ML w (nI (cod p (if rgM p r * rgC p (x 4) b ≤ rgM p b * rgC p (x 4) r then b else r))) (nI (rgM p (if rgM p r * rgC p (x 4) b ≤ rgM p b * rgC p (x 4) r then b else r))) (nI (rgC p (x 4) (if rgM p r * rgC p (x 4) b ≤ rgM p b * rgC p (x 4) r then b else r))) (nI (r + 1)) := by
      intro z hz
      generalize itn (fX6_bound_43b N) (fun _ _ _ _ _ _ _ => none) u = K
      unfold fX6_bound_137
      rw [nm_s, pk_mul, pk_mul]
      by_cases c : rgM p r * rgC p (x 4) b ≤ rgM p b * rgC p (x 4) r
      · rw [if_nlt c (by omega), if_pos c]
        unfold fX6_bound_185
        rw [nI_add, nm_s]
      · rw [if_lt (by omega) (by omega), if_neg c, s14]
        unfold cod
        by_cases q : r < p 7 0
        · rw [hz, if_pos q, if_n0 (by omega) (by omega), if_pos q]
          unfold fX6_bound_177 fX6_bound_185
          rw [nm_s, nm_s, nm_s, nI_add, nm_s]
        · rw [hz, if_neg q, if_e0 rfl, if_neg q, nI_add, nI_sub' (by omega)]
          unfold fX6_bound_177 fX6_bound_185
          rw [nm_s, nm_s, nm_s, nI_add, nm_s]
    have i := m_bd43 hp hx (ML := ML) (N := N) (w := w) hN S (d := d) (r := r + 1) (b := if rgM p r * rgC p (x 4) b ≤ rgM p b * rgC p (x 4) r then b else r) (u := u) (by omega) (by omega) (by split <;> omega)
    obtain ⟨K, i⟩ := i
    refine ⟨K, ?_⟩
    rw [← i]
    have f1 := fin (nI 1)
    have f0 := fin (nI 0)
    generalize itn (fX6_bound_43b N) (fun _ _ _ _ _ _ _ => none) u = K2 at f0 f1 ⊢
    unfold fX6_bound_43b
    rw [s1, s14, nI_add, if_nle (by omega) (by omega)]
    by_cases q : r < p 7 0
    · have sl := S.1.2.2.1 r q
      rw [if_nle (by omega) (by omega)]
      unfold fX6_bound_79
      rw [nm_s, if_n0 (by omega) (by omega), m_rg hp hN S.1 q, bnd_s]
      unfold fX6_bound_112
      rw [nm_s, if_n0 (by omega) (by omega), pk_mul, nI_add, nI_add, gdi_nI (by omega) (by omega), nI_clamp (by omega), sl.2.2, show nI (x 4 r) = nI (rgC p (x 4) r) from by unfold rgC; rw [if_pos q]]
      exact f1 (by rw [if_pos q])
    · have sk := S.1.2.1 (r - p 7 0) (by omega)
      rw [if_le (by omega) (by omega)]
      unfold fX6_bound_79
      rw [nm_s, if_e0 rfl, s14, nI_add, nI_sub' (by omega), gdi_nI (by omega) (by omega), nI_clamp (by omega), show 2 + r - p 7 0 = 2 + (r - p 7 0) from by omega, sk.1]
      unfold fX6_bound_112
      rw [nm_s, if_e0 rfl, show nI (p 0 (r - p 7 0)) = nI (rgM p r) from by unfold rgM rgA rgD; rw [if_neg q, if_neg q]; show _ = nI (0 + p 0 (r - p 7 0 + 0)); rw [Nat.zero_add, Nat.add_zero], show nI 1 = nI (rgC p (x 4) r) from by unfold rgC; rw [if_neg q]]
      have f0' := f0 (by rw [if_neg q])
      rw [show rgC p (x 4) r = 1 from by unfold rgC; rw [if_neg q]] at f0' ⊢
      exact f0'
theorem SP11_ok {N : Nat} (hN : 100000 < N) : SP11 N Rel := by
  intro c FL M ML h a1
  have h1 := Rel_0 (v := fun _ => nI 0) h
  unfold fX6_bound
  rw [nm_s]
  generalize va_up M 0 (fun _ => nI 0) = M1 at h1 ⊢
  obtain ⟨p, p1, b6, b7, s1, s14, hw⟩ := Rel_base h1
  unfold fX5_bound fX5_bound_16 fX6_bound_21
  rw [p1]
  rcases hw with z | ⟨g, x, w1, w2, w3, w4, w5, w6⟩
  · rw [empty_T z.1, there_F z.2.2, bnd_s, bnd_s, if_n0 (by omega) (by omega), if_e0 rfl]
    exact ⟨_, _, rfl, rfl, rfl, h1⟩
  · have S := w4.2.2.2.1
    have hx := w4.1.1
    have hn := w1.n
    have hq := w1.q
    have tl := tgt_lt (p := p) (C := x 4) (n := p 7 0 + p 6 0) (d := p 7 0 + p 6 0 - 1) (r := 1) (b := 0) (by omega) (by omega)
    have tc := c_tg4 w1 hx (X := c 0) (N := N) (by omega) (d := p 7 0 + p 6 0 - 1) (r := 1) (b := 0) (u := N) (by omega) (by omega) (by omega)
    obtain ⟨K, tm⟩ := m_bd43 w1 hx (ML := ML) (N := N) (w := a1) (by omega) S (d := p 7 0 + p 6 0 - 1) (r := 1) (b := 0) (u := N) (by omega) (by omega) (by omega)
    have m2 := rg_b w1 tl
    have c2 := rgC_b (r := tgt p (x 4) 1 (p 7 0 + p 6 0 - 1) 0) hx
    rw [show cod p 0 = 0 from by unfold cod; rw [if_pos (by omega)], show rgC p (x 4) 0 = x 4 0 from by unfold rgC; rw [if_pos (by omega)]] at tm
    have gp : 0 < Nat.gcd (rgC p (x 4) (tgt p (x 4) 1 (p 7 0 + p 6 0 - 1) 0)) (rgM p (tgt p (x 4) 1 (p 7 0 + p 6 0 - 1) 0)) := Nat.gcd_pos_of_pos_left _ (by omega)
    have gl : Nat.gcd (rgC p (x 4) (tgt p (x 4) 1 (p 7 0 + p 6 0 - 1) 0)) (rgM p (tgt p (x 4) 1 (p 7 0 + p 6 0 - 1) 0)) ≤ rgC p (x 4) (tgt p (x 4) 1 (p 7 0 + p 6 0 - 1) 0) := Nat.le_of_dvd (by omega) (Nat.gcd_dvd_left _ _)
    have cd := s_gcd (a := rgC p (x 4) (tgt p (x 4) 1 (p 7 0 + p 6 0 - 1) 0)) (b := rgM p (tgt p (x 4) 1 (p 7 0 + p 6 0 - 1) 0)) (N := N) (by omega) (by omega) (by omega)
    have md := m_gcd (a := rgC p (x 4) (tgt p (x 4) 1 (p 7 0 + p 6 0 - 1) 0)) (b := rgM p (tgt p (x 4) 1 (p 7 0 + p 6 0 - 1) 0)) (by omega) (by omega)
    rw [Nat.max_eq_left (by omega)] at cd
    have ctr := c_rm w1 (X := c 0) (N := N) (by omega) tl
    have cca := c_rcA (x := x) w1 (X := c 0) tl
    have tgc : fX5_tightRing N (c 0) (embP p) (embL x) = some (nI (tgt p (x 4) 1 (p 7 0 + p 6 0 - 1) 0)) := by
      unfold fX5_tightRing
      rw [nm_s, nm_s]
      unfold fX5_tightRing_4
      exact tc
    generalize tgt p (x 4) 1 (p 7 0 + p 6 0 - 1) 0 = b at *
    rw [empty_F w1, there_T S.1.1.1, bnd_s, bnd_s, if_e0 rfl, if_n0 (by omega) (by omega), w3, tgc, bnd_s, nm_s]
    have s17 : M1 11 17 = nI (x 4 0) := (S.1.2.2.1 0 (by omega)).2.2
    rcases in_ab a1 (a := 0) (b := 2) (by omega) (by omega) with ⟨j, _, j9, rfl, q1, q2, _, ji⟩ | ⟨ji, j0⟩
    · have mm : ∀ v : Int32, fX6_bound_43b N K M1 ML (nI j) (nI (cod p b)) (nI (rgM p b)) (nI (rgC p (x 4) b)) (nI (p 7 0 + p 6 0)) = some (if j = 0 then nI (rgC p (x 4) b / Nat.gcd (rgC p (x 4) b) (rgM p b)) else if j = 1 then nI (rgM p b / Nat.gcd (rgC p (x 4) b) (rgM p b)) else nI (cod p b), M1) := by
        intro v
        unfold fX6_bound_43b
        rw [S.1.1.2.1, S.1.1.2.2.1, nI_add, if_le (Nat.le_refl _) (by omega), md, bnd_s, nm_s]
        by_cases e0 : j = 0
        · rw [if_e0 e0, if_pos e0, gdz_nI gp (by omega), nI_div (by omega) gp (by omega)]
        · rw [if_n0 e0 (by omega), if_neg e0]
          by_cases e1 : j = 1
          · rw [if_eq e1, if_pos e1, gdz_nI gp (by omega), nI_div (by omega) gp (by omega)]
          · rw [if_neq e1 (by omega) (by omega), if_neg e1]
      rw [if_neg (show ¬ nI j < 0 from q1), if_pos q2, ji, bnd_s, if_n0 (by omega) (by omega), nm_s, m_rg w1 (by omega) S.1 (by omega), bnd_s, nm_s, nm_s, nm_s, s17]
      unfold fX6_bound_43
      rw [tm, mm 0]
      unfold fX5_bound_94
      rw [embP_a]
      by_cases e2 : j = 2
      · rw [if_eq e2, if_neg (show ¬ j = 0 from by omega), if_neg (show ¬ j = 1 from by omega)]
        unfold cod
        by_cases q : b < p 7 0
        · rw [if_nle (by omega) (by omega), if_pos q]; exact ⟨_, _, rfl, rfl, rfl, h1⟩
        · rw [if_le (by omega) (by omega), if_neg q, nI_add, nI_sub' (by omega)]; exact ⟨_, _, rfl, rfl, rfl, h1⟩
      · rw [if_neq e2 (by omega) (by omega), cca, bnd_s, nm_s, ctr, bnd_s, nm_s, cd, bnd_s, nm_s]
        by_cases e0 : j = 0
        · rw [if_e0 e0, if_pos e0, gdz_nI gp (by omega), nI_div (by omega) gp (by omega)]; exact ⟨_, _, rfl, rfl, rfl, h1⟩
        · rw [if_n0 e0 (by omega), if_neg e0, if_pos (by omega), gdz_nI gp (by omega), nI_div (by omega) gp (by omega)]; exact ⟨_, _, rfl, rfl, rfl, h1⟩
    · rw [ji, bnd_s, if_e0 rfl]
      rcases j0 with j0 | j0
      · rw [if_pos (show a1 < 0 from j0)]; exact ⟨_, _, rfl, rfl, rfl, h1⟩
      · rw [if_neg (show ¬ a1 < 0 from j0.1), if_neg j0.2.2]; exact ⟨_, _, rfl, rfl, rfl, h1⟩
end
section
/-! when -/
theorem preG {p : Nx} (hp : PI p) : ∀ {n : Nat} {y : Nx}, LZ p y → y 8 0 + 12120 * n < 2 ^ 29 → LZ p (pre p y n) ∧ pre p y n 2 (p 6 0 - 1) = y 2 (p 6 0 - 1) + n ∧ pre p y n 8 0 ≤ y 8 0 + 12120 * n
  | 0, y, h, _ => ⟨h, rfl, Nat.le_refl _⟩
  | n + 1, y, h, hT => by
    have i := preG hp (n := n) h (by omega)
    have s := sLeap_ok hp i.1 (by omega)
    refine ⟨s.1, ?_, ?_⟩
    · show sLeap p (pre p y n) 2 (p 6 0 - 1) = _
      omega
    · show sLeap p (pre p y n) 8 0 ≤ _
      omega
theorem pre_front {p y : Nx} : ∀ {n : Nat}, pre p (sLeap p y) n = pre p y (n + 1)
  | 0 => rfl
  | n + 1 => by
    show sLeap p (pre p (sLeap p y) n) = sLeap p (pre p y (n + 1))
    rw [pre_front]
theorem c_when {p : Nx} (hp : PI p) {X Lc : Rc} {N n : Nat} {w : Int32} (hN : 200 < N) (hn : n ≤ 200) : ∀ {i k u : Nat} {y : Nx}, i < u → k + i = n → LZ p y → y 8 0 + 12120 * i < 2 ^ 28 → itn (fX5_when_43b N) (fun _ _ _ _ _ _ _ => none) u X (embP p) Lc (embL y) (nI n) w (nI k) = if w = 0 then some (embL (pre p y i) 8 0, embL (pre p y i)) else some (embL (pre p y i) 9 0, embL (pre p y i))
  | _, _, 0, _, h, _, _, _ => by omega
  | 0, k, u + 1, y, _, e, hy, _ => by
    rw [itn_s]
    unfold fX5_when_43b
    rw [if_le (by omega) (by omega)]
    rfl
  | i + 1, k, u + 1, y, hu, e, hy, hT => by
    have s := sLeap_ok hp hy (by omega)
    have lp := s_leap (N := N) hp hN hy (by omega)
    have r := c_when hp (X := X) (Lc := Lc) (w := w) hN hn (i := i) (k := k + 1) (u := u) (y := sLeap p y) (by omega) (by omega) s.1 (by omega)
    rw [itn_s]
    generalize itn (fX5_when_43b N) (fun _ _ _ _ _ _ _ => none) u = K at r ⊢
    unfold fX5_when_43b
    rw [if_nle (by omega) (by omega), lp, bnd_s, nI_add, nm_s, r, pre_front]
theorem wn_one {p g : Nx} {n o T N : Nat} {w : Int32} (hp : PI p) (hg : GI p g) (hN : 100 < N) (hon : o + n < 2 ^ 30) (hT : T < o + n) {ML : RcL} : ∀ {d u : Nat} {y : Nx} {M : Rc}, LZ p y → RelS p g y (M 13) → M 11 49 = nI o → (y 2 (p 6 0 - 1) = T → sumD y T (p 6 0 - 1) < d) → (y 2 (p 6 0 - 1) = T ∨ y 2 (p 6 0 - 1) = T + 1) → y 8 0 + 120 * d < 2 ^ 29 → d ≤ u → ∃ M' u', u ≤ u' + d ∧ (∀ a, a ≠ 13 → M' a = M a) ∧ RelS p g (leapN p T d y) (M' 13) ∧ itn (fX6_when_47b N) (fun _ _ _ _ => none) u M ML (nI n) w = itn (fX6_when_47b N) (fun _ _ _ _ => none) u' M' ML (nI n) w
  | d, u, y, M, hy, hr, h49, h1, h2, h3, hu => by
    have s49 := hr.2.1.1.2.1
    by_cases c : y 2 (p 6 0 - 1) = T
    · obtain ⟨e, rfl⟩ : ∃ e, d = e + 1 := ⟨d - 1, by have := h1 c; omega⟩
      obtain ⟨v, rfl⟩ : ∃ v, u = v + 1 := ⟨u - 1, by omega⟩
      obtain ⟨S, t1, t2⟩ := m_step hp hg hN hy (by omega) hr
      have so := step_out hp c
      have z := LZ_step hp hy (by omega)
      have b := sNext_b hp hy (by omega)
      obtain ⟨M', u', r0, r1, r2, r3⟩ := wn_one (w := w) hp hg hN hon hT (ML := ML) (d := e) (u := v) (y := sStep p y) (M := va_up M 13 S) z (by rw [va_up_self]; exact t2) (by rw [va_up_ne _ _ (by omega)]; exact h49) (fun q => by have := sumD_step hp hy (by omega) c q; have := h1 c; omega) so (by rw [step_8]; omega) (by omega)
      refine ⟨M', u', by omega, fun a ha => by rw [r1 a ha, va_up_ne _ _ ha], by rw [leapN_go c]; exact r2, ?_⟩
      rw [itn_s, ← r3]
      generalize itn (fX6_when_47b N) (fun _ _ _ _ => none) v = K2
      unfold fX6_when_47b
      rw [s49, h49, nI_add, if_nle (by omega) (by omega), t1, bnd_s, nm_s]
    · exact ⟨M, u, by omega, fun _ _ => rfl, by rw [leapN_stop c]; exact hr, rfl⟩
theorem wn_k2 {a i : Nat} (h : a + 13000 * (i + 1) < 2 ^ 28) : a + 120 * 102 < 2 ^ 29 := by
  have h2 : 13000 ≤ 13000 * (i + 1) := Nat.le_mul_of_pos_right _ (Nat.succ_pos i)
  have h3 : 120 * 102 = 12240 := rfl
  rw [h3]
  generalize 13000 * (i + 1) = v at h h2
  omega
theorem wn_all {p g : Nx} {n o N : Nat} {w : Int32} (hp : PI p) (hg : GI p g) (hN : 100 < N) (hon : o + n < 2 ^ 30) {ML : RcL} : ∀ {i u : Nat} {y : Nx} {M : Rc}, LZ p y → RelS p g y (M 13) → M 11 49 = nI o → y 2 (p 6 0 - 1) + i = o + n → y 8 0 + 13000 * i < 2 ^ 28 → 102 * i < u → ∃ M', (∀ a, a ≠ 13 → M' a = M a) ∧ RelS p g (pre p y i) (M' 13) ∧ itn (fX6_when_47b N) (fun _ _ _ _ => none) u M ML (nI n) w = if w = 0 then some (M' 13 48, M') else some (M' 13 51, M')
  | 0, u, y, M, hy, hr, h49, e, _, hu => by
    obtain ⟨v, rfl⟩ : ∃ v, u = v + 1 := ⟨u - 1, by omega⟩
    refine ⟨M, fun _ _ => rfl, hr, ?_⟩
    rw [itn_s]
    unfold fX6_when_47b
    rw [h49, hr.2.1.1.2.1, nI_add, if_le (by omega) (by omega)]
  | i + 1, u, y, M, hy, hr, h49, e, hT, hu => by
    have k1 : sumD y (y 2 (p 6 0 - 1)) (p 6 0 - 1) < 102 := by have := sumD_100 hp hy; omega
    have k2 : y 8 0 + 120 * 102 < 2 ^ 29 := wn_k2 hT
    have k3 : 102 ≤ u := by omega
    have k4 : y 2 (p 6 0 - 1) < o + n := by omega
    have s := sLeap_ok hp hy (by omega)
    obtain ⟨M1, u1, a0, a1, a2, a3⟩ := wn_one (w := w) hp hg hN hon (T := y 2 (p 6 0 - 1)) k4 (ML := ML) (d := 102) (u := u) (y := y) (M := M) hy hr h49 (fun _ => k1) (Or.inl (Eq.refl (y 2 (p 6 0 - 1)))) k2 k3
    obtain ⟨M2, b1, b2, b3⟩ := wn_all (w := w) hp hg hN hon (ML := ML) (i := i) (u := u1) (y := sLeap p y) (M := M1) s.1 a2 (by rw [a1 11 (by omega)]; exact h49) (by omega) (by omega) (by omega)
    refine ⟨M2, fun a ha => (b1 a ha).trans (a1 a ha), by rw [← pre_front]; exact b2, ?_⟩
    rw [a3, b3]
theorem SP9_ok {N : Nat} (hN : 100000 < N) : SP9 N Rel := by
  intro c FL M ML h a1 a2
  have h1 := Rel_0 (v := fun _ => nI 0) h
  unfold fX6_when
  rw [nm_s]
  generalize va_up M 0 (fun _ => nI 0) = M1 at h1 ⊢
  obtain ⟨p, p1, b6, b7, s1, s14, hw⟩ := Rel_base h1
  obtain ⟨j, hj⟩ := embL_all (c 2)
  have same : Rel (va_up c 2 (c 2)) FL M1 ML := Rel_mv (fun a q1 _ => by rw [va_up_ne _ _ q1]) (fun _ _ => rfl) h1
  unfold fX5_when fX5_when_28 fX6_when_32
  rw [p1]
  rcases hw with z | ⟨g, x, w1, w2, w3, w4, w5, w6⟩
  · rw [empty_T z.1, there_F z.2.2, bnd_s, bnd_s, if_n0 (by omega) (by omega), if_e0 rfl]
    exact ⟨_, _, rfl, rfl, rfl, same⟩
  · have S := w4.2.2.2.1
    have x8 := w4.2.2.1
    have hx := w4.1.1
    rw [empty_F w1, there_T S.1.1.1, bnd_s, bnd_s, if_e0 rfl, if_n0 (by omega) (by omega), w3]
    rcases in_ab a1 (a := 1) (b := 200) (by omega) (by omega) with ⟨n, n1, n2, rfl, q1, q2, q3, ni⟩ | ⟨ni, n0⟩
    · rw [if_neg q1, if_neg q3, ni, bnd_s, if_n0 (by omega) (by omega)]
      rcases in_ab a2 (a := 0) (b := 1) (by omega) (by omega) with ⟨v, _, v2, rfl, r1, r2, _, vi⟩ | ⟨vi, v0⟩
      · have ag := cpy_agr j x
        have ly := LZ_agr w1 ag w4.1
        have ry := RelS_agr w1 ag S
        have y8 : sCpy j x 8 0 = x 8 0 := ag.g1 (by omega)
        have y2 : sCpy j x 2 (p 6 0 - 1) = x 2 (p 6 0 - 1) := ag.g6 (by omega) (by have := w1.n; omega)
        have xo := hx.k (k := p 6 0 - 1) (by have := w1.n; omega)
        have cw := c_when w1 (X := c 0) (Lc := embL x) (w := nI v) (N := N) (by omega) n2 (i := n) (k := 0) (u := N) (y := sCpy j x) (by omega) (by omega) ly (by omega)
        have cp := m_copy (nU := 353) (nV := 353) (N := N) (a := 0) (b := 0) (by omega) (by omega) (by omega) (by omega) (by omega) (U := M1 11) (V := M1 13)
        generalize hV : (fun j => if 0 ≤ j ∧ j < 0 + 353 then M1 11 (0 + (j - 0)) else M1 13 j) = V at cp
        have rv : RelS p g (sCpy j x) V := RelS_eq w1 w2 ly.1 (fun i hi => by rw [← hV]; show (if 0 ≤ i ∧ i < 0 + 353 then M1 11 (0 + (i - 0)) else M1 13 i) = _; rw [if_pos (by omega)]; congr 1; omega) ry
        obtain ⟨M2, m1, m2, m3⟩ := wn_all (w := nI v) w1 w2 (N := N) (by omega) (n := n) (o := x 2 (p 6 0 - 1)) (by omega) (ML := ML) (i := n) (u := N) (y := sCpy j x) (M := va_up M1 13 V) ly (by rw [va_up_self]; exact rv) (by rw [va_up_ne _ _ (by omega)]; exact S.2.1.1.2.1) (by omega) (by omega) (by omega)
        rw [if_neg (show ¬ nI v < 0 from r1), if_pos r2, vi, bnd_s, if_n0 (by omega) (by omega), hj, s_copy, bnd_s, nm_s, show (nI 0 : Int32) = nI 0 from rfl, cp, bnd_s, nm_s]
        unfold fX5_when_43 fX6_when_47
        rw [cw, m3]
        have fin : Rel (va_up c 2 (embL (pre p (sCpy j x) n))) FL M2 ML := Rel_mv (fun a q1 _ => by rw [va_up_ne _ _ q1]) (fun a ha => by rw [m1 a (by omega), va_up_ne _ _ (by omega)]) h1
        by_cases e : v = 0
        · rw [if_e0 e, if_e0 e, embL_a (by omega), m2.2.1.1.1]
          exact ⟨_, _, rfl, rfl, rfl, fin⟩
        · rw [if_n0 e (by omega), if_n0 e (by omega), embL_9, m2.2.1.1.2.2.2.1]
          exact ⟨_, _, rfl, rfl, rfl, fin⟩
      · rw [vi, bnd_s, if_e0 rfl]
        rcases v0 with v0 | v0
        · rw [if_pos (show a2 < 0 from v0)]; exact ⟨_, _, rfl, rfl, rfl, same⟩
        · rw [if_neg (show ¬ a2 < 0 from v0.1), if_neg v0.2.2]; exact ⟨_, _, rfl, rfl, rfl, same⟩
    · rw [ni, bnd_s, if_e0 rfl]
      rcases n0 with n0 | n0
      · rw [if_pos n0]; exact ⟨_, _, rfl, rfl, rfl, same⟩
      · rw [if_neg n0.1, if_pos n0.2.1]; exact ⟨_, _, rfl, rfl, rfl, same⟩
end
section
/-! paces -/
theorem m_laysA {p g : Nx} {C : Nat → Nat} {f N : Nat} {M : Rc} {ML : RcL} (hp : PI p) (hg : GI p g) (hN : 1600 < N) (hf : 1 ≤ f ∧ f ≤ 5) (hC : ∀ l, l < p 7 0 → 1 ≤ C l ∧ C l ≤ 20) (h : Stat p g C f (M 13)) : ∃ b M' ML', fX6_laysPace N M ML = some (bI b, (M', ML')) ∧ (∀ a, a ≠ 13 → a ≠ 16 → a ≠ 17 → a ≠ 19 → a ≠ 20 → a ≠ 21 → M' a = M a) ∧ ∀ z, (kn p C f z = none → b = false) ∧ ∀ o, kn p C f z = some o → b = true ∧ M' 19 0 = pcP p (sRound p (sClr z C f)) (some o) ∧ M' 20 0 = pcM p (sRound p (sClr z C f)) (some o) := by
  obtain ⟨b, M', ML', e1, e2, _, _⟩ := m_lays (x := fun _ _ => 0) (ML := ML) hp hg hN hf hC h
  refine ⟨b, M', ML', e1, e2, fun z => ?_⟩
  obtain ⟨b2, M2, ML2, f1, f2, f3, f4⟩ := m_lays (x := z) (ML := ML) hp hg hN hf hC h
  rw [e1] at f1
  have i1 := Option.some.inj f1
  have i2 : bI b = bI b2 := congrArg (fun q => q.1) i1
  have i3 : M' = M2 := congrArg (fun q => q.2.1) i1
  have i4 := bI_inj.mp i2
  subst i3 i4
  exact ⟨f3, f4⟩
/-- the numbers of a pace -/
theorem pc_b {p z : Nx} {C : Nat → Nat} {f k n : Nat} (hp : PI p) (hf : 1 ≤ f ∧ f ≤ 5) (hC : ∀ l, l < p 7 0 → 1 ≤ C l ∧ C l ≤ 20) (h : kn p C f z = some (k, n)) : ∃ P T, pcP p (sRound p (sClr z C f)) (some (k, n)) = nI P ∧ pcM p (sRound p (sClr z C f)) (some (k, n)) = nI T ∧ 1 ≤ P ∧ P ≤ 1500 ∧ 1 ≤ T ∧ T ≤ 18180000 ∧ ∀ r, r < p 7 0 + p 6 0 → rgM p r * P ≤ rgC p C r * T := by
  have st := Stt_new (x := z) hp hf hC
  unfold kn at h
  generalize sRound p (sClr z C f) = x0 at st h
  have s := paceAt_some h
  have tt := pre_time hp st (d := n - k) (m := k + 1) (by omega)
  rw [show k + 1 + (n - k) = n + 1 from by omega] at tt
  have gp : 0 < pcD p x0 k n := Nat.gcd_pos_of_pos_left _ (by omega)
  have d1 : pcD p x0 k n ∣ (n - k) := Nat.gcd_dvd_left _ _
  have d2 : pcD p x0 k n ∣ (pre p x0 (n + 1) 8 0 - pre p x0 (k + 1) 8 0) := Nat.gcd_dvd_right _ _
  refine ⟨_, _, rfl, rfl, Nat.div_pos (Nat.le_of_dvd (by omega) d1) gp, Nat.le_trans (Nat.div_le_self _ _) (by omega), Nat.div_pos (Nat.le_of_dvd (by omega) d2) gp, Nat.le_trans (Nat.div_le_self _ _) (by omega), fun r hr => ?_⟩
  exact ring_pc hp st (rg_Rng hp hr) h
theorem learn {p x : Nx} {N f : Nat} {X J F : Rc} {FL : RcL} (hp : PI p) (hN : 1600 < N) (hf : 1 ≤ f ∧ f ≤ 5) (hC : ∀ l, l < p 7 0 → 1 ≤ x 4 l ∧ x 4 l ≤ 20) (hk : KN p (x 4) X) : ∃ X' J' F' FL' z, fX5_learnPace N X (embP p) (embL x) J F FL (nI f) = some (X', J', F', FL') ∧ (∀ a, a ≠ 9 → a ≠ 10 → X' a = X a) ∧ KN p (x 4) X' ∧ X' 9 f = pcP p (sRound p (sClr z (x 4) f)) (kn p (x 4) f z) ∧ X' 10 f = pcM p (sRound p (sClr z (x 4) f)) (kn p (x 4) f z) ∧ ∀ e, e ≠ f → X' 9 e = X 9 e ∧ X' 10 e = X 10 e := by
  unfold fX5_learnPace
  rw [gdi_nI (by omega) (by omega), nI_clamp (by omega)]
  by_cases c : X 9 f = 0
  · obtain ⟨j, rfl⟩ := embL_all J
    obtain ⟨y, G, GL, s1, s2, s3⟩ := s_search (x := j) (C := x 4) (D := embL x 4) hp hN hf hC (fun l _ => embL_a (by omega)) F FL
    rw [if_pos c, s1, bnd_s]
    dsimp only
    rw [gdi_nI (by omega) (by omega), nm_s, gdi_nI (by omega) (by omega), nm_s]
    have x9 : ∀ e, va_up (va_up X 9 (upd (X 9) f (G 6 0))) 10 (upd (va_up X 9 (upd (X 9) f (G 6 0)) 10) f (G 7 0)) 9 e = if e = f then G 6 0 else X 9 e := by
      intro e
      rw [va_up_ne _ _ (by omega), va_up_self]
      by_cases q : e = f
      · rw [upd_eq q, if_pos q]
      · rw [upd_ne q, if_neg q]
    have x10 : ∀ e, va_up (va_up X 9 (upd (X 9) f (G 6 0))) 10 (upd (va_up X 9 (upd (X 9) f (G 6 0)) 10) f (G 7 0)) 10 e = if e = f then G 7 0 else X 10 e := by
      intro e
      rw [va_up_self]
      by_cases q : e = f
      · rw [upd_eq q, if_pos q]
      · rw [upd_ne q, if_neg q, va_up_ne _ _ (by omega)]
    refine ⟨_, _, _, _, j, rfl, fun a h1 h2 => by rw [va_up_ne _ _ h2, va_up_ne _ _ h1], fun e e1 e2 => ?_, ?_, ?_, fun e he => ?_⟩
    · rw [x9, x10]
      by_cases q : e = f
      · subst q
        rw [if_pos rfl, if_pos rfl]
        exact Or.inr ⟨j, s2, s3⟩
      · rw [if_neg q, if_neg q]
        exact hk e e1 e2
    · rw [x9, if_pos rfl]; exact s2
    · rw [x10, if_pos rfl]; exact s3
    · rw [x9, x10, if_neg he, if_neg he]; exact ⟨rfl, rfl⟩
  · rw [if_neg c]
    rcases hk f hf.1 hf.2 with z | ⟨z, z1, z2⟩
    · exact absurd z c
    · exact ⟨X, J, F, FL, z, rfl, fun _ _ _ => rfl, hk, z1, z2, fun _ _ => ⟨rfl, rfl⟩⟩
theorem Wk_C {p g x : Nx} {c : Nat → Rc} {M : Rc} (w : Wk p g x c M) : ∀ l, l < p 7 0 → 1 ≤ x 4 l ∧ x 4 l ≤ 20 := fun l hl => by
  have := w.2.2.2.1.1.1.l hl
  omega
/-- after a pace was found -/
theorem Rel_kn {p g x : Nx} {c : Nat → Rc} {FL FL' : RcL} {M M' : Rc} {ML ML' : RcL} {X' J' F' : Rc} (h : Rel c FL M ML) (hp : c 1 = embP p) (w : Wk p g x c M) (hX : ∀ a, a ≠ 6 → a ≠ 9 → a ≠ 10 → X' a = c 0 a) (hk : KN p (x 4) X') (hM : ∀ a, a = 1 ∨ a = 2 ∨ a = 8 ∨ a = 11 ∨ a = 14 ∨ a = 15 → M' a = M a) : Rel (va_up (va_up (va_up c 0 X') 2 J') 6 F') FL' M' ML' := by
  obtain ⟨⟨t, L, t1, t2, t3, t4, t5⟩, h3, ⟨q, q1, q2⟩, p', p1, p2, h4⟩ := h
  have ep : embP p' = embP p := p1.symm.trans hp
  obtain ⟨w1, w2, w3, w4, ⟨n, d, r1, r2, r3, r4, r5, r6⟩, w6⟩ := w
  have co : ∀ a, a ≠ 0 → a ≠ 2 → a ≠ 6 → va_up (va_up (va_up c 0 X') 2 J') 6 F' a = c a := fun a h0 h2 h6 => by rw [va_up_ne _ _ h6, va_up_ne _ _ h2, va_up_ne _ _ h0]
  have c0 : va_up (va_up (va_up c 0 X') 2 J') 6 F' 0 = X' := by rw [va_up_ne _ _ (by omega), va_up_ne _ _ (by omega), va_up_self]
  generalize va_up (va_up (va_up c 0 X') 2 J') 6 F' = c' at co c0 ⊢
  refine ⟨⟨t, L, t1, ?_, ?_, ?_, ?_⟩, ?_, ⟨q, ?_, q2⟩, p, ?_, w1.kd, Or.inr ⟨g, x, w1, w2, ?_, ?_, ⟨n, d, r1, r2, ?_, ?_, ?_, fun i hi => ?_⟩, ?_⟩⟩
  · rw [c0, hX 1 (by omega) (by omega) (by omega)]; exact t2
  · rw [hM 2 (by omega)]; exact t3
  · rw [co 16 (by omega) (by omega) (by omega)]; exact t4
  · rw [hM 1 (by omega)]; exact t5
  · rw [co 3 (by omega) (by omega) (by omega), hM 8 (by omega)]; exact h3
  · rw [co 4 (by omega) (by omega) (by omega)]; exact q1
  · rw [co 1 (by omega) (by omega) (by omega)]; exact hp
  · rw [co 5 (by omega) (by omega) (by omega)]; exact w3
  · rw [hM 11 (by omega)]; exact w4
  · rw [co 7 (by omega) (by omega) (by omega)]; exact r3
  · rw [co 7 (by omega) (by omega) (by omega)]; exact r4
  · rw [hM 15 (by omega)]; exact r5
  · obtain ⟨y, y1, y2⟩ := r6 i hi
    refine ⟨y, ?_, ?_⟩
    · rw [co _ (by omega) (by omega) (by omega)]; exact y1
    · rw [hM 14 (by omega)]; exact y2
  · rw [c0]; exact hk
theorem copy_now {p g x : Nx} {M : Rc} {N : Nat} (hN : 400 < N) (hp : PI p) (hg : GI p g) (hx : LI p x) (S : RelS p g x (M 11)) : ∃ V, fX6_copy 353 353 N (M 11) (M 13) (nI 0) (nI 0) = some V ∧ RelS p g x V := by
  refine ⟨_, m_copy hN (by omega) (by omega) (by omega) (by omega), RelS_eq hp hg hx (fun i hi => ?_) S⟩
  show (if 0 ≤ i ∧ i < 0 + 353 then M 11 (0 + (i - 0)) else M 13 i) = _
  rw [if_pos (by omega)]
  congr 1
  omega
theorem ll_loop {p g : Nx} {C : Nat → Nat} {f N : Nat} {ML : RcL} (hp : PI p) (hg : GI p g) : ∀ {d r u : Nat} {M : Rc}, d < u → r + d = p 8 0 → M 13 35 = nI (p 8 0) → ∃ M', itn (fX6_laysLonger_15b N) (fun _ _ _ _ => none) u M ML (nI f) (nI r) = bnd (fX6_laysPace N M' ML) (fun z1 => gdb z1.1 (some (z1.1, (z1.2.1, z1.2.2)))) ∧ (∀ a, a ≠ 13 → M' a = M a) ∧ (∀ i, r ≤ i → i < p 8 0 → M' 13 (36 + 2 * i + 1) = M 13 (36 + 2 * i + 1) * nI f) ∧ ∀ j, (∀ i, r ≤ i → i < p 8 0 → j ≠ 36 + 2 * i + 1) → M' 13 j = M 13 j
  | _, _, 0, _, h, _, _ => by omega
  | 0, r, u + 1, M, _, e, h35 => by
    have h8 := hg.1
    refine ⟨M, ?_, fun _ _ => rfl, fun i h1 h2 => by omega, fun _ _ => rfl⟩
    rw [itn_s]
    unfold fX6_laysLonger_15b
    rw [h35, if_le (by omega) (by omega)]
  | d + 1, r, u + 1, M, hu, e, h35 => by
    have h8 := hg.1
    obtain ⟨M', r1, r2, r3, r4⟩ := ll_loop (C := C) (f := f) (N := N) (ML := ML) hp hg (d := d) (r := r + 1) (u := u) (M := va_up M 13 (upd (M 13) (36 + 2 * r + 1) (M 13 (36 + 2 * r + 1) * nI f))) (by omega) (by omega) (by rw [va_up_self, upd_ne (by omega)]; exact h35)
    refine ⟨M', ?_, fun a ha => by rw [r2 a ha, va_up_ne _ _ ha], fun i h1 h2 => ?_, fun j hj => ?_⟩
    · rw [itn_s, ← r1]
      unfold fX6_laysLonger_15b
      rw [h35, if_nle (by omega) (by omega), pk_mul, nI_add, nI_add, gdi_nI (by omega) (by omega), gdi_nI (by omega) (by omega), nI_clamp (by omega), nm_s, nI_add, nm_s]
    · by_cases c : i = r
      · subst c
        rw [r4 _ (fun i' q1 q2 => by omega), va_up_self, upd_eq rfl]
      · rw [r3 i (by omega) h2, va_up_self, upd_ne (by omega)]
    · rw [r4 j (fun i q1 q2 => hj i (by omega) q2), va_up_self, upd_ne (hj r (by omega) (by omega))]
theorem m_longer {p g x : Nx} {f N : Nat} {M : Rc} {ML : RcL} (hp : PI p) (hg : GI p g) (hx : LI p x) (hN : 1600 < N) (hf : 1 ≤ f ∧ f ≤ 5) (hC : ∀ l, l < p 7 0 → 1 ≤ x 4 l ∧ x 4 l ≤ 20) (S : RelS p g x (M 11)) (h7 : x 7 0 = 1) : ∃ b M' ML', fX6_laysLonger N M ML (nI f) = some (bI b, (M', ML')) ∧ (∀ a, a ≠ 13 → a ≠ 16 → a ≠ 17 → a ≠ 19 → a ≠ 20 → a ≠ 21 → M' a = M a) ∧ ∀ z, (kn p (x 4) f z = none → b = false) ∧ ∀ o, kn p (x 4) f z = some o → b = true ∧ M' 19 0 = pcP p (sRound p (sClr z (x 4) f)) (some o) ∧ M' 20 0 = pcM p (sRound p (sClr z (x 4) f)) (some o) := by
  obtain ⟨V, v1, v2⟩ := copy_now (M := M) (N := N) (by omega) hp hg hx S
  have h8 := hg.1
  have hq := hp.q
  have st := v2.1
  rw [h7] at st
  obtain ⟨M1, r1, r2, r3, r4⟩ := ll_loop (C := x 4) (f := f) (N := N) (ML := ML) hp hg (d := p 8 0) (r := 0) (u := N) (M := va_up M 13 V) (by omega) (by omega) (by rw [va_up_self]; exact st.1.2.2.2)
  rw [va_up_self] at r3 r4
  have st2 : Stat p g (x 4) f (M1 13) := by
    refine ⟨⟨?_, ?_, ?_, ?_⟩, fun k hk => ?_, fun l hl => ?_, fun r hr => ?_⟩
    · rw [r4 0 (fun i _ _ => by omega)]; exact st.1.1
    · rw [r4 1 (fun i _ _ => by omega)]; exact st.1.2.1
    · rw [r4 14 (fun i _ _ => by omega)]; exact st.1.2.2.1
    · rw [r4 35 (fun i _ _ => by omega)]; exact st.1.2.2.2
    · have := hp.n
      rw [r4 _ (fun i _ _ => by omega), r4 _ (fun i _ _ => by omega)]; exact st.2.1 k hk
    · rw [r4 _ (fun i _ _ => by omega), r4 _ (fun i _ _ => by omega), r4 _ (fun i _ _ => by omega)]; exact st.2.2.1 l hl
    · have q := st.2.2.2 r hr
      rw [r4 _ (fun i _ _ => by omega), r3 r (by omega) hr, q.2, Nat.mul_one, pk_mul]
      exact ⟨q.1, rfl⟩
  obtain ⟨b, M', ML', e1, e2, e3⟩ := m_laysA (ML := ML) hp hg hN hf hC st2
  refine ⟨b, M', ML', ?_, fun a q1 q2 q3 q4 q5 q6 => ?_, e3⟩
  · unfold fX6_laysLonger
    rw [v1, bnd_s, nm_s, nm_s]
    unfold fX6_laysLonger_15
    rw [r1, e1, bnd_s]
    cases b <;> rfl
  · rw [e2 a q1 q2 q3 q4 q5 q6, r2 a q1, va_up_ne _ _ q1]
/-- the class's pace by a factor against the model's answer -/
theorem pc_same {p z : Nx} {C : Nat → Nat} {f : Nat} {b : Bool} {M' : Rc} {w : Prop} [Decidable w] (h : (kn p C f z = none → b = false) ∧ ∀ o, kn p C f z = some o → b = true ∧ M' 19 0 = pcP p (sRound p (sClr z C f)) (some o) ∧ M' 20 0 = pcM p (sRound p (sClr z C f)) (some o)) : (if w then pcP p (sRound p (sClr z C f)) (kn p C f z) else pcM p (sRound p (sClr z C f)) (kn p C f z)) = if bI b = 0 then (-1 : Int32) else if w then M' 19 0 else M' 20 0 := by
  cases e : kn p C f z with
  | none =>
    rw [if_bF (h.1 e)]
    split <;> rfl
  | some o =>
    have q := h.2 o e
    rw [if_bT q.1, q.2.1, q.2.2]
theorem SP14_ok {N : Nat} (hN : 100000 < N) : SP14 N Rel := by
  intro c FL M ML h a1 a2
  have h1 := Rel_0 (v := fun _ => nI 0) h
  unfold fX6_longer
  rw [nm_s]
  generalize va_up M 0 (fun _ => nI 0) = M1 at h1 ⊢
  obtain ⟨p, p1, b6, b7, s1, s14, hw⟩ := Rel_base h1
  have same : Rel (va_up (va_up (va_up c 0 (c 0)) 2 (c 2)) 6 (c 6)) FL M1 ML := Rel_mv (fun a q1 q2 => by
    rw [va_up_ne _ _ q2, va_up_ne _ _ q1]
    by_cases e : a = 0
    · rw [e, va_up_self]
    · rw [va_up_ne _ _ e]) (fun _ _ => rfl) h1
  unfold fX5_longer fX5_paceBy fX5_paceBy_26 fX6_longer_38
  rw [p1]
  rcases hw with z | ⟨g, x, w⟩
  · rw [empty_T z.1, there_F z.2.2, bnd_s, bnd_s, if_n0 (by omega) (by omega), if_e0 rfl, bnd_s]
    exact ⟨_, _, rfl, rfl, rfl, same⟩
  · obtain ⟨w1, w2, w3, w4, w5, w6⟩ := id w
    have S := w4.2.2.2.1
    have hx := w4.1.1
    rw [empty_F w1, there_T S.1.1.1, bnd_s, bnd_s, if_e0 rfl, if_n0 (by omega) (by omega), w3]
    rcases in_ab a1 (a := 1) (b := 5) (by omega) (by omega) with ⟨f, f1, f2, rfl, q1, q2, q3, ni⟩ | ⟨ni, n0⟩
    · rw [if_neg q1, if_neg q3, ni, bnd_s, if_n0 (by omega) (by omega)]
      rcases in_ab a2 (a := 0) (b := 1) (by omega) (by omega) with ⟨v, _, v2, rfl, r1, r2, _, vi⟩ | ⟨vi, v0⟩
      · obtain ⟨X', J', F', FL', z, l1, l2, l3, l4, l5, l6⟩ := learn (N := N) (X := c 0) (J := c 2) (F := c 6) (FL := FL) w1 (by omega) ⟨f1, f2⟩ (Wk_C w) w6
        obtain ⟨b, M', ML', e1, e2, e3⟩ := m_longer (N := N) (M := M1) (ML := ML) w1 w2 hx (by omega) ⟨f1, f2⟩ (Wk_C w) S w4.2.1
        have ps := pc_same (w := v = 0) (e3 z)
        have fin : Rel (va_up (va_up (va_up c 0 X') 2 J') 6 F') FL' M' ML' := Rel_kn h1 p1 w (fun a _ q2 q3 => l2 a q2 q3) l3 (fun a ha => e2 a (by omega) (by omega) (by omega) (by omega) (by omega) (by omega))
        rw [if_neg (show ¬ nI v < 0 from r1), if_pos r2, vi, bnd_s, if_n0 (by omega) (by omega), l1, bnd_s, e1, bnd_s]
        dsimp only
        rw [gdi_nI (by omega) (by omega), gdi_nI (by omega) (by omega), nI_clamp (by omega), l4, l5]
        by_cases e : v = 0
        · rw [if_e0 e, bnd_s, if_e0 e]
          rw [if_pos e, if_pos e] at ps
          dsimp only
          cases b with
          | true => rw [if_bT rfl] at ps ⊢; rw [ps]; exact ⟨_, _, rfl, rfl, rfl, fin⟩
          | false => rw [if_bF rfl] at ps ⊢; rw [ps]; exact ⟨_, _, rfl, rfl, rfl, fin⟩
        · rw [if_n0 e (by omega), bnd_s, if_n0 e (by omega)]
          rw [if_neg e, if_neg e] at ps
          dsimp only
          cases b with
          | true => rw [if_bT rfl] at ps ⊢; rw [ps]; exact ⟨_, _, rfl, rfl, rfl, fin⟩
          | false => rw [if_bF rfl] at ps ⊢; rw [ps]; exact ⟨_, _, rfl, rfl, rfl, fin⟩
      · rw [vi, bnd_s, if_e0 rfl]
        rcases v0 with v0 | v0
        · rw [if_pos (show a2 < 0 from v0), bnd_s]; exact ⟨_, _, rfl, rfl, rfl, same⟩
        · rw [if_neg (show ¬ a2 < 0 from v0.1), if_neg v0.2.2, bnd_s]; exact ⟨_, _, rfl, rfl, rfl, same⟩
    · rw [ni, bnd_s, if_e0 rfl]
      rcases n0 with n0 | n0
      · rw [if_pos n0, bnd_s]; exact ⟨_, _, rfl, rfl, rfl, same⟩
      · rw [if_neg n0.1, if_pos n0.2.1, bnd_s]; exact ⟨_, _, rfl, rfl, rfl, same⟩
theorem SP10_ok {N : Nat} (hN : 100000 < N) : SP10 N Rel := by
  intro c FL M ML h a2
  have h1 := Rel_0 (v := fun _ => nI 0) h
  unfold fX6_pace
  rw [nm_s]
  generalize va_up M 0 (fun _ => nI 0) = M1 at h1 ⊢
  obtain ⟨p, p1, b6, b7, s1, s14, hw⟩ := Rel_base h1
  have same : Rel (va_up (va_up (va_up c 0 (c 0)) 2 (c 2)) 6 (c 6)) FL M1 ML := Rel_mv (fun a q1 q2 => by
    rw [va_up_ne _ _ q2, va_up_ne _ _ q1]
    by_cases e : a = 0
    · rw [e, va_up_self]
    · rw [va_up_ne _ _ e]) (fun _ _ => rfl) h1
  unfold fX5_pace fX5_paceBy fX5_paceBy_26 fX6_pace_21
  rw [p1]
  rcases hw with z | ⟨g, x, w⟩
  · rw [empty_T z.1, there_F z.2.2, bnd_s, bnd_s, if_n0 (by omega) (by omega), if_e0 rfl, bnd_s]
    exact ⟨_, _, rfl, rfl, rfl, same⟩
  · obtain ⟨w1, w2, w3, w4, w5, w6⟩ := id w
    have S := w4.2.2.2.1
    have hx := w4.1.1
    rw [empty_F w1, there_T S.1.1.1, bnd_s, bnd_s, if_e0 rfl, if_n0 (by omega) (by omega), w3, if_nlt (by omega) (by omega), if_nlt (by omega) (by omega)]
    rcases in_ab a2 (a := 0) (b := 1) (by omega) (by omega) with ⟨v, _, v2, rfl, r1, r2, _, vi⟩ | ⟨vi, v0⟩
    · obtain ⟨X', J', F', FL', z, l1, l2, l3, l4, l5, l6⟩ := learn (N := N) (f := 1) (X := c 0) (J := c 2) (F := c 6) (FL := FL) w1 (by omega) (by omega) (Wk_C w) w6
      obtain ⟨V, v1, vr⟩ := copy_now (M := M1) (N := N) (by omega) w1 w2 hx S
      have st := vr.1
      rw [w4.2.1] at st
      obtain ⟨b, M', ML', e1, e2, e3⟩ := m_laysA (f := 1) (N := N) (M := va_up M1 13 V) (ML := ML) w1 w2 (by omega) (by omega) (Wk_C w) (by rw [va_up_self]; exact st)
      have ps := pc_same (w := v = 0) (e3 z)
      have fin : Rel (va_up (va_up (va_up c 0 X') 2 J') 6 F') FL' M' ML' := Rel_kn h1 p1 w (fun a _ q2 q3 => l2 a q2 q3) l3 (fun a ha => by rw [e2 a (by omega) (by omega) (by omega) (by omega) (by omega) (by omega), va_up_ne _ _ (by omega)])
      rw [if_neg (show ¬ nI v < 0 from r1), if_pos r2, vi, bnd_s, if_n0 (by omega) (by omega), l1, bnd_s, v1, bnd_s, nm_s, e1, bnd_s]
      dsimp only
      rw [gdi_nI (by omega) (by omega), gdi_nI (by omega) (by omega), nI_clamp (by omega), l4, l5]
      by_cases e : v = 0
      · rw [if_e0 e, bnd_s, if_e0 e]
        rw [if_pos e, if_pos e] at ps
        dsimp only
        cases b with
        | true => rw [if_bT rfl] at ps ⊢; rw [ps]; exact ⟨_, _, rfl, rfl, rfl, fin⟩
        | false => rw [if_bF rfl] at ps ⊢; rw [ps]; exact ⟨_, _, rfl, rfl, rfl, fin⟩
      · rw [if_n0 e (by omega), bnd_s, if_n0 e (by omega)]
        rw [if_neg e, if_neg e] at ps
        dsimp only
        cases b with
        | true => rw [if_bT rfl] at ps ⊢; rw [ps]; exact ⟨_, _, rfl, rfl, rfl, fin⟩
        | false => rw [if_bF rfl] at ps ⊢; rw [ps]; exact ⟨_, _, rfl, rfl, rfl, fin⟩
    · rw [vi, bnd_s, if_e0 rfl]
      rcases v0 with v0 | v0
      · rw [if_pos (show a2 < 0 from v0), bnd_s]; exact ⟨_, _, rfl, rfl, rfl, same⟩
      · rw [if_neg (show ¬ a2 < 0 from v0.1), if_neg v0.2.2, bnd_s]; exact ⟨_, _, rfl, rfl, rfl, same⟩
end
section
/-! longest, least -/
theorem lmul {a b : Nat} (ha : a < 2 ^ 31) (hb : b < 2 ^ 31) : (nI a).toInt64 * (nI b).toInt64 = lN (a * b) := by
  rw [nI_l ha, nI_l hb, lN_mul]
theorem mul62 {a b : Nat} (ha : a < 2 ^ 31) (hb : b < 2 ^ 31) : a * b < 2 ^ 63 := by
  have : a * b ≤ 2 ^ 31 * 2 ^ 31 := Nat.mul_le_mul (by omega) (by omega)
  have e : 2 ^ 31 * 2 ^ 31 = (2 : Nat) ^ 62 := by decide
  have e2 : (2 : Nat) ^ 62 < 2 ^ 63 := by decide
  omega
theorem lcmp {a b c d : Nat} (ha : a < 2 ^ 31) (hb : b < 2 ^ 31) (hc : c < 2 ^ 31) (hd : d < 2 ^ 31) : (lg_cmp ((nI a).toInt64 * (nI b).toInt64) ((nI c).toInt64 * (nI d).toInt64) ≤ 0 ↔ a * b ≤ c * d) ∧ (0 < lg_cmp ((nI a).toInt64 * (nI b).toInt64) ((nI c).toInt64 * (nI d).toInt64) ↔ c * d < a * b) ∧ (lg_cmp ((nI a).toInt64 * (nI b).toInt64) ((nI c).toInt64 * (nI d).toInt64) < 0 ↔ a * b < c * d) := by
  rw [lmul ha hb, lmul hc hd]
  refine ⟨?_, ?_, ?_⟩
  · rw [lg_cmp_le, pk_lLE (mul62 ha hb) (mul62 hc hd)]
  · rw [lg_cmp_gt, pk_lLT (mul62 hc hd) (mul62 ha hb)]
  · rw [lg_cmp_lt, pk_lLT (mul62 ha hb) (mul62 hc hd)]
/-- the best factor so far, in both -/
def Bst (X : Rc) (v a b : Int32) (f : Nat) : Prop := (v = -1 ∧ a = nI 0 ∧ b = nI 1) ∨ ∃ e P T, v = nI e ∧ 1 ≤ e ∧ e < f ∧ f ≤ 6 ∧ a = nI P ∧ b = nI T ∧ X 9 e = nI P ∧ X 10 e = nI T ∧ 1 ≤ P ∧ P ≤ 1500 ∧ 1 ≤ T ∧ T ≤ 18180000
theorem lng {p g x : Nx} {N : Nat} (hp : PI p) (hg : GI p g) (hx : LI p x) (hN : 1600 < N) (hC : ∀ l, l < p 7 0 → 1 ≤ x 4 l ∧ x 4 l ≤ 20) (h7 : x 7 0 = 1) : ∀ {d f u w : Nat} {X J F : Rc} {FL : RcL} {M : Rc} {ML : RcL} {v a b : Int32}, d < u → d < w → f + d = 6 → 1 ≤ f → KN p (x 4) X → RelS p g x (M 11) → Bst X v a b f → ∃ r X' J' F' FL' M' ML', itn (fX5_longest_13b N) (fun _ _ _ _ _ _ _ _ => none) u X (embP p) (embL x) J F FL v (nI f) = some (r, (X', J', F', FL')) ∧ itn (fX6_longest_23b N) (fun _ _ _ _ _ _ => none) w M ML v a b (nI f) = some (r, (M', ML')) ∧ (∀ e, e ≠ 9 → e ≠ 10 → X' e = X e) ∧ KN p (x 4) X' ∧ ∀ e, e ≠ 13 → e ≠ 16 → e ≠ 17 → e ≠ 19 → e ≠ 20 → e ≠ 21 → M' e = M e
  | _, _, 0, _, _, _, _, _, _, _, _, _, _, h, _, _, _, _, _, _ => by omega
  | _, _, _ + 1, 0, _, _, _, _, _, _, _, _, _, _, h, _, _, _, _, _ => by omega
  | 0, f, u + 1, w + 1, X, J, F, FL, M, ML, v, a, b, _, _, e, _, hk, _, _ => by
    refine ⟨v, X, J, F, FL, M, ML, ?_, ?_, fun _ _ _ => rfl, hk, fun _ _ _ _ _ _ _ => rfl⟩
    · rw [itn_s]
      unfold fX5_longest_13b
      rw [if_lt (by omega) (by omega)]
    · rw [itn_s]
      unfold fX6_longest_23b
      rw [if_lt (by omega) (by omega)]
  | d + 1, f, u + 1, w + 1, X, J, F, FL, M, ML, v, a, b, hu, hw, e, hf, hk, S, hB => by
    obtain ⟨X1, J1, F1, FL1, z, l1, l2, l3, l4, l5, l6⟩ := learn (N := N) (X := X) (J := J) (F := F) (FL := FL) hp hN (show 1 ≤ f ∧ f ≤ 5 from by omega) hC hk
    obtain ⟨bb, M1, ML1, e1, e2, e3⟩ := m_longer (N := N) (M := M) (ML := ML) hp hg hx hN (show 1 ≤ f ∧ f ≤ 5 from by omega) hC S h7
    have S1 : RelS p g x (M1 11) := by rw [e2 11 (by omega) (by omega) (by omega) (by omega) (by omega) (by omega)]; exact S
    -- what follows with a best of v', a', b'
    have go : ∀ v' a' b', Bst X1 v' a' b' (f + 1) → ∃ r X' J' F' FL' M' ML', itn (fX5_longest_13b N) (fun _ _ _ _ _ _ _ _ => none) u X1 (embP p) (embL x) J1 F1 FL1 v' (nI (f + 1)) = some (r, (X', J', F', FL')) ∧ itn (fX6_longest_23b N) (fun _ _ _ _ _ _ => none) w M1 ML1 v' a' b' (nI (f + 1)) = some (r, (M', ML')) ∧ (∀ e, e ≠ 9 → e ≠ 10 → X' e = X e) ∧ KN p (x 4) X' ∧ ∀ e, e ≠ 13 → e ≠ 16 → e ≠ 17 → e ≠ 19 → e ≠ 20 → e ≠ 21 → M' e = M e := by
      intro v' a' b' hB'
      obtain ⟨r, X', J', F', FL', M', ML', k1, k2, k3, k4, k5⟩ := lng hp hg hx hN hC h7 (d := d) (f := f + 1) (u := u) (w := w) (X := X1) (J := J1) (F := F1) (FL := FL1) (M := M1) (ML := ML1) (v := v') (a := a') (b := b') (by omega) (by omega) (by omega) (by omega) l3 S1 hB'
      exact ⟨r, X', J', F', FL', M', ML', k1, k2, fun e q1 q2 => (k3 e q1 q2).trans (l2 e q1 q2), k4, fun e q1 q2 q3 q4 q5 q6 => (k5 e q1 q2 q3 q4 q5 q6).trans (e2 e q1 q2 q3 q4 q5 q6)⟩
    have keep : Bst X1 v a b (f + 1) := by
      rcases hB with hB | ⟨e', P, T, q1, q2, q3, q4, q5, q6, q7, q8, q9⟩
      · exact Or.inl hB
      · have := l6 e' (by omega)
        exact Or.inr ⟨e', P, T, q1, q2, by omega, by omega, q5, q6, by rw [this.1]; exact q7, by rw [this.2]; exact q8, q9⟩
    rw [itn_s, itn_s]
    generalize itn (fX5_longest_13b N) (fun _ _ _ _ _ _ _ _ => none) u = K1 at go ⊢
    generalize itn (fX6_longest_23b N) (fun _ _ _ _ _ _ => none) w = K2 at go ⊢
    unfold fX5_longest_13b fX6_longest_23b
    rw [if_nlt (by omega) (by omega), if_nlt (by omega) (by omega), l1, bnd_s, e1, bnd_s]
    dsimp only
    rw [gdi_nI (by omega) (by omega), nI_clamp (by omega)]
    have ee := e3 z
    cases ek : kn p (x 4) f z with
    | none =>
      rw [if_bF (ee.1 ek)]
      rw [if_pos (show X1 9 f ≤ 0 from by rw [l4, ek]; show (-1 : Int32) ≤ 0; decide)]
      unfold fX5_longest_48 fX6_longest_74
      rw [nI_add, nm_s, nm_s]
      exact go _ _ _ keep
    | some o =>
      obtain ⟨P, T, b1, b2, b3, b4, b5, b6, _⟩ := pc_b (k := o.1) (n := o.2) hp (show 1 ≤ f ∧ f ≤ 5 from by omega) hC ek
      have eo := ee.2 o ek
      have n1 : M1 19 0 = nI P := eo.2.1.trans b1
      have n2 : M1 20 0 = nI T := eo.2.2.trans b2
      have x9 : X1 9 f = nI P := by rw [l4, ek]; exact b1
      have x10 : X1 10 f = nI T := by rw [l5, ek]; exact b2
      have new : Bst X1 (nI f) (nI P) (nI T) (f + 1) := Or.inr ⟨f, P, T, rfl, hf, by omega, by omega, rfl, rfl, x9, x10, b3, b4, b5, b6⟩
      rw [if_bT eo.1, if_neg (show ¬ X1 9 f ≤ 0 from by rw [x9]; exact nI_nle (by omega) (by omega))]
      rcases hB with ⟨rfl, rfl, rfl⟩ | ⟨e', Q, U, rfl, q2, q3, q4, rfl, rfl, q7, q8, q9, q10, q11, q12⟩
      · have cm := lcmp (a := P) (b := 1) (c := 0) (d := T) (by omega) (by omega) (by omega) (by omega)
        rw [if_pos (show (-1 : Int32) < nI 1 from by decide), if_pos (show 0 < lg_cmp ((M1 19 0).toInt64 * (nI 1).toInt64) ((nI 0).toInt64 * (M1 20 0).toInt64) from by rw [n1, n2]; exact cm.2.1.mpr (by omega)), n1, n2, nm_s, nm_s, nm_s]
        unfold fX5_longest_46 fX5_longest_48 fX6_longest_74
        rw [nm_s, nI_add, nm_s, nm_s]
        exact go _ _ _ new
      · have o9 : X1 9 e' = nI Q := by rw [(l6 e' (by omega)).1]; exact q7
        have o10 : X1 10 e' = nI U := by rw [(l6 e' (by omega)).2]; exact q8
        have cm := lcmp (a := P) (b := U) (c := Q) (d := T) (by omega) (by omega) (by omega) (by omega)
        rw [if_nlt (by omega) (by omega)]
        unfold fX5_isQuicker
        rw [gdi_nI (by omega) (by omega), gdi_nI (by omega) (by omega), gdi_nI (by omega) (by omega), gdi_nI (by omega) (by omega), nI_clamp (by omega), nI_clamp (by omega), x9, x10, o9, o10]
        by_cases cc : P * U ≤ Q * T
        · rw [if_pos (cm.1.mpr cc), bnd_s, if_e0 rfl, if_neg (show ¬ 0 < lg_cmp ((M1 19 0).toInt64 * (nI U).toInt64) ((nI Q).toInt64 * (M1 20 0).toInt64) from by rw [n1, n2]; exact fun y => by have := cm.2.1.mp y; omega)]
          unfold fX5_longest_48 fX6_longest_74
          rw [nI_add, nm_s, nm_s]
          exact go _ _ _ keep
        · rw [if_neg (fun y => cc (cm.1.mp y)), bnd_s, if_n0 (by omega) (by omega), if_pos (show 0 < lg_cmp ((M1 19 0).toInt64 * (nI U).toInt64) ((nI Q).toInt64 * (M1 20 0).toInt64) from by rw [n1, n2]; exact cm.2.1.mpr (by omega)), n1, n2, nm_s, nm_s, nm_s]
          unfold fX5_longest_46 fX5_longest_48 fX6_longest_74
          rw [nm_s, nI_add, nm_s, nm_s]
          exact go _ _ _ new
theorem SP15_ok {N : Nat} (hN : 100000 < N) : SP15 N Rel := by
  intro c FL M ML h _
  have h1 := Rel_0 (v := fun _ => nI 0) h
  unfold fX6_longest
  rw [nm_s]
  generalize va_up M 0 (fun _ => nI 0) = M1 at h1 ⊢
  obtain ⟨p, p1, b6, b7, s1, s14, hw⟩ := Rel_base h1
  have same : Rel (va_up (va_up (va_up c 0 (c 0)) 2 (c 2)) 6 (c 6)) FL M1 ML := Rel_mv (fun a q1 q2 => by
    rw [va_up_ne _ _ q2, va_up_ne _ _ q1]
    by_cases e : a = 0
    · rw [e, va_up_self]
    · rw [va_up_ne _ _ e]) (fun _ _ => rfl) h1
  unfold fX5_longest
  rw [p1]
  rcases hw with z | ⟨g, x, w⟩
  · rw [empty_T z.1, there_F z.2.2, bnd_s, bnd_s, if_n0 (by omega) (by omega), if_e0 rfl]
    exact ⟨_, _, rfl, rfl, rfl, same⟩
  · obtain ⟨w1, w2, w3, w4, w5, w6⟩ := id w
    have S := w4.2.2.2.1
    have hx := w4.1.1
    obtain ⟨r, X', J', F', FL', M', ML', k1, k2, k3, k4, k5⟩ := lng w1 w2 hx (N := N) (by omega) (Wk_C w) w4.2.1 (d := 5) (f := 1) (u := N) (w := N) (X := c 0) (J := c 2) (F := c 6) (FL := FL) (M := M1) (ML := ML) (v := -1) (a := nI 0) (b := nI 1) (by omega) (by omega) (by omega) (by omega) w6 S (Or.inl ⟨rfl, rfl, rfl⟩)
    have fin : Rel (va_up (va_up (va_up c 0 X') 2 J') 6 F') FL' M' ML' := Rel_kn h1 p1 w (fun a _ q2 q3 => k3 a q2 q3) k4 (fun a ha => k5 a (by omega) (by omega) (by omega) (by omega) (by omega) (by omega))
    rw [empty_F w1, there_T S.1.1.1, bnd_s, bnd_s, if_e0 rfl, if_n0 (by omega) (by omega), w3, nm_s, nm_s, nm_s, nm_s, nm_s, nm_s]
    unfold fX5_longest_13 fX6_longest_23
    rw [k1, k2]
    exact ⟨_, _, rfl, rfl, rfl, fin⟩
/-! least -/
theorem c_rcB {p : Nx} (hp : PI p) {X : Rc} {C : Nat → Nat} {r : Nat} (hX : ∀ i, i < 5 → X 6 i = nI (C i)) (hr : r < p 7 0 + p 6 0) : fX5_ringCardsb X (embP p) (nI r) = some (nI (rgC p C r)) := by
  have hn := hp.n
  have hq := hp.q
  unfold fX5_ringCardsb rgC
  rw [embP_a]
  by_cases c : r < p 7 0
  · rw [if_nle (by omega) (by omega), gdi_nI (by omega) (by omega), nI_clamp (by omega), hX r (by omega), if_pos c]
  · rw [if_le (by omega) (by omega), if_neg c]
theorem rgC_bC {p : Nx} {C : Nat → Nat} (hC : ∀ l, l < p 7 0 → 1 ≤ C l ∧ C l ≤ 20) {r : Nat} : 1 ≤ rgC p C r ∧ rgC p C r ≤ 20 := by
  unfold rgC
  by_cases c : r < p 7 0
  · rw [if_pos c]; exact hC r c
  · rw [if_neg c]; omega
theorem c_forb {p : Nx} (hp : PI p) {X : Rc} {C : Nat → Nat} {N n m : Nat} (hN : 100 < N) (hX : ∀ i, i < 5 → X 6 i = nI (C i)) (hC : ∀ l, l < p 7 0 → 1 ≤ C l ∧ C l ≤ 20) (hn : n ≤ 99) (hm : m ≤ 99) : ∀ {d r u : Nat}, d < u → r + d = p 7 0 + p 6 0 → ∃ b, itn (fX5_isForbidden_3b N) (fun _ _ _ _ _ => none) u X (embP p) (nI n) (nI m) (nI r) = some (bI b) ∧ (b = true → ∃ r, r < p 7 0 + p 6 0 ∧ m * rgC p C r < n * rgM p r)
  | _, _, 0, h, _ => by omega
  | 0, r, u + 1, _, e => by
    have h1 := hp.n
    have h2 := hp.q
    refine ⟨false, ?_, fun z => by cases z⟩
    rw [itn_s]
    unfold fX5_isForbidden_3b
    rw [embP_a, embP_a, nI_add, if_le (by omega) (by omega)]
    rfl
  | d + 1, r, u + 1, hu, e => by
    have h1 := hp.n
    have h2 := hp.q
    have m1 := rg_b hp (r := r) (by omega)
    have c1 := rgC_bC (p := p) hC (r := r)
    have q1 : n * rgM p r ≤ 99 * 360 := Nat.mul_le_mul hn m1.2.2
    have q2 : m * rgC p C r ≤ 99 * 20 := Nat.mul_le_mul hm c1.2
    obtain ⟨b, i1, i2⟩ := c_forb hp hN hX hC hn hm (d := d) (r := r + 1) (u := u) (by omega) (by omega)
    rw [itn_s]
    generalize itn (fX5_isForbidden_3b N) (fun _ _ _ _ _ => none) u = K at i1 ⊢
    unfold fX5_isForbidden_3b
    rw [embP_a, embP_a, nI_add, if_nle (by omega) (by omega), c_rm hp hN (by omega), bnd_s, c_rcB hp hX (by omega), bnd_s, pk_mul, pk_mul]
    by_cases c : n * rgM p r ≤ m * rgC p C r
    · rw [if_le c (by omega), nI_add, nm_s]
      exact ⟨b, i1, i2⟩
    · rw [if_nle (by omega) (by omega)]
      exact ⟨true, rfl, fun _ => ⟨r, by omega, by omega⟩⟩
theorem c_reach {p : Nx} (hp : PI p) {X J F : Rc} {FL : RcL} {C : Nat → Nat} {N n m : Nat} (hN : 1600 < N) (hX : ∀ i, i < 5 → X 6 i = nI (C i)) (hC : ∀ l, l < p 7 0 → 1 ≤ C l ∧ C l ≤ 20) (hn : 1 ≤ n ∧ n ≤ 99) (hm : 1 ≤ m ∧ m ≤ 99) : ∃ b J' F' FL' z, fX5_reaches N X (embP p) J F FL (nI n) (nI m) = some (bI b, (J', F', FL')) ∧ (kn p C 1 z = none → b = false) ∧ ∀ o, kn p C 1 z = some o → ∃ P T, pcP p (sRound p (sClr z C 1)) (some o) = nI P ∧ pcM p (sRound p (sClr z C 1)) (some o) = nI T ∧ 1 ≤ P ∧ P ≤ 1500 ∧ 1 ≤ T ∧ T ≤ 18180000 ∧ (b = true ↔ n * T ≤ P * m) := by
  have h1 := hp.n
  have h2 := hp.q
  obtain ⟨fb, f1, f2⟩ := c_forb hp (N := N) (by omega) hX hC hn.2 hm.2 (d := p 7 0 + p 6 0) (r := 0) (u := N) (by omega) (by omega)
  have ff : fX5_isForbidden N X (embP p) (nI n) (nI m) = some (bI fb) := by
    unfold fX5_isForbidden
    rw [nm_s]
    exact f1
  unfold fX5_reaches fX5_reaches_61
  rw [ff, bnd_s]
  cases fb with
  | true =>
    obtain ⟨r, r1, r2⟩ := f2 rfl
    rw [if_bT rfl]
    refine ⟨false, J, F, FL, fun _ _ => 0, rfl, fun _ => rfl, fun o ho => ?_⟩
    obtain ⟨P, T, b1, b2, b3, b4, b5, b6, b7⟩ := pc_b (k := o.1) (n := o.2) hp (by omega) hC ho
    refine ⟨P, T, b1, b2, b3, b4, b5, b6, fun z => (by cases z), fun z => absurd z (forbid (b7 r r1) (by omega) r2)⟩
  | false =>
    obtain ⟨j, rfl⟩ := embL_all J
    obtain ⟨y, G, GL, s1, s2, s3⟩ := s_search (x := j) (C := C) (D := X 6) (f := 1) hp hN (by omega) hC hX F FL
    rw [if_bF rfl, s1, bnd_s]
    dsimp only
    cases ek : kn p C 1 j with
    | none =>
      rw [show paceAt p (sRound p (sClr j C 1)) 1500 0 = none from ek] at s2
      rw [if_pos (show G 6 0 ≤ 0 from by rw [s2]; show (-1 : Int32) ≤ 0; decide)]
      exact ⟨false, _, _, _, j, rfl, fun _ => rfl, fun o ho => by rw [ek] at ho; cases ho⟩
    | some o =>
      obtain ⟨P, T, b1, b2, b3, b4, b5, b6, b7⟩ := pc_b (k := o.1) (n := o.2) hp (by omega) hC ek
      rw [show paceAt p (sRound p (sClr j C 1)) 1500 0 = some o from ek] at s2 s3
      have g6 : G 6 0 = nI P := s2.trans b1
      have g7 : G 7 0 = nI T := s3.trans b2
      rw [if_neg (show ¬ G 6 0 ≤ 0 from by rw [g6]; exact nI_nle (by omega) (by omega))]
      have cm := lcmp (a := P) (b := m) (c := n) (d := T) (by omega) (by omega) (by omega) (by omega)
      by_cases cc : P * m < n * T
      · rw [if_pos (show lg_cmp ((G 6 0).toInt64 * (nI m).toInt64) ((nI n).toInt64 * (G 7 0).toInt64) < 0 from by rw [g6, g7]; exact cm.2.2.mpr cc)]
        refine ⟨false, _, _, _, j, rfl, fun _ => rfl, fun o' ho' => ?_⟩
        rw [ek] at ho'
        cases ho'
        exact ⟨P, T, b1, b2, b3, b4, b5, b6, fun z => (by cases z), fun z => by omega⟩
      · rw [if_neg (show ¬ lg_cmp ((G 6 0).toInt64 * (nI m).toInt64) ((nI n).toInt64 * (G 7 0).toInt64) < 0 from by rw [g6, g7]; exact fun z => cc (cm.2.2.mp z))]
        refine ⟨true, _, _, _, j, rfl, fun z => (by rw [ek] at z; cases z), fun o' ho' => ?_⟩
        rw [ek] at ho'
        cases ho'
        exact ⟨P, T, b1, b2, b3, b4, b5, b6, fun _ => (by omega), fun _ => rfl⟩
def setC (C : Nat → Nat) (l k : Nat) : Nat → Nat := fun i => if i = l then k else C i
theorem lst_loop {p g x : Nx} {N l n m : Nat} (hp : PI p) (hg : GI p g) (hx : LI p x) (hN : 1600 < N) (hl : l < p 7 0) (hn : 1 ≤ n ∧ n ≤ 99) (hm : 1 ≤ m ∧ m ≤ 99) (h7 : x 7 0 = 1) : ∀ {d k u w : Nat} {X J F : Rc} {FL : RcL} {M : Rc} {ML : RcL}, d < u → d < w → k + d = 21 → 1 ≤ k → RelS p g x (M 11) → (∀ i, i < 5 → i ≠ l → X 6 i = nI (x 4 i)) → ∃ r X' J' F' FL' M' ML', itn (fX5_least_38b N) (fun _ _ _ _ _ _ _ _ _ _ => none) u X (embP p) (embL x) J F FL (nI l) (nI n) (nI m) (nI k) = some (r, (X', J', F', FL')) ∧ itn (fX6_least_38b N) (fun _ _ _ _ _ _ => none) w M ML (nI l) (nI n) (nI m) (nI k) = some (r, (M', ML')) ∧ (∀ e, e ≠ 6 → X' e = X e) ∧ ∀ e, e ≠ 13 → e ≠ 16 → e ≠ 17 → e ≠ 19 → e ≠ 20 → e ≠ 21 → M' e = M e
  | _, _, 0, _, _, _, _, _, _, _, h, _, _, _, _, _ => by omega
  | _, _, _ + 1, 0, _, _, _, _, _, _, _, h, _, _, _, _ => by omega
  | 0, k, u + 1, w + 1, X, J, F, FL, M, ML, _, _, e, _, _, _ => by
    refine ⟨-2, X, J, F, FL, M, ML, ?_, ?_, fun _ _ => rfl, fun _ _ _ _ _ _ _ => rfl⟩
    · rw [itn_s]
      unfold fX5_least_38b
      rw [if_lt (by omega) (by omega)]
    · rw [itn_s]
      unfold fX6_least_38b
      rw [if_lt (by omega) (by omega)]
  | d + 1, k, u + 1, w + 1, X, J, F, FL, M, ML, hu, hw, e, hk, S, hX => by
    have hq := hp.q
    have hC : ∀ i, i < p 7 0 → 1 ≤ setC (x 4) l k i ∧ setC (x 4) l k i ≤ 20 := by
      intro i hi
      have := hx.l hi
      unfold setC
      by_cases c : i = l
      · rw [if_pos c]; omega
      · rw [if_neg c]; omega
    generalize hX1 : va_up X 6 (upd (X 6) l (nI k)) = X1
    have x6 : ∀ i, i < 5 → X1 6 i = nI (setC (x 4) l k i) := by
      intro i hi
      rw [← hX1, va_up_self]
      unfold setC
      by_cases c : i = l
      · rw [upd_eq c, if_pos c]
      · rw [upd_ne c, if_neg c, hX i hi c]
    have xo : ∀ e, e ≠ 6 → X1 e = X e := fun e he => by rw [← hX1, va_up_ne _ _ he]
    obtain ⟨b, J1, F1, FL1, z, r1, r2, r3⟩ := c_reach hp (X := X1) (J := J) (F := F) (FL := FL) (N := N) hN x6 hC hn hm
    obtain ⟨V, v1, v2⟩ := copy_now (M := M) (N := N) (by omega) hp hg hx S
    have st := v2.1
    rw [h7] at st
    have st2 : Stat p g (setC (x 4) l k) 1 (upd V (15 + 4 * l + 2) (nI k)) := by
      have hn6 := hp.n
      have h8 := hg.1
      refine ⟨⟨?_, ?_, ?_, ?_⟩, fun j hj => ?_, fun i hi => ?_, fun r hr => ?_⟩
      · rw [upd_ne (by omega)]; exact st.1.1
      · rw [upd_ne (by omega)]; exact st.1.2.1
      · rw [upd_ne (by omega)]; exact st.1.2.2.1
      · rw [upd_ne (by omega)]; exact st.1.2.2.2
      · rw [upd_ne (by omega), upd_ne (by omega)]; exact st.2.1 j hj
      · have q := st.2.2.1 i hi
        unfold setC
        by_cases c : i = l
        · subst c
          rw [upd_ne (by omega), upd_ne (by omega), upd_eq rfl, if_pos rfl]
          exact ⟨q.1, q.2.1, rfl⟩
        · rw [upd_ne (by omega), upd_ne (by omega), upd_ne (by omega), if_neg c]
          exact q
      · rw [upd_ne (by omega), upd_ne (by omega)]; exact st.2.2.2 r hr
    obtain ⟨bb, M1, ML1, e1, e2, e3⟩ := m_laysA (f := 1) (N := N) (M := va_up (va_up M 13 V) 13 (upd V (15 + 4 * l + 2) (nI k))) (ML := ML) hp hg hN (by omega) hC (by rw [va_up_self]; exact st2)
    have mo : ∀ e, e ≠ 13 → e ≠ 16 → e ≠ 17 → e ≠ 19 → e ≠ 20 → e ≠ 21 → M1 e = M e := fun e q1 q2 q3 q4 q5 q6 => by rw [e2 e q1 q2 q3 q4 q5 q6, va_up_ne _ _ q1, va_up_ne _ _ q1]
    have S1 : RelS p g x (M1 11) := by rw [mo 11 (by omega) (by omega) (by omega) (by omega) (by omega) (by omega)]; exact S
    have cst : fX5_least_38b N (itn (fX5_least_38b N) (fun _ _ _ _ _ _ _ _ _ _ => none) u) X (embP p) (embL x) J F FL (nI l) (nI n) (nI m) (nI k) = if bI b = 0 then itn (fX5_least_38b N) (fun _ _ _ _ _ _ _ _ _ _ => none) u X1 (embP p) (embL x) J1 F1 FL1 (nI l) (nI n) (nI m) (nI (k + 1)) else some (nI k, (X1, J1, F1, FL1)) := by
      generalize itn (fX5_least_38b N) (fun _ _ _ _ _ _ _ _ _ _ => none) u = K
      unfold fX5_least_38b
      rw [if_nlt (by omega) (by omega), gdi_nI (by omega) (by omega), nI_clamp (by omega), hX1, nm_s, r1, bnd_s]
      dsimp only
      rw [nI_add, nm_s]
    have mst : fX6_least_38b N (itn (fX6_least_38b N) (fun _ _ _ _ _ _ => none) w) M ML (nI l) (nI n) (nI m) (nI k) = if bI bb = 0 then itn (fX6_least_38b N) (fun _ _ _ _ _ _ => none) w M1 ML1 (nI l) (nI n) (nI m) (nI (k + 1)) else if M1 19 0 * nI m < nI n * M1 20 0 then itn (fX6_least_38b N) (fun _ _ _ _ _ _ => none) w M1 ML1 (nI l) (nI n) (nI m) (nI (k + 1)) else some (nI k, (M1, ML1)) := by
      generalize itn (fX6_least_38b N) (fun _ _ _ _ _ _ => none) w = K
      unfold fX6_least_38b fX6_least_98
      rw [if_nlt (by omega) (by omega), v1, bnd_s, nm_s, pk_mul, nI_add, nI_add, gdi_nI (by omega) (by omega), nI_clamp (by omega), va_up_self, nm_s, e1, bnd_s]
      dsimp only
      rw [nI_add, nm_s]
    have go : ∃ r X' J' F' FL' M' ML', itn (fX5_least_38b N) (fun _ _ _ _ _ _ _ _ _ _ => none) u X1 (embP p) (embL x) J1 F1 FL1 (nI l) (nI n) (nI m) (nI (k + 1)) = some (r, (X', J', F', FL')) ∧ itn (fX6_least_38b N) (fun _ _ _ _ _ _ => none) w M1 ML1 (nI l) (nI n) (nI m) (nI (k + 1)) = some (r, (M', ML')) ∧ (∀ e, e ≠ 6 → X' e = X e) ∧ ∀ e, e ≠ 13 → e ≠ 16 → e ≠ 17 → e ≠ 19 → e ≠ 20 → e ≠ 21 → M' e = M e := by
      obtain ⟨r, X', J', F', FL', M', ML', k1, k2, k3, k4⟩ := lst_loop hp hg hx hN hl hn hm h7 (d := d) (k := k + 1) (u := u) (w := w) (X := X1) (J := J1) (F := F1) (FL := FL1) (M := M1) (ML := ML1) (by omega) (by omega) (by omega) (by omega) S1 (fun i hi hne => by rw [x6 i hi]; unfold setC; rw [if_neg hne])
      exact ⟨r, X', J', F', FL', M', ML', k1, k2, fun e he => (k3 e he).trans (xo e he), fun e q1 q2 q3 q4 q5 q6 => (k4 e q1 q2 q3 q4 q5 q6).trans (mo e q1 q2 q3 q4 q5 q6)⟩
    rw [itn_s, itn_s, cst, mst]
    have ee := e3 z
    cases ek : kn p (setC (x 4) l k) 1 z with
    | none =>
      rw [if_bF (r2 ek), if_bF (ee.1 ek)]
      exact go
    | some o =>
      obtain ⟨P, T, b1, b2, b3, b4, b5, b6, b7⟩ := r3 o ek
      have eo := ee.2 o ek
      have pm : P * m ≤ 1500 * 99 := Nat.mul_le_mul b4 hm.2
      have nt : n * T ≤ 99 * 18180000 := Nat.mul_le_mul hn.2 b6
      rw [if_bT eo.1]
      by_cases cc : n * T ≤ P * m
      · rw [if_bT (b7.mpr cc), if_neg (show ¬ M1 19 0 * nI m < nI n * M1 20 0 from by rw [eo.2.1.trans b1, eo.2.2.trans b2, pk_mul, pk_mul, nI_ltI (by omega) (by omega)]; omega)]
        exact ⟨nI k, X1, J1, F1, FL1, M1, ML1, rfl, rfl, xo, mo⟩
      · rw [if_bF (Bool.eq_false_iff.mpr (fun z => cc (b7.mp z))), if_pos (show M1 19 0 * nI m < nI n * M1 20 0 from by rw [eo.2.1.trans b1, eo.2.2.trans b2, pk_mul, pk_mul, nI_ltI (by omega) (by omega)]; omega)]
        exact go
theorem SP13_ok {N : Nat} (hN : 100000 < N) : SP13 N Rel := by
  intro c FL M ML h a1 a2 a3
  have h1 := Rel_0 (v := fun _ => nI 0) h
  unfold fX6_least
  rw [nm_s]
  generalize va_up M 0 (fun _ => nI 0) = M1 at h1 ⊢
  obtain ⟨p, p1, b6, b7, s1, s14, hw⟩ := Rel_base h1
  have same : Rel (va_up (va_up (va_up c 0 (c 0)) 2 (c 2)) 6 (c 6)) FL M1 ML := Rel_mv (fun a q1 q2 => by
    rw [va_up_ne _ _ q2, va_up_ne _ _ q1]
    by_cases e : a = 0
    · rw [e, va_up_self]
    · rw [va_up_ne _ _ e]) (fun _ _ => rfl) h1
  unfold fX5_least fX5_least_16 fX6_least_33
  rw [p1]
  rcases both_lp (ML := ML) (X := c 0) (x := a1) b7 s14 with ⟨l, hl, rfl, e1, e2⟩ | ⟨e1, e2⟩
  · rcases hw with z | ⟨g, x, w⟩
    · omega
    obtain ⟨w1, w2, w3, w4, w5, w6⟩ := id w
    have S := w4.2.2.2.1
    have hx := w4.1.1
    rw [e1, e2, bnd_s, bnd_s, if_n0 (by omega) (by omega), if_n0 (by omega) (by omega), w3]
    rcases prom (x := a2) (y := a3) with ⟨n, m, n1, n2, m1, m2, rfl, rfl, q1, q2, q3⟩ | ⟨q1, q2⟩
    · generalize hX1 : va_up (c 0) 6 (va_cpy (embL x 4) (c 0 6) 0 0 5) = X1
      have x6 : ∀ i, i < 5 → i ≠ l → X1 6 i = nI (x 4 i) := by
        intro i hi _
        rw [← hX1, va_up_self, pk_cpy_in (by omega) (by omega), show 0 + (i - 0) = i from by omega, embL_a (by omega)]
      obtain ⟨r, X', J', F', FL', M', ML', k1, k2, k3, k4⟩ := lst_loop w1 w2 hx (N := N) (by omega) hl ⟨n1, n2⟩ ⟨m1, m2⟩ w4.2.1 (d := 20) (k := 1) (u := N) (w := N) (X := X1) (J := c 2) (F := c 6) (FL := FL) (M := M1) (ML := ML) (by omega) (by omega) (by omega) (by omega) S x6
      have xo : ∀ a, a ≠ 6 → X' a = c 0 a := fun a ha => by rw [k3 a ha, ← hX1, va_up_ne _ _ ha]
      have kk : KN p (x 4) X' := by
        intro f f1 f2
        rw [xo 9 (by omega), xo 10 (by omega)]
        exact w6 f f1 f2
      have fin : Rel (va_up (va_up (va_up c 0 X') 2 J') 6 F') FL' M' ML' := Rel_kn h1 p1 w (fun a q1 _ _ => xo a q1) kk (fun a ha => k4 a (by omega) (by omega) (by omega) (by omega) (by omega) (by omega))
      rw [q1, q2, q3, bnd_s, bnd_s, bnd_s, if_n0 (by omega) (by omega), if_n0 (by omega) (by omega), if_n0 (by omega) (by omega), nm_s, nm_s, nm_s]
      unfold fX5_least_38 fX6_least_38
      rw [k1, k2]
      exact ⟨_, _, rfl, rfl, rfl, fin⟩
    · rw [q1, bnd_s, if_e0 rfl]
      rcases q2 with q2 | ⟨q2, q3⟩
      · rw [q2, bnd_s, if_e0 rfl]; exact ⟨_, _, rfl, rfl, rfl, same⟩
      · rw [q2, q3, bnd_s, bnd_s, if_n0 (by omega) (by omega), if_e0 rfl]; exact ⟨_, _, rfl, rfl, rfl, same⟩
  · rw [e1, e2, bnd_s, bnd_s, if_e0 rfl, if_e0 rfl]
    exact ⟨_, _, rfl, rfl, rfl, same⟩
end
section
/-! history -/
def HRk (p g : Nx) (Y : Rc) (K : Nat → Rc) (S : Nat → Int32) (m : Int32) : Prop := ∃ n d, n ≤ 8 ∧ d < 8 ∧ Y 1 0 = nI n ∧ Y 2 0 = nI d ∧ m = nI n ∧ ∀ i, i < n → ∃ y, K ((d + 7 - i) % 8) = embL y ∧ Lst p g y (fun j => S (353 * (n - 1 - i) + j))
theorem HR_k {p g : Nx} {c : Nat → Rc} {M : Rc} (h : HR p g c M) : HRk p g (c 7) (fun i => c (8 + i)) (M 14) (M 15 0) := h
theorem HRk_congr {p g : Nx} {Y : Rc} {K K' : Nat → Rc} {S : Nat → Int32} {m : Int32} (hK : ∀ i, i < 8 → K' i = K i) (h : HRk p g Y K S m) : HRk p g Y K' S m := by
  obtain ⟨n, d, h1, h2, h3, h4, h5, h6⟩ := h
  refine ⟨n, d, h1, h2, h3, h4, h5, fun i hi => ?_⟩
  rw [hK _ (by omega)]
  exact h6 i hi
theorem c_keep {x : Nx} {Y : Rc} {c : Nat → Rc} {n d : Nat} (hn : n ≤ 8) (hd : d < 8) (h1 : Y 1 0 = nI n) (h2 : Y 2 0 = nI d) : ∃ (Y' : Rc) (K' : Nat → Rc) (y : Nx), fX0_keep (embL x) Y (c 8) (c 9) (c 10) (c 11) (c 12) (c 13) (c 14) (c 15) = some (Y', K' 0, K' 1, K' 2, K' 3, K' 4, K' 5, K' 6, K' 7) ∧ Y' 1 0 = nI (min (n + 1) 8) ∧ Y' 2 0 = nI ((d + 1) % 8) ∧ (∀ i, i < 8 → i ≠ d → K' i = c (8 + i)) ∧ K' d = embL y ∧ Agr x y ∧ ∀ i, i < 24 → y 6 i = x 6 i := by
  have e2 : (nI d + nI 1) - (nI d + nI 1) / nI 8 * nI 8 = nI ((d + 1) % 8) := by
    rw [nI_add, nI_div (by omega) (by omega) (by omega), pk_mul, nI_subdiv]
  have e1 : (if nI 8 < nI n + nI 1 then nI 8 else nI n + nI 1) = nI (min (n + 1) 8) := by
    rw [nI_add]
    by_cases c : 8 < n + 1
    · rw [if_lt c (by omega), show min (n + 1) 8 = 8 from by omega]
    · rw [if_nlt (by omega) (by omega), show min (n + 1) 8 = n + 1 from by omega]
  have y21 : va_up Y 2 (fun _ => nI ((d + 1) % 8)) 1 0 = nI n := by rw [va_up_ne _ _ (by omega)]; exact h1
  have f1 : va_up (va_up Y 2 (fun _ => nI ((d + 1) % 8))) 1 (fun _ => nI (min (n + 1) 8)) 1 0 = nI (min (n + 1) 8) := by rw [va_up_self]
  have f2 : va_up (va_up Y 2 (fun _ => nI ((d + 1) % 8))) 1 (fun _ => nI (min (n + 1) 8)) 2 0 = nI ((d + 1) % 8) := by rw [va_up_ne _ _ (by omega), va_up_self]
  unfold fX0_keep
  rw [h2, e2]
  rcases (show d = 0 ∨ d = 1 ∨ d = 2 ∨ d = 3 ∨ d = 4 ∨ d = 5 ∨ d = 6 ∨ d = 7 from by omega) with rfl | rfl | rfl | rfl | rfl | rfl | rfl | rfl
  · obtain ⟨y, hy⟩ := embL_all (c 8)
    rw [if_eq rfl, hy, s_copy, bnd_s, nm_s, y21, e1, nm_s]
    refine ⟨_, fun i => if i = 0 then embL (sCpy y x) else c (8 + i), sCpy y x, rfl, f1, f2, fun i _ hi => if_neg hi, rfl, cpy_agr y x, fun i hi => cpy_6 hi⟩
  · obtain ⟨y, hy⟩ := embL_all (c 9)
    rw [if_neq (by omega) (by omega) (by omega), if_eq rfl, hy, s_copy, bnd_s, nm_s, y21, e1, nm_s]
    refine ⟨_, fun i => if i = 1 then embL (sCpy y x) else c (8 + i), sCpy y x, rfl, f1, f2, fun i _ hi => if_neg hi, rfl, cpy_agr y x, fun i hi => cpy_6 hi⟩
  · obtain ⟨y, hy⟩ := embL_all (c 10)
    rw [if_neq (by omega) (by omega) (by omega), if_neq (by omega) (by omega) (by omega), if_eq rfl, hy, s_copy, bnd_s, nm_s, y21, e1, nm_s]
    refine ⟨_, fun i => if i = 2 then embL (sCpy y x) else c (8 + i), sCpy y x, rfl, f1, f2, fun i _ hi => if_neg hi, rfl, cpy_agr y x, fun i hi => cpy_6 hi⟩
  · obtain ⟨y, hy⟩ := embL_all (c 11)
    rw [if_neq (by omega) (by omega) (by omega), if_neq (by omega) (by omega) (by omega), if_neq (by omega) (by omega) (by omega), if_eq rfl, hy, s_copy, bnd_s, nm_s, y21, e1, nm_s]
    refine ⟨_, fun i => if i = 3 then embL (sCpy y x) else c (8 + i), sCpy y x, rfl, f1, f2, fun i _ hi => if_neg hi, rfl, cpy_agr y x, fun i hi => cpy_6 hi⟩
  · obtain ⟨y, hy⟩ := embL_all (c 12)
    rw [if_neq (by omega) (by omega) (by omega), if_neq (by omega) (by omega) (by omega), if_neq (by omega) (by omega) (by omega), if_neq (by omega) (by omega) (by omega), if_eq rfl, hy, s_copy, bnd_s, nm_s, y21, e1, nm_s]
    refine ⟨_, fun i => if i = 4 then embL (sCpy y x) else c (8 + i), sCpy y x, rfl, f1, f2, fun i _ hi => if_neg hi, rfl, cpy_agr y x, fun i hi => cpy_6 hi⟩
  · obtain ⟨y, hy⟩ := embL_all (c 13)
    rw [if_neq (by omega) (by omega) (by omega), if_neq (by omega) (by omega) (by omega), if_neq (by omega) (by omega) (by omega), if_neq (by omega) (by omega) (by omega), if_neq (by omega) (by omega) (by omega), if_eq rfl, hy, s_copy, bnd_s, nm_s, y21, e1, nm_s]
    refine ⟨_, fun i => if i = 5 then embL (sCpy y x) else c (8 + i), sCpy y x, rfl, f1, f2, fun i _ hi => if_neg hi, rfl, cpy_agr y x, fun i hi => cpy_6 hi⟩
  · obtain ⟨y, hy⟩ := embL_all (c 14)
    rw [if_neq (by omega) (by omega) (by omega), if_neq (by omega) (by omega) (by omega), if_neq (by omega) (by omega) (by omega), if_neq (by omega) (by omega) (by omega), if_neq (by omega) (by omega) (by omega), if_neq (by omega) (by omega) (by omega), if_eq rfl, hy, s_copy, bnd_s, nm_s, y21, e1, nm_s]
    refine ⟨_, fun i => if i = 6 then embL (sCpy y x) else c (8 + i), sCpy y x, rfl, f1, f2, fun i _ hi => if_neg hi, rfl, cpy_agr y x, fun i hi => cpy_6 hi⟩
  · obtain ⟨y, hy⟩ := embL_all (c 15)
    rw [if_neq (by omega) (by omega) (by omega), if_neq (by omega) (by omega) (by omega), if_neq (by omega) (by omega) (by omega), if_neq (by omega) (by omega) (by omega), if_neq (by omega) (by omega) (by omega), if_neq (by omega) (by omega) (by omega), if_neq (by omega) (by omega) (by omega), if_eq rfl, hy, s_copy, bnd_s, nm_s, y21, e1, nm_s]
    refine ⟨_, fun i => if i = 7 then embL (sCpy y x) else c (8 + i), sCpy y x, rfl, f1, f2, fun i _ hi => if_neg hi, rfl, cpy_agr y x, fun i hi => cpy_6 hi⟩
theorem m_sh {ML : RcL} {N : Nat} : ∀ {d i u : Nat} {M : Rc}, d < u → i + d = 2471 → ∃ S, itn (fX6_snap_11b N) (fun _ _ _ => none) u M ML (nI i) = fX6_snap_50 N (va_up (va_up M 14 S) 15 (fun _ => M 15 0 - nI 1)) ML ∧ (∀ j, j < i → S j = M 14 j) ∧ (∀ j, i ≤ j → j < 2471 → S j = M 14 (j + 353))
  | _, _, 0, _, h, _ => by omega
  | 0, i, u + 1, M, _, e => by
    refine ⟨M 14, ?_, fun _ _ => rfl, fun j h1 h2 => by omega⟩
    rw [itn_s]
    unfold fX6_snap_11b
    rw [if_le (by omega) (by omega), nm_s]
    congr 2
    funext a
    by_cases c : a = 14
    · rw [c, va_up_self]
    · rw [va_up_ne _ _ c]
  | d + 1, i, u + 1, M, hu, e => by
    obtain ⟨S, r1, r2, r3⟩ := m_sh (ML := ML) (N := N) (d := d) (i := i + 1) (u := u) (M := va_up M 14 (upd (M 14) i (M 14 (i + 353)))) (by omega) (by omega)
    refine ⟨S, ?_, fun j hj => ?_, fun j h1 h2 => ?_⟩
    · rw [itn_s]
      generalize itn (fX6_snap_11b N) (fun _ _ _ => none) u = K at r1 ⊢
      unfold fX6_snap_11b
      rw [if_nle (by omega) (by omega), nI_add, gdi_nI (by omega) (by omega), gdi_nI (by omega) (by omega), nI_clamp (by omega), nI_clamp (by omega), nm_s, nI_add, nm_s, r1, va_up_ne _ _ (show (15 : Nat) ≠ 14 from by omega), bx_uu]
    · rw [r2 j (by omega), va_up_self, upd_ne (by omega)]
    · by_cases c : j = i
      · rw [r2 j (by omega), va_up_self, upd_eq c, c]
      · rw [r3 j (by omega) h2, va_up_self, upd_ne (by omega)]
theorem m_s50 {M : Rc} {ML : RcL} {N n : Nat} (hN : 400 < N) (hn : n < 8) (h : M 15 0 = nI n) : ∃ M', fX6_snap_50 N M ML = some M' ∧ M' 15 0 = nI (n + 1) ∧ (∀ j, j < 353 → M' 14 (353 * n + j) = M 11 j) ∧ (∀ j, j < 353 * n → M' 14 j = M 14 j) ∧ ∀ a, a ≠ 14 → a ≠ 15 → M' a = M a := by
  have cp := m_copy (nU := 353) (nV := 2824) (N := N) (a := 0) (b := 353 * n) hN (by omega) (by omega) (by omega) (by omega) (U := M 11) (V := M 14)
  unfold fX6_snap_50
  rw [h, pk_mul, cp, bnd_s, nm_s, va_up_ne _ _ (show (15 : Nat) ≠ 14 from by omega), h, nI_add, nm_s]
  refine ⟨_, rfl, ?_, fun j hj => ?_, fun j hj => ?_, fun a h1 h2 => ?_⟩
  · rw [va_up_self]
  · rw [va_up_ne _ _ (by omega), va_up_self, if_pos (by omega), show 0 + (353 * n + j - 353 * n) = j from by omega]
  · rw [va_up_ne _ _ (by omega), va_up_self, if_neg (by omega)]
  · rw [va_up_ne _ _ h2, va_up_ne _ _ h1]
theorem m_snap {M : Rc} {ML : RcL} {N n : Nat} (hN : 3000 < N) (hn : n ≤ 8) (h : M 15 0 = nI n) : ∃ M', fX6_snap N M ML = some M' ∧ M' 15 0 = nI (min (n + 1) 8) ∧ (∀ j, j < 353 → M' 14 (353 * (min (n + 1) 8 - 1) + j) = M 11 j) ∧ (∀ k j, k + 1 < min (n + 1) 8 → j < 353 → M' 14 (353 * k + j) = M 14 (353 * (k + n + 1 - min (n + 1) 8) + j)) ∧ ∀ a, a ≠ 14 → a ≠ 15 → M' a = M a := by
  unfold fX6_snap
  rw [h]
  by_cases c : n = 8
  · subst c
    obtain ⟨S, r1, r2, r3⟩ := m_sh (ML := ML) (N := N) (d := 2471) (i := 0) (u := N) (M := M) (by omega) (by omega)
    rw [h, nI_sub' (by omega)] at r1
    obtain ⟨M', a1, a2, a3, a4, a5⟩ := m_s50 (M := va_up (va_up M 14 S) 15 (fun _ => nI (8 - 1))) (ML := ML) (N := N) (n := 7) (by omega) (by omega) (by rw [va_up_self])
    rw [if_eq rfl, nm_s]
    unfold fX6_snap_11
    refine ⟨M', by rw [r1, a1], a2, fun j hj => ?_, fun k j hk hj => ?_, fun a h1 h2 => ?_⟩
    · have := a3 j hj
      rw [va_up_ne _ _ (by omega), va_up_ne _ _ (by omega)] at this
      exact this
    · have hk : k + 1 < 8 := hk
      rw [a4 _ (by omega), va_up_ne _ _ (by omega), va_up_self, r3 _ (by omega) (by omega)]
      congr 1
      show _ = 353 * (k + 8 + 1 - 8) + j
      omega
    · rw [a5 a h1 h2, va_up_ne _ _ h2, va_up_ne _ _ h1]
  · obtain ⟨M', a1, a2, a3, a4, a5⟩ := m_s50 (M := M) (ML := ML) (N := N) (n := n) (by omega) (by omega) h
    have e : min (n + 1) 8 = n + 1 := by omega
    rw [if_neq c (by omega) (by omega), e]
    refine ⟨M', a1, a2, fun j hj => ?_, fun k j hk hj => ?_, a5⟩
    · rw [show n + 1 - 1 = n from rfl]; exact a3 j hj
    · rw [a4 _ (by omega), show k + n + 1 - (n + 1) = k from by omega]
theorem keep_snap {p g x : Nx} {c : Nat → Rc} {M : Rc} {ML : RcL} {N : Nat} (hN : 3000 < N) (w : Wk p g x c M) : ∃ (Y' : Rc) (K' : Nat → Rc) (M' : Rc), fX0_keep (embL x) (c 7) (c 8) (c 9) (c 10) (c 11) (c 12) (c 13) (c 14) (c 15) = some (Y', K' 0, K' 1, K' 2, K' 3, K' 4, K' 5, K' 6, K' 7) ∧ fX6_snap N M ML = some M' ∧ HRk p g Y' K' (M' 14) (M' 15 0) ∧ ∀ a, a ≠ 14 → a ≠ 15 → M' a = M a := by
  obtain ⟨w1, w2, w3, w4, ⟨n, d, r1, r2, r3, r4, r5, r6⟩, w6⟩ := w
  obtain ⟨Y', K', y, k1, k2, k3, k4, k5, k6, k7⟩ := c_keep (x := x) (c := c) r1 r2 r3 r4
  obtain ⟨M', m1, m2, m3, m4, m5⟩ := m_snap (ML := ML) hN r1 r5
  refine ⟨Y', K', M', k1, m1, ⟨min (n + 1) 8, (d + 1) % 8, by omega, by omega, k2, k3, m2, fun i hi => ?_⟩, m5⟩
  by_cases c0 : i = 0
  · subst c0
    refine ⟨y, by rw [show ((d + 1) % 8 + 7 - 0) % 8 = d from by omega]; exact k5, ?_⟩
    refine Lst_eq (S := M 11) w1 w2 (fun j hj => ?_) (Lst_agr w1 k6 k7 w4)
    show M' 14 (353 * (min (n + 1) 8 - 1 - 0) + j) = _
    rw [Nat.sub_zero]
    exact m3 j hj
  · obtain ⟨y', y1, y2⟩ := r6 (i - 1) (by omega)
    refine ⟨y', ?_, ?_⟩
    · rw [show ((d + 1) % 8 + 7 - i) % 8 = (d + 7 - (i - 1)) % 8 from by omega, k4 _ (by omega) (by omega)]
      exact y1
    · refine Lst_eq w1 w2 (fun j hj => ?_) y2
      show M' 14 (353 * (min (n + 1) 8 - 1 - i) + j) = M 14 (353 * (n - 1 - (i - 1)) + j)
      rw [m4 _ j (by omega) hj]
      congr 2
      omega
/-- after an act -/
theorem Rel_act {c c' : Nat → Rc} {FL : RcL} {M M' : Rc} {ML : RcL} {p g x' : Nx} (h : Rel c FL M ML) (hp : c 1 = embP p) (w1 : PI p) (w2 : GI p g) (hc : ∀ a, a = 1 ∨ a = 3 ∨ a = 4 ∨ a = 16 → c' a = c a) (h01 : c' 0 1 0 = c 0 1 0) (hL : c' 5 = embL x') (hS : Lst p g x' (M' 11)) (hH : HRk p g (c' 7) (fun i => c' (8 + i)) (M' 14) (M' 15 0)) (hk : KN p (x' 4) (c' 0)) (hM : ∀ a, a = 1 ∨ a = 2 ∨ a = 8 → M' a = M a) : Rel c' FL M' ML := by
  obtain ⟨⟨t, L, t1, t2, t3, t4, t5⟩, h3, ⟨q, q1, q2⟩, _⟩ := h
  refine ⟨⟨t, L, t1, ?_, ?_, ?_, ?_⟩, ?_, ⟨q, ?_, q2⟩, p, ?_, w1.kd, Or.inr ⟨g, x', w1, w2, hL, hS, hH, hk⟩⟩
  · rw [h01]; exact t2
  · rw [hM 2 (by omega)]; exact t3
  · rw [hc 16 (by omega)]; exact t4
  · rw [hM 1 (by omega)]; exact t5
  · rw [hc 3 (by omega), hM 8 (by omega)]; exact h3
  · rw [hc 4 (by omega)]; exact q1
  · rw [hc 1 (by omega)]; exact hp
end
section
/-! pass and step -/
theorem va_id {α : Type} (f : Nat → α) (k : Nat) : va_up f k (f k) = f := by
  funext a
  by_cases c : a = k
  · rw [c, va_up_self]
  · rw [va_up_ne _ _ c]
theorem move1_2 {p x : Nx} {u k : Nat} (hk : k < p 6 0) : sMove1 p u x 2 k = x 2 k + (if x 1 k ≠ x 2 k ∧ x 3 k ≤ u then 1 else 0) := by
  unfold sMove1
  rw [round_2 hk, up1_ne (by omega), up1_ne (by omega), up1_ne (by omega), up1_at, sMin_o (by omega), sMin_o (by omega), sMin_o (by omega)]
theorem moveN_2 {p : Nx} {th k : Nat} (hk : k < p 6 0) : ∀ {d : Nat} {x : Nx}, x 2 k ≤ moveN p th d x 2 k
  | 0, _ => Nat.le_refl _
  | d + 1, x => by
    unfold moveN
    by_cases c : th ≤ x 8 0
    · rw [if_pos c]; exact Nat.le_refl _
    · rw [if_neg c]
      refine Nat.le_trans ?_ (moveN_2 hk)
      rw [move1_2 hk]
      omega
theorem addM_0 {p x : Nx} {k s : Nat} : addM p (x 8 0) x k s = 0 := by
  unfold addM
  by_cases c : x 1 k = x 2 k
  · rw [if_pos c]
    generalize (if k = 0 ∨ sWait x k ≠ 0 then 1 else 0) = q
    split <;> omega
  · rw [if_neg c]
    split
    · omega
    · split <;> omega
theorem move1_id {p x : Nx} {u : Nat} (hp : PI p) (hx : LZ p x) (h : u < sNext p x) : sMove1 p u x = up1 (sMin p u x) 8 u := by
  unfold sMove1
  apply round_id
  · intro k h1 h2 h3
    rw [up1_ne (by omega), up1_ne (by omega), sMin_o (by omega), sMin_o (by omega)] at h3
    rw [up1_at, up1_ne (by omega), sMin_o (by omega)]
    have := sNext_le h2 h3
    omega
  · intro k h1 h2 h3
    rw [up1_ne (by omega), up1_ne (by omega), sMin_o (by omega), sMin_o (by omega)] at h3
    rw [canB_congr (y := x) (by rw [up1_ne (by omega), sMin_o (by omega)]) (fun i => by rw [up1_ne (by omega), sMin_o (by omega)]) (fun l _ => by rw [up1_ne (by omega), sMin_o (by omega)])]
    exact hx.2.2 k h1 h2 h3
theorem mp_loop {p g : Nx} {N th : Nat} {ML : RcL} (hp : PI p) (hg : GI p g) (hN : 100 < N) (hth : th < 2 ^ 28) : ∀ {d u o : Nat} {x : Nx} {M : Rc}, d < u → LZ p x → RelS p g x (M 11) → SumS p x (M 11) → x 8 0 ≤ th → th ≤ x 8 0 + d → ∃ M', itn (fX6_pass_55b N) (fun _ _ _ _ => none) u M ML (nI th) (nI o) = some (nI (o + moveN p th d x 2 (p 6 0 - 1) - x 2 (p 6 0 - 1)), M') ∧ RelS p g (moveN p th d x) (M' 11) ∧ SumS p (moveN p th d x) (M' 11) ∧ ∀ a, a ≠ 11 → M' a = M a
  | _, 0, _, _, _, h, _, _, _, _, _ => by omega
  | d, u + 1, o, x, M, hu, hx, S, Q, h1, h2 => by
    have hn := hp.n
    have nb := sNext_b hp hx (by omega)
    have nx := m_next (N := N) hp hN hx (by omega) S
    by_cases c : th ≤ x 8 0
    · have e8 : x 8 0 = th := by omega
      obtain ⟨T, t1, t2, t3⟩ := m_waits (N := N) (u := x 8 0) hp hg hN hx.1 (by omega) (Nat.le_refl _) S
      rw [moveN_stop c]
      refine ⟨va_up M 11 T, ?_, ?_, ?_, fun a ha => by rw [va_up_ne _ _ ha]⟩
      · rw [itn_s]
        unfold fX6_pass_55b
        rw [nx, bnd_s, if_lt (by omega) (by omega), S.2.1.1.1, nI_sub' (by omega), ← e8, t1, bnd_s, nm_s, show o + x 2 (p 6 0 - 1) - x 2 (p 6 0 - 1) = o from by omega]
      · rw [va_up_self]
        refine RelS_agr hp (fun a i ha hi => ?_) t2
        by_cases e : a = 8
        · subst e
          have : i < 1 := hi
          rw [up1_at, show i = 0 from by omega]
        · rw [up1_ne e]
      · rw [va_up_self]
        intro k s k1 k2
        rw [t3 Q k s k1 k2, sMin_6 k1 k2, addM_0, Nat.add_zero]
    · obtain ⟨e, rfl⟩ : ∃ e, d = e + 1 := ⟨d - 1, by omega⟩
      by_cases b : sNext p x ≤ th
      · have eu : (if sNext p x < th then sNext p x else th) = sNext p x := by split <;> omega
        have em : moveN p th (e + 1) x = moveN p th e (sMove1 p (sNext p x) x) := by
          rw [moveN, if_neg c, eu]
        obtain ⟨T, t1, t2, t3⟩ := m_stepM (N := N) hp hg hN hx (by omega) S Q
        have lz := LZ_move1 hp hx (u := sNext p x) (by omega) (Nat.le_refl _)
        obtain ⟨M', r1, r2, r3, r4⟩ := mp_loop (N := N) (ML := ML) hp hg hN hth (d := e) (u := u) (o := o + (sMove1 p (sNext p x) x 2 (p 6 0 - 1) - x 2 (p 6 0 - 1))) (x := sMove1 p (sNext p x) x) (M := va_up M 11 T) (by omega) lz (by rw [va_up_self]; exact t2) (by rw [va_up_self]; exact t3) (by rw [move1_8]; exact b) (by rw [move1_8]; omega)
        have m1 := move1_2 (p := p) (x := x) (u := sNext p x) (k := p 6 0 - 1) (by omega)
        have m2 := moveN_2 (p := p) (th := th) (k := p 6 0 - 1) (by omega) (d := e) (x := sMove1 p (sNext p x) x)
        rw [em]
        refine ⟨M', ?_, r2, r3, fun a ha => by rw [r4 a ha, va_up_ne _ _ ha]⟩
        rw [itn_s]
        generalize itn (fX6_pass_55b N) (fun _ _ _ _ => none) u = K at r1 ⊢
        unfold fX6_pass_55b
        rw [nx, bnd_s, if_nlt b (by omega), t1, bnd_s]
        dsimp only
        rw [nm_s, nI_add, nm_s, r1]
        congr 2
        congr 1
        generalize moveN p th e (sMove1 p (sNext p x) x) 2 (p 6 0 - 1) = A at m2 ⊢
        generalize sMove1 p (sNext p x) x 2 (p 6 0 - 1) = B at m1 m2 ⊢
        omega
      · have eu : (if sNext p x < th then sNext p x else th) = th := by split <;> omega
        have em : moveN p th (e + 1) x = up1 (sMin p th x) 8 th := by
          rw [moveN, if_neg c, eu, moveN_stop (by rw [move1_8]; exact Nat.le_refl _), move1_id hp hx (by omega)]
        obtain ⟨T, t1, t2, t3⟩ := m_waits (N := N) (u := th) hp hg hN hx.1 (by omega) h1 S
        rw [em]
        refine ⟨va_up M 11 T, ?_, ?_, ?_, fun a ha => by rw [va_up_ne _ _ ha]⟩
        · rw [itn_s]
          unfold fX6_pass_55b
          rw [nx, bnd_s, if_lt (by omega) (by omega), S.2.1.1.1, nI_sub' (by omega), t1, bnd_s, nm_s, up1_ne (by omega), sMin_o (by omega), show o + x 2 (p 6 0 - 1) - x 2 (p 6 0 - 1) = o from by omega]
        · rw [va_up_self]
          refine RelS_agr hp (fun a i ha hi => ?_) t2
          by_cases e : a = 8
          · subst e
            rw [up1_at, up1_at]
          · rw [up1_ne e, up1_ne e, sMin_o ha]
        · rw [va_up_self]
          intro k s k1 k2
          rw [up1_ne (by omega)]
          exact t3 Q k s k1 k2
/-- the new state of an act that left the cards alone -/
theorem act10 {c : Nat → Rc} {FL : RcL} {M M' : Rc} {ML : RcL} {p g x x' : Nx} {Y' : Rc} {K' : Nat → Rc} (h : Rel c FL M ML) (hp : c 1 = embP p) (w : Wk p g x c M) (h4 : x' 4 = x 4) (hS : Lst p g x' (M' 11)) (hH : HRk p g Y' K' (M' 14) (M' 15 0)) (hM : ∀ a, a = 1 ∨ a = 2 ∨ a = 8 → M' a = M a) : Rel (va_up (va_up (va_up (va_up (va_up (va_up (va_up (va_up (va_up (va_up c 5 (embL x')) 7 Y') 8 (K' 0)) 9 (K' 1)) 10 (K' 2)) 11 (K' 3)) 12 (K' 4)) 13 (K' 5)) 14 (K' 6)) 15 (K' 7)) FL M' ML := by
  refine Rel_act h hp w.1 w.2.1 (fun a ha => ?_) ?_ ?_ hS ?_ ?_ hM
  · rw [va_up_ne _ _ (by omega), va_up_ne _ _ (by omega), va_up_ne _ _ (by omega), va_up_ne _ _ (by omega), va_up_ne _ _ (by omega), va_up_ne _ _ (by omega), va_up_ne _ _ (by omega), va_up_ne _ _ (by omega), va_up_ne _ _ (by omega), va_up_ne _ _ (by omega)]
  · rw [va_up_ne _ _ (by omega), va_up_ne _ _ (by omega), va_up_ne _ _ (by omega), va_up_ne _ _ (by omega), va_up_ne _ _ (by omega), va_up_ne _ _ (by omega), va_up_ne _ _ (by omega), va_up_ne _ _ (by omega), va_up_ne _ _ (by omega), va_up_ne _ _ (by omega)]
  · rw [va_up_ne _ _ (by omega), va_up_ne _ _ (by omega), va_up_ne _ _ (by omega), va_up_ne _ _ (by omega), va_up_ne _ _ (by omega), va_up_ne _ _ (by omega), va_up_ne _ _ (by omega), va_up_ne _ _ (by omega), va_up_ne _ _ (by omega), va_up_self]
  · rw [va_up_ne _ _ (by omega), va_up_ne _ _ (by omega), va_up_ne _ _ (by omega), va_up_ne _ _ (by omega), va_up_ne _ _ (by omega), va_up_ne _ _ (by omega), va_up_ne _ _ (by omega), va_up_ne _ _ (by omega), va_up_self]
    refine HRk_congr (fun i hi => ?_) hH
    rcases (show i = 0 ∨ i = 1 ∨ i = 2 ∨ i = 3 ∨ i = 4 ∨ i = 5 ∨ i = 6 ∨ i = 7 from by omega) with rfl | rfl | rfl | rfl | rfl | rfl | rfl | rfl <;> simp (disch := omega) only [va_up_ne, va_up_self, Nat.reduceAdd]
  · rw [va_up_ne _ _ (by omega), va_up_ne _ _ (by omega), va_up_ne _ _ (by omega), va_up_ne _ _ (by omega), va_up_ne _ _ (by omega), va_up_ne _ _ (by omega), va_up_ne _ _ (by omega), va_up_ne _ _ (by omega), va_up_ne _ _ (by omega), va_up_ne _ _ (by omega), h4]
    exact w.2.2.2.2.2
theorem same10 {c : Nat → Rc} : va_up (va_up (va_up (va_up (va_up (va_up (va_up (va_up (va_up (va_up c 5 (c 5)) 7 (c 7)) 8 (c 8)) 9 (c 9)) 10 (c 10)) 11 (c 11)) 12 (c 12)) 13 (c 13)) 14 (c 14)) 15 (c 15) = c := by
  rw [va_id, va_id, va_id, va_id, va_id, va_id, va_id, va_id, va_id, va_id]
theorem SP16_ok {N : Nat} (hN : 100000 < N) : SP16 N Rel := by
  intro c FL M ML h a1
  have h1 := Rel_0 (v := fun _ => nI 0) h
  unfold fX6_pass
  rw [nm_s]
  generalize va_up M 0 (fun _ => nI 0) = M1 at h1 ⊢
  obtain ⟨p, p1, b6, b7, s1, s14, hw⟩ := Rel_base h1
  have same := h1
  rw [← same10 (c := c)] at same
  unfold fX5_pass fX5_pass_33 fX6_pass_37
  rw [p1]
  rcases hw with z | ⟨g, x, w⟩
  · rw [empty_T z.1, there_F z.2.2, bnd_s, bnd_s, if_n0 (by omega) (by omega), if_e0 rfl]
    exact ⟨_, _, rfl, rfl, rfl, same⟩
  · obtain ⟨w1, w2, w3, w4, w5, w6⟩ := id w
    have S := w4.2.2.2.1
    have x8 := w4.2.2.1
    have hx := w4.1
    have hn := w1.n
    rw [empty_F w1, there_T S.1.1.1, bnd_s, bnd_s, if_e0 rfl, if_n0 (by omega) (by omega)]
    rcases in_ab a1 (a := 1) (b := 999) (by omega) (by omega) with ⟨n, n1, n2, rfl, q1, q2, q3, ni⟩ | ⟨ni, n0⟩
    · rw [if_neg q1, if_neg q3, ni, bnd_s, if_n0 (by omega) (by omega), S.2.1.1.1, nI_add, nI_sub' (by omega), show c 5 8 0 = nI (x 8 0) from by rw [w3, embL_a (by omega)]]
      by_cases e : x 8 0 + n ≤ 99999
      · obtain ⟨Y', K', M2, k1, k2, k3, k4⟩ := keep_snap (ML := ML) (N := N) (by omega) w
        have S2 : RelS p g x (M2 11) := by rw [k4 11 (by omega) (by omega)]; exact S
        have Q2 : SumS p x (M2 11) := by rw [k4 11 (by omega) (by omega)]; exact w4.2.2.2.2
        obtain ⟨M3, m1, m2, m3, m4⟩ := mp_loop (N := N) (th := x 8 0 + n) (ML := ML) w1 w2 (by omega) (by omega) (d := 1000) (u := N) (o := 0) (x := x) (M := M2) (by omega) hx S2 Q2 (by omega) (by omega)
        have mv := s_move (N := N) w1 (by omega) (th := x 8 0 + n) (by omega) hx (by omega) (by omega)
        have ok := move_ok w1 (th := x 8 0 + n) (by omega) (d := 1000) hx (by omega) (by omega)
        have m2' := moveN_2 (p := p) (th := x 8 0 + n) (k := p 6 0 - 1) (by omega) (d := 1000) (x := x)
        rw [if_le (by omega) (by omega), if_le e (by omega), w3, k1, bnd_s, s_out w1, bnd_s, nm_s, nI_add, mv, bnd_s, s_out w1, bnd_s, nI_sub' m2', k2, bnd_s, S2.2.1.1.1, nI_add, nm_s, nm_s]
        unfold fX6_pass_55
        rw [m1, Nat.zero_add]
        refine ⟨_, _, rfl, rfl, rfl, ?_⟩
        refine act10 h1 p1 w (x' := moveN p (x 8 0 + n) 1000 x) ?_ ⟨ok.1, by rw [moveN_o (by omega)]; exact w4.2.1, by omega, m2, m3⟩ (by dsimp only; rw [m4 14 (by omega), m4 15 (by omega)]; exact k3) (fun a ha => by dsimp only; rw [m4 a (by omega), k4 a (by omega) (by omega)])
        funext i
        exact moveN_o (by omega)
      · rw [if_nle (by omega) (by omega), if_nle (by omega) (by omega)]
        exact ⟨_, _, rfl, rfl, rfl, same⟩
    · rw [ni, bnd_s, if_e0 rfl]
      rcases n0 with n0 | n0
      · rw [if_pos n0]; exact ⟨_, _, rfl, rfl, rfl, same⟩
      · rw [if_neg n0.1, if_pos n0.2.1]; exact ⟨_, _, rfl, rfl, rfl, same⟩
theorem SP17_ok {N : Nat} (hN : 100000 < N) : SP17 N Rel := by
  intro c FL M ML h _
  have h1 := Rel_0 (v := fun _ => nI 0) h
  unfold fX6_step
  rw [nm_s]
  generalize va_up M 0 (fun _ => nI 0) = M1 at h1 ⊢
  obtain ⟨p, p1, b6, b7, s1, s14, hw⟩ := Rel_base h1
  have same := h1
  rw [← same10 (c := c)] at same
  unfold fX5_step fX6_step_24
  rw [p1]
  rcases hw with z | ⟨g, x, w⟩
  · rw [empty_T z.1, there_F z.2.2, bnd_s, bnd_s, if_n0 (by omega) (by omega), if_e0 rfl]
    exact ⟨_, _, rfl, rfl, rfl, same⟩
  · obtain ⟨w1, w2, w3, w4, w5, w6⟩ := id w
    have S := w4.2.2.2.1
    have x8 := w4.2.2.1
    have hx := w4.1
    have nb := sNext_b w1 hx (by omega)
    have cn : fX1_nextThrough N (embP p) (c 5) = some (nI (sNext p x)) := by rw [w3]; exact s_next w1 hx.1 (by omega) (by omega)
    rw [empty_F w1, there_T S.1.1.1, bnd_s, bnd_s, if_e0 rfl, if_n0 (by omega) (by omega), cn, bnd_s, nm_s, m_next w1 (by omega) hx (by omega) S, bnd_s]
    by_cases e : sNext p x ≤ 99999
    · obtain ⟨Y', K', M2, k1, k2, k3, k4⟩ := keep_snap (ML := ML) (N := N) (by omega) w
      have S2 : RelS p g x (M2 11) := by rw [k4 11 (by omega) (by omega)]; exact S
      have Q2 : SumS p x (M2 11) := by rw [k4 11 (by omega) (by omega)]; exact w4.2.2.2.2
      obtain ⟨T, t1, t2, t3⟩ := m_stepM (N := N) w1 w2 (by omega) hx (by omega) S2 Q2
      have mv := s_move (N := N) w1 (by omega) (th := sNext p x) (by omega) hx (by omega) (by omega)
      have em : moveN p (sNext p x) 1000 x = sMove1 p (sNext p x) x := by
        rw [show (1000 : Nat) = 999 + 1 from rfl, moveN, if_neg (by omega), if_neg (by omega), moveN_stop (by rw [move1_8]; exact Nat.le_refl _)]
      rw [em] at mv
      have lz := LZ_move1 w1 hx (u := sNext p x) (by omega) (Nat.le_refl _)
      rw [if_le e (by omega), if_le e (by omega), w3, k1, bnd_s, mv, bnd_s, k2, bnd_s, t1, bnd_s]
      dsimp only
      rw [nm_s, va_up_self, embL_a (by omega), t2.2.1.1.1]
      refine ⟨_, _, rfl, rfl, rfl, ?_⟩
      refine act10 h1 p1 w (x' := sMove1 p (sNext p x) x) ?_ ⟨lz, ?_, by rw [move1_8]; exact e, ?_, ?_⟩ ?_ (fun a ha => ?_)
      · funext i
        unfold sMove1
        rw [round_o (by omega), up1_ne (by omega), sMin_o (by omega)]
      · unfold sMove1
        rw [round_o (by omega), up1_ne (by omega), sMin_o (by omega)]; exact w4.2.1
      · dsimp only; rw [va_up_self]; exact t2
      · dsimp only; rw [va_up_self]; exact t3
      · dsimp only; rw [va_up_ne _ _ (by omega), va_up_ne _ _ (by omega)]; exact k3
      · dsimp only; rw [va_up_ne _ _ (by omega), k4 a (by omega) (by omega)]
    · rw [if_nle (by omega) (by omega), if_nle (by omega) (by omega)]
      exact ⟨_, _, rfl, rfl, rfl, same⟩
end
section
/-! cards, anew, undo -/
theorem c_forget {X : Rc} {N : Nat} (hN : 10 < N) : ∃ X', fX5_forgetPaces N X = some X' ∧ (∀ a, a ≠ 9 → X' a = X a) ∧ ∀ j, j < 6 → X' 9 j = nI 0 := by
  unfold fX5_forgetPaces
  rw [s_fill (show (6 : Nat) < 2 ^ 31 from by omega) (show 6 < N from by omega), bnd_s, nm_s]
  refine ⟨_, rfl, fun a ha => by rw [va_up_ne _ _ ha], fun j hj => ?_⟩
  rw [va_up_self, if_pos hj]
theorem KN_0 {p : Nx} {C : Nat → Nat} {X : Rc} (h : ∀ j, j < 6 → X 9 j = nI 0) : KN p C X := fun f _ f2 => Or.inl (h f (by omega))
theorem free_mv {p x : Nx} {l k : Nat} (hx : LI p x) (hl : l < p 7 0) (h : x 4 l ≤ sFree p x l + k) (hk : 1 ≤ k ∧ k ≤ 20) : LI p (up2 x 4 l k) := by
  obtain ⟨h1, h2, h3, h4, h5, h6, h7⟩ := hx
  refine ⟨?_, fun j hj => ?_, fun j hj => ?_, fun j hj => ?_, fun j hj => ?_, fun j => ?_, ?_⟩
  · rw [up2_ne (by omega)]; exact h1
  · rw [up2_if, up2_ne (by omega), up2_ne (by omega)]
    have := h2 j hj
    by_cases c : j = l
    · subst c
      unfold sFree at h
      rw [if_pos rfl]
      omega
    · rw [if_neg c]; exact this
  · rw [up2_ne (by omega), up2_ne (by omega), up2_ne (by omega)]; exact h3 j hj
  · rw [up2_ne (by omega), up2_ne (by omega)]; exact h4 j hj
  · rw [up2_ne (by omega), up2_ne (by omega), up2_ne (by omega), up2_ne (by omega)]; exact h5 j hj
  · rw [up2_ne (by omega), up2_ne (by omega), up2_ne (by omega), up2_ne (by omega)]; exact h6 j
  · rw [up2_ne (by omega), up2_ne (by omega), up2_ne (by omega)]; exact h7
theorem rel_card {p g x : Nx} {S : Nat → Int32} {l k : Nat} (hp : PI p) (hg : GI p g) (hx : LI p x) (hl : l < p 7 0) (h : x 4 l ≤ sFree p x l + k) (S0 : RelS p g x S) : RelS p g (up2 x 4 l k) (upd (upd S (15 + 4 * l + 2) (nI k)) (15 + 4 * l + 3) (nI (sFree p x l + k - x 4 l))) := by
  have hq := hp.q
  have hn := hp.n
  have h8 := hg.1
  have e7 : up2 x 4 l k 7 0 = x 7 0 := up2_ne (by omega)
  have xl := (hx.l hl).2.2
  refine ⟨⟨⟨?_, ?_, ?_, ?_⟩, fun j hj => ?_, fun j hj => ?_, fun r hr => ?_⟩, ⟨⟨?_, ?_, ?_, ?_, ?_⟩, fun j hj => ?_⟩, fun j hj => ?_⟩
  · simp (disch := omega) only [upd_ne]; exact S0.1.1.1
  · simp (disch := omega) only [upd_ne]; exact S0.1.1.2.1
  · simp (disch := omega) only [upd_ne]; exact S0.1.1.2.2.1
  · simp (disch := omega) only [upd_ne]; exact S0.1.1.2.2.2
  · simp (disch := omega) only [upd_ne]; exact S0.1.2.1 j hj
  · have q := S0.1.2.2.1 j hj
    rw [up2_if]
    by_cases c : j = l
    · subst c
      rw [if_pos rfl]
      simp (disch := omega) only [upd_ne, upd_eq]
      exact ⟨q.1, q.2.1, trivial⟩
    · rw [if_neg c]
      simp (disch := omega) only [upd_ne]
      exact q
  · rw [e7]; simp (disch := omega) only [upd_ne]; exact S0.1.2.2.2 r hr
  · rw [up2_ne (by omega)]; simp (disch := omega) only [upd_ne]; exact S0.2.1.1.1
  · rw [up2_ne (by omega)]; simp (disch := omega) only [upd_ne]; exact S0.2.1.1.2.1
  · rw [up2_ne (by omega)]; simp (disch := omega) only [upd_ne]; exact S0.2.1.1.2.2.1
  · rw [up2_ne (by omega)]; simp (disch := omega) only [upd_ne]; exact S0.2.1.1.2.2.2.1
  · rw [up2_ne (by omega)]; simp (disch := omega) only [upd_ne]; exact S0.2.1.1.2.2.2.2
  · have q := S0.2.1.2 j hj
    unfold sFree at q h ⊢
    rw [up2_if, up2_ne (by omega), up2_ne (by omega)]
    by_cases c : j = l
    · subst c
      rw [if_pos rfl, upd_eq rfl]
      congr 1
      omega
    · rw [if_neg c]
      simp (disch := omega) only [upd_ne]
      exact q
  · have D := S0.2.2 j hj
    have w20 := sWait_20 hp hx hj
    refine Dst.mv (S := S) w20 D (up2_ne (by omega)) (up2_ne (by omega)) (up2_ne (by omega)) e7 ?_ (fun _ _ _ _ => up2_ne (by omega)) (fun c hc => ?_) (fun c hc => ?_) (hx.k hj).1
    · unfold sWait
      rw [up2_ne (by omega), up2_ne (by omega)]
    · simp (disch := omega) only [upd_ne]
    · simp (disch := omega) only [upd_ne]
theorem card_id {p x : Nx} {l k : Nat} (hx : LZ p x) (hk : k ≤ x 4 l) : sRound p (up2 x 4 l k) = up2 x 4 l k := by
  apply round_id
  · intro j h1 h2 h3
    rw [up2_ne (by omega), up2_ne (by omega)] at h3
    rw [up2_ne (by omega), up2_ne (by omega)]
    exact hx.2.1 j h1 h2 h3
  · intro j h1 h2 h3
    rw [up2_ne (by omega), up2_ne (by omega)] at h3
    have nb := hx.2.2 j h1 h2 h3
    rw [Bool.eq_false_iff] at nb ⊢
    intro z
    apply nb
    rw [canB_iff] at z ⊢
    refine ⟨fun q => ?_, fun i hi q => ?_⟩
    · have := z.1 q
      rwa [up2_ne (by omega), up2_ne (by omega)] at this
    · have := z.2 i hi q
      rw [up2_ne (by omega), up2_if, up2_ne (by omega)] at this
      by_cases c : i = l
      · subst c; rw [if_pos rfl] at this; omega
      · rw [if_neg c] at this; exact this
theorem add_sub' (a b c : Nat) : nI a + (nI b - nI c) = nI (a + b) - nI c := by
  rw [Int32.sub_eq_add_neg, ← Int32.add_assoc, nI_add, ← Int32.sub_eq_add_neg]
theorem sub_0 {a b : Nat} (ha : a < 2 ^ 30) (hb : b < 2 ^ 30) : (nI a - nI b = 0) ↔ a = b := by
  constructor
  · intro h
    have := pk_sub_toInt ha hb
    rw [h] at this
    have z : (0 : Int32).toInt = 0 := by decide
    omega
  · intro h
    rw [h, nI_sub' (Nat.le_refl _), Nat.sub_self]
    rfl
theorem sub_le0 {a b : Nat} (ha : a < 2 ^ 30) (hb : b < 2 ^ 30) : (nI a - nI b ≤ 0) ↔ a ≤ b := by
  rw [Int32.le_iff_toInt_le, pk_sub_toInt ha hb]
  have z : (0 : Int32).toInt = 0 := by decide
  omega
theorem sub_ge0 {a b : Nat} (ha : a < 2 ^ 30) (hb : b < 2 ^ 30) : (0 ≤ nI a - nI b) ↔ b ≤ a := by
  rw [Int32.le_iff_toInt_le, pk_sub_toInt ha hb]
  have z : (0 : Int32).toInt = 0 := by decide
  omega
/-- the new state of an act that forgot the paces -/
theorem act11 {c : Nat → Rc} {FL : RcL} {M M' : Rc} {ML : RcL} {p g x' : Nx} {X' Y' : Rc} {K' : Nat → Rc} (h : Rel c FL M ML) (hp : c 1 = embP p) (w1 : PI p) (w2 : GI p g) (hX : X' 1 = c 0 1) (hk : KN p (x' 4) X') (hS : Lst p g x' (M' 11)) (hH : HRk p g Y' K' (M' 14) (M' 15 0)) (hM : ∀ a, a = 1 ∨ a = 2 ∨ a = 8 → M' a = M a) : Rel (va_up (va_up (va_up (va_up (va_up (va_up (va_up (va_up (va_up (va_up (va_up c 0 X') 5 (embL x')) 7 Y') 8 (K' 0)) 9 (K' 1)) 10 (K' 2)) 11 (K' 3)) 12 (K' 4)) 13 (K' 5)) 14 (K' 6)) 15 (K' 7)) FL M' ML := by
  refine Rel_act h hp w1 w2 (fun a ha => ?_) ?_ ?_ hS ?_ ?_ hM
  · rw [va_up_ne _ _ (by omega), va_up_ne _ _ (by omega), va_up_ne _ _ (by omega), va_up_ne _ _ (by omega), va_up_ne _ _ (by omega), va_up_ne _ _ (by omega), va_up_ne _ _ (by omega), va_up_ne _ _ (by omega), va_up_ne _ _ (by omega), va_up_ne _ _ (by omega), va_up_ne _ _ (by omega)]
  · rw [va_up_ne _ _ (by omega), va_up_ne _ _ (by omega), va_up_ne _ _ (by omega), va_up_ne _ _ (by omega), va_up_ne _ _ (by omega), va_up_ne _ _ (by omega), va_up_ne _ _ (by omega), va_up_ne _ _ (by omega), va_up_ne _ _ (by omega), va_up_ne _ _ (by omega), va_up_self, hX]
  · rw [va_up_ne _ _ (by omega), va_up_ne _ _ (by omega), va_up_ne _ _ (by omega), va_up_ne _ _ (by omega), va_up_ne _ _ (by omega), va_up_ne _ _ (by omega), va_up_ne _ _ (by omega), va_up_ne _ _ (by omega), va_up_ne _ _ (by omega), va_up_self]
  · rw [va_up_ne _ _ (by omega), va_up_ne _ _ (by omega), va_up_ne _ _ (by omega), va_up_ne _ _ (by omega), va_up_ne _ _ (by omega), va_up_ne _ _ (by omega), va_up_ne _ _ (by omega), va_up_ne _ _ (by omega), va_up_self]
    refine HRk_congr (fun i hi => ?_) hH
    rcases (show i = 0 ∨ i = 1 ∨ i = 2 ∨ i = 3 ∨ i = 4 ∨ i = 5 ∨ i = 6 ∨ i = 7 from by omega) with rfl | rfl | rfl | rfl | rfl | rfl | rfl | rfl <;> simp (disch := omega) only [va_up_ne, va_up_self, Nat.reduceAdd]
  · rw [va_up_ne _ _ (by omega), va_up_ne _ _ (by omega), va_up_ne _ _ (by omega), va_up_ne _ _ (by omega), va_up_ne _ _ (by omega), va_up_ne _ _ (by omega), va_up_ne _ _ (by omega), va_up_ne _ _ (by omega), va_up_ne _ _ (by omega), va_up_ne _ _ (by omega), va_up_self]
    exact hk
theorem same11 {c : Nat → Rc} : va_up (va_up (va_up (va_up (va_up (va_up (va_up (va_up (va_up (va_up (va_up c 0 (c 0)) 5 (c 5)) 7 (c 7)) 8 (c 8)) 9 (c 9)) 10 (c 10)) 11 (c 11)) 12 (c 12)) 13 (c 13)) 14 (c 14)) 15 (c 15) = c := by
  rw [va_id, va_id, va_id, va_id, va_id, va_id, va_id, va_id, va_id, va_id, va_id]
theorem SP18_ok {N : Nat} (hN : 100000 < N) : SP18 N Rel := by
  intro c FL M ML h a1 a2
  have h1 := Rel_0 (v := fun _ => nI 0) h
  unfold fX6_cards
  rw [nm_s]
  generalize va_up M 0 (fun _ => nI 0) = M1 at h1 ⊢
  obtain ⟨p, p1, b6, b7, s1, s14, hw⟩ := Rel_base h1
  have same := h1
  rw [← same11 (c := c)] at same
  unfold fX5_cards fX5_cards_19 fX5_cards_50 fX6_cards_23 fX6_cards_63
  rw [p1]
  rcases both_lp (ML := ML) (X := c 0) (x := a1) b7 s14 with ⟨l, hl, rfl, e1, e2⟩ | ⟨e1, e2⟩
  · rcases hw with z | ⟨g, x, w⟩
    · omega
    obtain ⟨w1, w2, w3, w4, w5, w6⟩ := id w
    have S := w4.2.2.2.1
    have x8 := w4.2.2.1
    have hx := w4.1
    have xl := hx.1.l hl
    have Sl := S.1.2.2.1 l hl
    have Dl := S.2.1.2 l hl
    have fb : sFree p x l < 2 ^ 29 := by
      have t := w1.l hl
      have a := hx.1.k (k := p 3 l) (by omega)
      unfold sFree
      omega
    rw [e1, e2, bnd_s, bnd_s, if_n0 (by omega) (by omega), if_n0 (by omega) (by omega)]
    rcases in_ab a2 (a := 1) (b := 20) (by omega) (by omega) with ⟨k, k1, k2, rfl, q1, q2, q3, ki⟩ | ⟨ki, k0⟩
    · rw [if_neg q1, if_pos q2, ki, bnd_s, if_n0 (by omega) (by omega), pk_mul, nI_add, nI_add, nI_add, gdi_nI (show 15 + 4 * l + 2 < 353 from by omega) (by omega), gdi_nI (show l < 5 from by omega) (by omega), nI_clamp (show l < 2 ^ 31 from by omega), nI_clamp (show 15 + 4 * l + 2 < 2 ^ 31 from by omega), nI_clamp (show 15 + 4 * l + 3 < 2 ^ 31 from by omega), show c 5 4 l = nI (x 4 l) from by rw [w3, embL_a (by omega)], Sl.2.2, nm_s, nm_s]
      by_cases c0 : k = x 4 l
      · rw [if_pos ((sub_0 (by omega) (by omega)).mpr c0), if_pos ((sub_0 (by omega) (by omega)).mpr c0)]
        exact ⟨_, _, rfl, rfl, rfl, same⟩
      · have fr : fX1_free (embP p) (c 5) (nI l) = some (nI (sFree p x l)) := by rw [w3]; exact s_free w1 hx.1 (by omega) hl
        rw [if_neg (fun z => c0 ((sub_0 (by omega) (by omega)).mp z)), if_neg (fun z => c0 ((sub_0 (by omega) (by omega)).mp z)), fr, bnd_s, gdi_nI (show 15 + 4 * l + 3 < 353 from by omega) (by omega), Dl, add_sub']
        by_cases cf : x 4 l ≤ sFree p x l + k
        · obtain ⟨Y', K', M2, k1', k2', k3', k4'⟩ := keep_snap (ML := ML) (N := N) (by omega) w
          have S2 : RelS p g x (M2 11) := by rw [k4' 11 (by omega) (by omega)]; exact S
          have Q2 : SumS p x (M2 11) := by rw [k4' 11 (by omega) (by omega)]; exact w4.2.2.2.2
          have lx := free_mv hx.1 hl cf ⟨k1, k2⟩
          have rc := rel_card w1 w2 hx.1 hl cf S2
          have Q3 : SumS p (up2 x 4 l k) (upd (upd (M2 11) (15 + 4 * l + 2) (nI k)) (15 + 4 * l + 3) (nI (sFree p x l + k - x 4 l))) := by
            intro j s j1 j2
            rw [up2_ne (by omega), upd_ne (by omega), upd_ne (by omega)]
            exact Q2 j s j1 j2
          have rd := s_round w1 (N := N) (by omega) lx (by rw [up2_ne (by omega)]; omega)
          have y8 : sRound p (up2 x 4 l k) 8 0 = x 8 0 := by rw [round_o (by omega), up2_ne (by omega)]
          have y7 : sRound p (up2 x 4 l k) 7 0 = x 7 0 := by rw [round_o (by omega), up2_ne (by omega)]
          have lz := LZ_round w1 lx
          have fr2 := s_free w1 lz.1 (by omega) hl
          obtain ⟨X', g1, g2, g3⟩ := c_forget (X := c 0) (N := N) (by omega)
          have m4 : M2 11 (15 + 4 * l + 3) = nI (sFree p x l) := S2.2.1.2 l hl
          rw [if_pos ((sub_ge0 (by omega) (by omega)).mpr cf), if_pos ((sub_ge0 (by omega) (by omega)).mpr cf), w3, k1', bnd_s, embL_up (by omega), gdi_nI (show l < 5 from by omega) (by omega), nm_s, rd, bnd_s, g1, bnd_s, fr2, bnd_s, k2', bnd_s, gdi_nI (show 15 + 4 * l + 2 < 353 from by omega) (by omega), nm_s, gdi_nI (show 15 + 4 * l + 3 < 353 from by omega) (by omega), gdi_nI (show 15 + 4 * l + 3 < 353 from by omega) (by omega), va_up_self, upd_ne (show 15 + 4 * l + 3 ≠ 15 + 4 * l + 2 from by omega), m4, add_sub', nI_sub' cf, bx_uu, nm_s]
          unfold fX6_cards_112
          rw [pk_mul, nI_add, nI_add, gdi_nI (show 15 + 4 * l + 3 < 353 from by omega) (by omega), nI_clamp (show 15 + 4 * l + 3 < 2 ^ 31 from by omega)]
          generalize hV : upd (upd (M2 11) (15 + 4 * l + 2) (nI k)) (15 + 4 * l + 3) (nI (sFree p x l + k - x 4 l)) = V at rc Q3 ⊢
          by_cases cm : k ≤ x 4 l
          · have id := card_id hx cm
            rw [if_pos ((sub_le0 (by omega) (by omega)).mpr cm), id, va_up_self]
            rw [id] at lz y8 y7
            refine ⟨_, _, rfl, rfl, by dsimp only; rw [rc.2.1.2 l hl], ?_⟩
            refine act11 h1 p1 w1 w2 (g2 1 (by omega)) (KN_0 g3) (x' := up2 x 4 l k) ⟨lz, by rw [y7]; exact w4.2.1, by rw [y8]; exact x8, ?_, ?_⟩ ?_ (fun a ha => ?_)
            · dsimp only; rw [va_up_self]; exact rc
            · dsimp only; rw [va_up_self]; exact Q3
            · dsimp only; rw [va_up_ne _ _ (by omega), va_up_ne _ _ (by omega)]; exact k3'
            · dsimp only; rw [va_up_ne _ _ (by omega), k4' a (by omega) (by omega)]
          · obtain ⟨T, t1, t2, t3⟩ := m_rounds (N := N) w1 w2 (by omega) lx (by rw [up2_ne (by omega)]; omega) rc
            rw [if_neg (fun z => cm ((sub_le0 (by omega) (by omega)).mp z)), va_up_self, t1, bnd_s]
            dsimp only
            rw [nm_s, bx_uu, va_up_self, gdi_nI (show 15 + 4 * l + 3 < 353 from by omega) (by omega)]
            refine ⟨_, _, rfl, rfl, by dsimp only; rw [t2.2.1.2 l hl], ?_⟩
            refine act11 h1 p1 w1 w2 (g2 1 (by omega)) (KN_0 g3) (x' := sRound p (up2 x 4 l k)) ⟨lz, by rw [y7]; exact w4.2.1, by rw [y8]; exact x8, ?_, ?_⟩ ?_ (fun a ha => ?_)
            · dsimp only; rw [va_up_self]; exact t2
            · dsimp only; rw [va_up_self]
              exact SumS.o (SumS.mv w1 Q3 t3) (fun i => round_o (by omega))
            · dsimp only; rw [va_up_ne _ _ (by omega), va_up_ne _ _ (by omega)]; exact k3'
            · dsimp only; rw [va_up_ne _ _ (by omega), k4' a (by omega) (by omega)]
        · rw [if_neg (fun z => cf ((sub_ge0 (by omega) (by omega)).mp z)), if_neg (fun z => cf ((sub_ge0 (by omega) (by omega)).mp z))]
          exact ⟨_, _, rfl, rfl, rfl, same⟩
    · rw [ki, bnd_s, if_e0 rfl]
      rcases k0 with k0 | k0
      · rw [if_pos k0]; exact ⟨_, _, rfl, rfl, rfl, same⟩
      · rw [if_neg k0.1, if_neg k0.2.2]; exact ⟨_, _, rfl, rfl, rfl, same⟩
  · rw [e1, e2, bnd_s, bnd_s, if_e0 rfl, if_e0 rfl]
    exact ⟨_, _, rfl, rfl, rfl, same⟩
theorem SP19_ok {N : Nat} (hN : 100000 < N) : SP19 N Rel := by
  intro c FL M ML h _
  have h1 := Rel_0 (v := fun _ => nI 0) h
  unfold fX6_anew
  rw [nm_s]
  generalize va_up M 0 (fun _ => nI 0) = M1 at h1 ⊢
  obtain ⟨p, p1, b6, b7, s1, s14, hw⟩ := Rel_base h1
  have same := h1
  rw [← same10 (c := c)] at same
  unfold fX5_anew
  rw [p1]
  rcases hw with z | ⟨g, x, w⟩
  · rw [empty_T z.1, there_F z.2.2, bnd_s, bnd_s, if_n0 (by omega) (by omega), if_e0 rfl]
    exact ⟨_, _, rfl, rfl, rfl, same⟩
  · obtain ⟨w1, w2, w3, w4, w5, w6⟩ := id w
    have S := w4.2.2.2.1
    obtain ⟨Y', K', M2, k1, k2, k3, k4⟩ := keep_snap (ML := ML) (N := N) (by omega) w
    have S2 : RelS p g x (M2 11) := by rw [k4 11 (by omega) (by omega)]; exact S
    have st := S2.1
    rw [w4.2.1] at st
    obtain ⟨T, t1, t2, t3⟩ := m_begins (x := x) (N := N) w1 w2 (by omega) (by omega) (Wk_C w) st
    have nw : fX1_startAnewl N (embP p) (embL x) (nI 1) = some (embL (sRound p (sClr x (x 4) 1))) := s_new (x := x) (C := x 4) (f := 1) w1 (N := N) (by omega) (by omega) (Wk_C w) (D := embL x 4) (fun l _ => embL_a (by omega))
    have sn := Stt_new (x := x) (C := x 4) (f := 1) w1 (by omega) (Wk_C w)
    have e4 : sRound p (sClr x (x 4) 1) 4 = x 4 := by
      funext i
      rw [round_o (by omega)]
      unfold sClr
      rw [if_pos rfl]
      split <;> rfl
    generalize sRound p (sClr x (x 4) 1) = x' at nw sn t2 t3 e4
    rw [empty_F w1, there_T S.1.1.1, bnd_s, bnd_s, if_e0 rfl, if_n0 (by omega) (by omega), w3, k1, bnd_s, nw, bnd_s, k2, bnd_s, t1, bnd_s, nm_s, va_up_self]
    unfold fX1_onTheirWay
    rw [s_out w1, bnd_s, bnd_s, embL_a (by omega), t2.2.1.1.2.1, t2.2.1.1.2.2.1]
    refine ⟨_, _, rfl, rfl, rfl, ?_⟩
    refine act10 h1 p1 w (x' := x') e4 ⟨sn.1, sn.2.2.2.1, by have := sn.2.1; omega, ?_, ?_⟩ ?_ (fun a ha => ?_)
    · dsimp only; rw [va_up_self]; exact t2
    · dsimp only; rw [va_up_self]; exact t3
    · dsimp only; rw [va_up_ne _ _ (by omega), va_up_ne _ _ (by omega)]; exact k3
    · dsimp only; rw [va_up_ne _ _ (by omega), k4 a (by omega) (by omega)]
theorem c_give {x : Nx} {Y : Rc} {c : Nat → Rc} {n d : Nat} {y : Nx} (hn : 1 ≤ n ∧ n ≤ 8) (hd : d < 8) (h1 : Y 1 0 = nI n) (h2 : Y 2 0 = nI d) (hy : c (8 + (d + 7) % 8) = embL y) : ∃ Y', fX0_giveBack (embL x) Y (c 8) (c 9) (c 10) (c 11) (c 12) (c 13) (c 14) (c 15) = some (embL (sCpy x y), Y') ∧ Y' 1 0 = nI (n - 1) ∧ Y' 2 0 = nI ((d + 7) % 8) := by
  have e2 : (nI d + nI 8 - nI 1) - (nI d + nI 8 - nI 1) / nI 8 * nI 8 = nI ((d + 7) % 8) := by
    rw [nI_add, nI_sub' (by omega), show d + 8 - 1 = d + 7 from by omega, nI_div (by omega) (by omega) (by omega), pk_mul, nI_subdiv]
  have y21 : va_up Y 2 (fun _ => nI ((d + 7) % 8)) 1 0 = nI n := by rw [va_up_ne _ _ (by omega)]; exact h1
  have f1 : va_up (va_up Y 2 (fun _ => nI ((d + 7) % 8))) 1 (fun _ => nI (n - 1)) 1 0 = nI (n - 1) := by rw [va_up_self]
  have f2 : va_up (va_up Y 2 (fun _ => nI ((d + 7) % 8))) 1 (fun _ => nI (n - 1)) 2 0 = nI ((d + 7) % 8) := by rw [va_up_ne _ _ (by omega), va_up_self]
  have eL := s_copy x y
  unfold fX0_giveBack
  rw [h1, if_le (by omega) (by omega), h2, e2, nm_s, y21, nI_sub' (by omega), nm_s]
  refine ⟨va_up (va_up Y 2 (fun _ => nI ((d + 7) % 8))) 1 (fun _ => nI (n - 1)), ?_, f1, f2⟩
  rw [f2]
  generalize hv : (d + 7) % 8 = v at *
  rcases (show v = 0 ∨ v = 1 ∨ v = 2 ∨ v = 3 ∨ v = 4 ∨ v = 5 ∨ v = 6 ∨ v = 7 from by omega) with rfl | rfl | rfl | rfl | rfl | rfl | rfl | rfl
  · rw [if_eq rfl, show c 8 = embL y from hy, eL, bnd_s]
  · rw [if_neq (by omega) (by omega) (by omega), if_eq rfl, show c 9 = embL y from hy, eL, bnd_s]
  · rw [if_neq (by omega) (by omega) (by omega), if_neq (by omega) (by omega) (by omega), if_eq rfl, show c 10 = embL y from hy, eL, bnd_s]
  · rw [if_neq (by omega) (by omega) (by omega), if_neq (by omega) (by omega) (by omega), if_neq (by omega) (by omega) (by omega), if_eq rfl, show c 11 = embL y from hy, eL, bnd_s]
  · rw [if_neq (by omega) (by omega) (by omega), if_neq (by omega) (by omega) (by omega), if_neq (by omega) (by omega) (by omega), if_neq (by omega) (by omega) (by omega), if_eq rfl, show c 12 = embL y from hy, eL, bnd_s]
  · rw [if_neq (by omega) (by omega) (by omega), if_neq (by omega) (by omega) (by omega), if_neq (by omega) (by omega) (by omega), if_neq (by omega) (by omega) (by omega), if_neq (by omega) (by omega) (by omega), if_eq rfl, show c 13 = embL y from hy, eL, bnd_s]
  · rw [if_neq (by omega) (by omega) (by omega), if_neq (by omega) (by omega) (by omega), if_neq (by omega) (by omega) (by omega), if_neq (by omega) (by omega) (by omega), if_neq (by omega) (by omega) (by omega), if_neq (by omega) (by omega) (by omega), if_eq rfl, show c 14 = embL y from hy, eL, bnd_s]
  · rw [if_neq (by omega) (by omega) (by omega), if_neq (by omega) (by omega) (by omega), if_neq (by omega) (by omega) (by omega), if_neq (by omega) (by omega) (by omega), if_neq (by omega) (by omega) (by omega), if_neq (by omega) (by omega) (by omega), if_neq (by omega) (by omega) (by omega), if_eq rfl, show c 15 = embL y from hy, eL, bnd_s]
theorem SP20_ok {N : Nat} (hN : 100000 < N) : SP20 N Rel := by
  intro c FL M ML h _
  have h1 := Rel_0 (v := fun _ => nI 0) h
  unfold fX6_undo
  rw [nm_s]
  generalize va_up M 0 (fun _ => nI 0) = M1 at h1 ⊢
  have same := h1
  rw [show c = va_up (va_up (va_up c 0 (c 0)) 5 (c 5)) 7 (c 7) from by rw [va_id, va_id, va_id]] at same
  unfold fX5_undo
  obtain ⟨_, _, _, p, p1, p2, h4⟩ := id h1
  rcases h4 with ⟨e1, e2, e3, e4⟩ | ⟨g, x, w⟩
  · rw [e3.1, e3.2.2, if_nle (by omega) (by omega), if_e0 rfl]
    exact ⟨_, _, rfl, rfl, rfl, same⟩
  · obtain ⟨w1, w2, w3, w4, ⟨n, d, r1, r2, r3, r4, r5, r6⟩, w6⟩ := id w
    rw [r3, r5]
    by_cases c0 : n = 0
    · rw [if_nle (by omega) (by omega), if_e0 c0]
      exact ⟨_, _, rfl, rfl, rfl, same⟩
    · obtain ⟨y, y1, y2⟩ := r6 0 (by omega)
      rw [Nat.sub_zero] at y1
      obtain ⟨Y', g1, g2, g3⟩ := c_give (x := x) (c := c) (y := y) (n := n) (d := d) (by omega) r2 r3 r4 y1
      obtain ⟨X', f1, f2, f3⟩ := c_forget (X := c 0) (N := N) (by omega)
      have cp := m_copy (nU := 2824) (nV := 353) (N := N) (a := 353 * (n - 1)) (b := 0) (by omega) (by omega) (by omega) (by omega) (by omega) (U := M1 14) (V := M1 11)
      have y2' : Lst p g y (fun j => if 0 ≤ j ∧ j < 0 + 353 then M1 14 (353 * (n - 1) + (j - 0)) else M1 11 j) := by
        refine Lst_eq w1 w2 (fun j hj => ?_) y2
        show (if 0 ≤ j ∧ j < 0 + 353 then M1 14 (353 * (n - 1) + (j - 0)) else M1 11 j) = M1 14 (353 * (n - 1 - 0) + j)
        rw [if_pos (by omega)]
        congr 1
      have fin := Lst_agr w1 (cpy_agr x y) (fun i hi => cpy_6 hi) y2'
      rw [if_le (by omega) (by omega), if_n0 c0 (by omega), w3, g1, bnd_s, f1, bnd_s, nm_s, nI_sub' (by omega), va_up_self, va_up_ne _ _ (show (14 : Nat) ≠ 15 from by omega), va_up_ne _ _ (show (11 : Nat) ≠ 15 from by omega), pk_mul, cp, bnd_s, nm_s]
      dsimp only
      rw [va_up_ne _ _ (show (15 : Nat) ≠ 11 from by omega), va_up_self, g2]
      refine ⟨_, _, rfl, rfl, rfl, ?_⟩
      refine Rel_act h1 p1 w1 w2 (fun a ha => ?_) ?_ (x' := sCpy x y) ?_ ?_ ⟨n - 1, (d + 7) % 8, by omega, by omega, ?_, ?_, ?_, fun i hi => ?_⟩ ?_ (fun a ha => ?_)
      · rw [va_up_ne _ _ (by omega), va_up_ne _ _ (by omega), va_up_ne _ _ (by omega)]
      · rw [va_up_ne _ _ (by omega), va_up_ne _ _ (by omega), va_up_self]; dsimp only; rw [f2 1 (by omega)]
      · rw [va_up_ne _ _ (by omega), va_up_self]
      · dsimp only; rw [va_up_self]; exact fin
      · rw [va_up_self]; exact g2
      · rw [va_up_self]; exact g3
      · dsimp only; rw [va_up_ne _ _ (by omega), va_up_self]
      · obtain ⟨y', q1, q2⟩ := r6 (i + 1) (by omega)
        refine ⟨y', ?_, ?_⟩
        · dsimp only
          rw [va_up_ne _ _ (by omega), va_up_ne _ _ (by omega), va_up_ne _ _ (by omega), show ((d + 7) % 8 + 7 - i) % 8 = (d + 7 - (i + 1)) % 8 from by omega]
          exact q1
        · dsimp only
          rw [va_up_ne _ _ (by omega), va_up_ne _ _ (by omega), show n - 1 - 1 - i = n - 1 - (i + 1) from by omega]
          exact q2
      · rw [va_up_ne _ _ (by omega), va_up_ne _ _ (by omega), va_up_self]; exact KN_0 f3
      · dsimp only; rw [va_up_ne _ _ (by omega), va_up_ne _ _ (by omega)]
end
section
/-! text -/
theorem Rel_gen {c c' : Nat → Rc} {FL FL' : RcL} {M M' : Rc} {ML ML' : RcL} (hc : ∀ a, a = 1 ∨ a = 5 ∨ a = 7 ∨ (8 ≤ a ∧ a ≤ 15) → c' a = c a) (h9 : c' 0 9 = c 0 9) (h10 : c' 0 10 = c 0 10) (hM : ∀ a, a = 11 ∨ a = 14 ∨ a = 15 → M' a = M a) (ht : Tpe c' M') (h3 : c' 3 3 0 = M' 8 0) (hq : ∃ q, c' 4 = embP q ∧ ∀ i, q 5 i < 2 ^ 31) (h : Rel c FL M ML) : Rel c' FL' M' ML' := by
  obtain ⟨_, _, _, p, p1, p2, h4⟩ := h
  refine ⟨ht, h3, hq, p, ?_, p2, ?_⟩
  · rw [hc 1 (by omega)]; exact p1
  · rcases h4 with h4 | ⟨g, x, w1, w2, w3, w4, ⟨n, d, r1, r2, r3, r4, r5, r6⟩, w6⟩
    · refine Or.inl ?_
      unfold Em at h4 ⊢
      rw [hc 5 (by omega), hc 7 (by omega), hM 15 (by omega), hM 11 (by omega)]
      exact h4
    · refine Or.inr ⟨g, x, w1, w2, ?_, ?_, ⟨n, d, r1, r2, ?_, ?_, ?_, fun i hi => ?_⟩, ?_⟩
      · rw [hc 5 (by omega)]; exact w3
      · rw [hM 11 (by omega)]; exact w4
      · rw [hc 7 (by omega)]; exact r3
      · rw [hc 7 (by omega)]; exact r4
      · rw [hM 15 (by omega)]; exact r5
      · obtain ⟨y, y1, y2⟩ := r6 i hi
        refine ⟨y, ?_, ?_⟩
        · rw [hc _ (by omega)]; exact y1
        · rw [hM 14 (by omega)]; exact y2
      · intro f q1 q2
        rw [h9, h10]
        exact w6 f q1 q2
theorem neg_s {s : Nat} (h : s ≤ 440) : ¬ (0 : Int32) ≤ (-1 : Int32) - nI s := by
  have e : (-1 : Int32) - nI s = nI 0 - nI (s + 1) := by
    rw [← nI_add, show (-1 : Int32) = nI 0 - nI 1 from by decide]
    simp only [Int32.sub_eq_add_neg, Int32.neg_add, Int32.add_assoc]
    rw [Int32.add_comm (-nI 1) (-nI s)]
  rw [e, Int32.le_iff_toInt_le, pk_sub_toInt (by omega) (by omega)]
  have z : (0 : Int32).toInt = 0 := by decide
  omega
theorem m_r0 {S : Nat → Int32} {N : Nat} (hN : 10 < N) (h : S 1 = nI 0) : fX6_rounds N S = some (nI 0, S) := by
  obtain ⟨u, rfl⟩ : ∃ u, N = u + 1 := ⟨N - 1, by omega⟩
  have e : nI 0 - nI 1 = (-1 : Int32) := by decide
  unfold fX6_rounds
  rw [nm_s, h, e, nm_s]
  unfold fX6_rounds_8
  rw [itn_s]
  unfold fX6_rounds_8b
  rw [if_pos (by decide), h, e, nm_s]
  unfold fX6_rounds_53
  rw [itn_s]
  unfold fX6_rounds_53b
  rw [if_pos (by decide)]
theorem c_r0 {P L : Rc} {N : Nat} (hN : 10 < N) (h : P 6 0 = nI 0) : fX1_round N P L = some L := by
  obtain ⟨u, rfl⟩ : ∃ u, N = u + 1 := ⟨N - 1, by omega⟩
  have e : nI 0 - nI 1 = (-1 : Int32) := by decide
  unfold fX1_round
  rw [h, e, nm_s]
  unfold fX1_round_10
  rw [itn_s]
  unfold fX1_round_10b
  rw [if_pos (by decide), h, e, nm_s]
  unfold fX1_round_56
  rw [itn_s]
  unfold fX1_round_56b
  rw [if_pos (by decide)]
theorem c_new0 {P L : Rc} {N : Nat} (hN : 100 < N) (h : P 6 0 = nI 0) : ∃ L', fX1_startAnewp N P L (nI 1) = some L' ∧ L' 8 0 = nI 0 ∧ L' 1 0 = nI 0 ∧ L' 9 0 = -1 ∧ L' 10 0 = -1 := by
  unfold fX1_startAnewp
  simp only [↓nm_s, ↓bnd_s, s_fill (show (6 : Nat) < 2 ^ 31 from by omega) (show 6 < N from by omega), s_fill (show (24 : Nat) < 2 ^ 31 from by omega) (show 24 < N from by omega)]
  rw [c_r0 (by omega) h, bnd_s]
  refine ⟨_, rfl, ?_, ?_, ?_, ?_⟩
  · simp (disch := omega) only [va_up_ne, va_up_self]
  · simp (disch := omega) only [va_up_ne, va_up_self]
    rfl
  · simp (disch := omega) only [va_up_ne, va_up_self]
  · simp (disch := omega) only [va_up_self]
theorem c_clear (q : Nx) : fX3_clear (embP q) = some (embP (up1 (up1 (up1 (up1 q 6 0) 7 0) 8 0) 9 0)) := by
  unfold fX3_clear
  simp only [↓nm_s, embP_up1]
/-- both read the same -/
theorem read_both {T : Nat → Int32} {t : Nat → Nat} {N L : Nat} {q : Nx} {R M : Rc} {ML : RcL} (hT : TP T t) (hT' : TP (M 1) t) (hN : 1000 < N) (hL : L ≤ 440) (hq : ∀ i, q 5 i < 2 ^ 31) (hM : M 2 0 = nI L) : ∃ M0, TxR M0 N (fX4_read N T (embP q) R (nI L)) (fX6_text N M ML) ∧ M0 2 0 = nI 0 ∧ M0 8 0 = nI 0 ∧ ∀ a, a = 1 ∨ a = 11 ∨ a = 13 ∨ a = 14 ∨ a = 15 → M0 a = M a := by
  generalize hM5 : va_up (va_up (va_up (va_up (va_up M 0 (fun _ => nI 0)) 3 (fun _ => nI L)) 2 (fun _ => nI 0)) 8 (fun _ => nI 0)) 4 (fun _ => nI 0) = M5
  have f1 : M5 1 = M 1 := by rw [← hM5]; simp (disch := omega) only [va_up_ne]
  have f2 : M5 2 0 = nI 0 := by rw [← hM5]; simp (disch := omega) only [va_up_ne, va_up_self]
  have f3 : M5 3 0 = nI L := by rw [← hM5]; simp (disch := omega) only [va_up_ne, va_up_self]
  have f4 : M5 4 0 = nI 0 := by rw [← hM5, va_up_self]
  have f8 : M5 8 0 = nI 0 := by rw [← hM5]; simp (disch := omega) only [va_up_ne, va_up_self]
  have fo : ∀ a, a = 1 ∨ a = 11 ∨ a = 13 ∨ a = 14 ∨ a = 15 → M5 a = M a := by
    intro a ha
    rw [← hM5, va_up_ne _ _ (by omega), va_up_ne _ _ (by omega), va_up_ne _ _ (by omega), va_up_ne _ _ (by omega), va_up_ne _ _ (by omega)]
  obtain ⟨M6, z1, z2, z3, z4⟩ := m_zero (ML := ML) (N := N) (v := nI 0) (d := 353) (i := 0) (u := N) (M := M5) (by omega) (by omega)
  obtain ⟨M7, ML7, g1, g2, g3⟩ := tokM (N := N) (L := L) (a := 0) (M := M6) (ML := ML) (by omega) hL (by omega) (by rw [z4 1 (by omega), f1]; exact hT') (by rw [z4 4 (by omega)]; exact f4) (by rw [z4 3 (by omega)]; exact f3)
  have mb : MB t L 0 M7 ML7 := ⟨g2, by rw [g3 1 (by omega) (by omega) (by omega) (by omega), z4 1 (by omega), f1]; exact hT', by rw [g3 3 (by omega) (by omega) (by omega) (by omega), z4 3 (by omega)]; exact f3, by omega⟩
  have et : fX6_text N M ML = itn (fX6_text_56b N) (fun _ _ _ => none) N M7 ML7 (nI 0) := by
    unfold fX6_text
    rw [nm_s, va_up_ne _ _ (show (2 : Nat) ≠ 0 from by omega), hM, nm_s, nm_s, nm_s, nm_s, nm_s, nm_s, hM5]
    unfold fX6_text_32
    rw [z1, g1, bnd_s]
    rfl
  generalize hR3 : va_up (va_up (va_up R 2 (fun _ => nI L)) 5 (fun _ => nI 0)) 3 (fun _ => nI 0) = R3
  have r2 : R3 2 0 = nI L := by rw [← hR3]; simp (disch := omega) only [va_up_ne, va_up_self]
  have r3 : R3 3 0 = nI 0 := by rw [← hR3, va_up_self]
  have r5 : R3 5 0 = nI 0 := by rw [← hR3]; simp (disch := omega) only [va_up_ne, va_up_self]
  obtain ⟨R4, k1, k2, k3, k4, k5⟩ := tokC (t := t) hT (N := N) (L := L) (a := 0) (R := R3) (by omega) hL (by omega) r5 r2
  have ec : fX4_read N T (embP q) R (nI L) = itn (fX4_read_36b N) (fun _ _ _ _ => none) N T (embP (up1 (up1 (up1 (up1 q 6 0) 7 0) 8 0) 9 0)) R4 (nI 0) := by
    unfold fX4_read
    rw [if_nlt (by omega) (by omega), nm_s, nm_s, nm_s, hR3, c_clear, bnd_s, nm_s, k1, bnd_s]
    rfl
  have eb := tE_b (t := t) (L := L) (a := 0) (by omega)
  have rd := rd_loop hT (N := N) (L := L) (by omega) hL (d := L + 1) (u := N) (w := N) (a := 0) (n := 0) (R := R4) (q := up1 (up1 (up1 (up1 q 6 0) 7 0) 8 0) 9 0) (g := fun _ _ => 0) (M := M7) (ML := ML7) (by omega) (by omega) (by omega) (by omega) ⟨by rw [k5 2 (by omega) (by omega) (by omega)]; exact r2, k2, eb.2.1⟩ (show R4 3 0 = nI 0 from by rw [k5 3 (by omega) (by omega) (by omega)]; exact r3) k3 k4 mb (Or.inl ⟨rfl, ⟨fun j hj => by rw [g3 12 (by omega) (by omega) (by omega) (by omega)]; exact z2 j (by omega) hj, by simp (disch := omega) only [up1_ne, up1_at], by simp (disch := omega) only [up1_ne, up1_at], by simp (disch := omega) only [up1_ne, up1_at], by rw [up1_at], fun i => by simp (disch := omega) only [up1_ne]; exact hq i⟩⟩)
  refine ⟨M7, by rw [ec, et]; exact rd, ?_, ?_, fun a ha => ?_⟩
  · rw [g3 2 (by omega) (by omega) (by omega) (by omega), z4 2 (by omega)]; exact f2
  · rw [g3 8 (by omega) (by omega) (by omega) (by omega), z4 8 (by omega)]; exact f8
  · rw [g3 a (by omega) (by omega) (by omega) (by omega), z4 a (by omega)]; exact fo a ha
theorem SP2_ok {N : Nat} (hN : 100000 < N) : SP2 N Rel := by
  intro c FL M ML h _
  obtain ⟨⟨t, L, t1, t2, t3, t4, t5⟩, h3, ⟨q, q1, q2⟩, p, p1, p2, h4⟩ := id h
  have top : ∃ d, d < 8 ∧ c 7 2 0 = nI d := by
    rcases h4 with ⟨e1, e2, e3, e4⟩ | ⟨g, x, w1, w2, w3, w4, ⟨n, d, r1, r2, r3, r4, r5, r6⟩, w6⟩
    · exact e3.2.1
    · exact ⟨d, r2, r4⟩
  obtain ⟨d, d8, hd⟩ := top
  obtain ⟨M0, tx, a2, a8, ao⟩ := read_both (N := N) (q := q) (R := c 3) (M := M) (ML := ML) t4 t5 (by omega) t1 q2 t3
  unfold fX5_text
  rw [q1, t2]
  rcases tx with ⟨f, q', R', M', ML', x1, x2, x3, x4, x5⟩ | ⟨n, q', g', R', M', ML', x1, x2, x3, x4, x5, x6, x7⟩
  · have x2' : R' 3 0 = nI f.1 ∧ R' 4 0 = nI f.2 ∧ 1 ≤ f.1 ∧ f.1 ≤ 3 ∧ f.2 ≤ 440 := x2
    rw [x1, bnd_s, nm_s, nm_s, if_neg (neg_s x2'.2.2.2.2), x4]
    refine ⟨_, _, rfl, rfl, rfl, Rel_gen (fun a ha => ?_) ?_ ?_ (fun a ha => ?_) ⟨t, 0, by omega, ?_, ?_, ?_, ?_⟩ ?_ ⟨q', ?_, x3⟩ h⟩
    · rcases ha with rfl | rfl | rfl | ha
      · simp (disch := omega) only [va_up_ne, va_up_self]
      · simp (disch := omega) only [va_up_ne, va_up_self]
      · simp (disch := omega) only [va_up_self]
      · simp (disch := omega) only [va_up_ne]
    · simp (disch := omega) only [va_up_ne, va_up_self]
    · simp (disch := omega) only [va_up_ne, va_up_self]
    · exact (x5.2.2 a (by omega) (by omega) (by omega) (by omega) (by omega) (by omega) (by omega)).trans (ao a (by omega))
    · simp (disch := omega) only [va_up_ne, va_up_self]
    · exact (congrFun (x5.2.2 2 (by omega) (by omega) (by omega) (by omega) (by omega) (by omega) (by omega)) 0).trans a2
    · simp (disch := omega) only [va_up_ne]; exact t4
    · rw [show TP ((((-1 : Int32) - nI f.2, M', ML').2.1) 1) t = TP (M' 1) t from rfl, x5.2.2 1 (by omega) (by omega) (by omega) (by omega) (by omega) (by omega) (by omega), ao 1 (by omega)]; exact t5
    · simp (disch := omega) only [va_up_ne, va_up_self]; exact x2'.1.trans x5.1.symm
    · simp (disch := omega) only [va_up_ne, va_up_self]
  · obtain ⟨X', g1, g2, g3⟩ := c_forget (X := va_up (c 0) 1 (fun _ => nI 0)) (N := N) (by omega)
    have x10 : X' 1 0 = nI 0 := by rw [g2 1 (by omega), va_up_self]
    have q5 := DN_5 x5
    have p5 : ∀ i, pCpy p q' 5 i < 2 ^ 31 := by
      intro i
      rw [pCpy_5]
      split
      · exact q5 i
      · exact p2 i
    have m2 : M' 2 0 = nI 0 := by rw [x7 2 (by omega) (by omega) (by omega) (by omega) (by omega)]; exact a2
    have m8 : M' 8 0 = nI 0 := by rw [x7 8 (by omega) (by omega) (by omega) (by omega) (by omega)]; exact a8
    have m1 : TP (M' 1) t := by rw [x7 1 (by omega) (by omega) (by omega) (by omega) (by omega), ao 1 (by omega)]; exact t5
    have cY : fX0_clear (c 7) = some (va_up (c 7) 1 (fun _ => nI 0)) := by unfold fX0_clear; rw [nm_s]
    rw [x1, bnd_s, nm_s, nm_s, if_pos (nI_pos' (by omega)), p1]
    dsimp only
    rw [c_pCpy, bnd_s, x4]
    unfold fX6_text_116
    rw [nm_s, va_up_self]
    rcases x5 with ⟨z, ⟨z0, z6, z7, z8, z9, z5⟩⟩ | ⟨z, dr⟩
    · -- an empty text
      have e6 : pCpy p q' 6 0 = 0 := by rw [pCpy_6 (by omega)]; exact z6
      obtain ⟨L', l1, l2, l3, l4, l5⟩ := c_new0 (P := embP (pCpy p q')) (L := c 5) (N := N) (by omega) (by rw [embP_a, e6])
      obtain ⟨T, c1, c2, c3, c4, c5, c6, c7⟩ := m_clears (N := N) (q := 0) (S := upd (M' 12) 16 (M' 12 1 - nI 1)) (by omega) (by omega) (by rw [upd_ne (by omega)]; exact z0 14 (by omega))
      have tj : ∀ j, j < 48 → j ≠ 16 → T j = nI 0 := fun j h1 h2 => by rw [c2 j h1 (fun l hl => by omega), upd_ne h2]; exact z0 j (by omega)
      have r0 := m_r0 (N := N) (by omega) (tj 1 (by omega) (by omega))
      have cp := m_copy (nU := 353) (nV := 353) (N := N) (a := 0) (b := 0) (by omega) (by omega) (by omega) (by omega) (by omega) (U := T) (V := M' 11)
      have be : fX6_begins N (upd (M' 12) 16 (M' 12 1 - nI 1)) = some T := by
        unfold fX6_begins
        rw [c1, bnd_s, r0, bnd_s]
      rw [l1, bnd_s, cY, bnd_s, g1, bnd_s, be, bnd_s, bx_uu, nm_s, va_up_self, va_up_ne _ _ (show (11 : Nat) ≠ 12 from by omega), cp, bnd_s, nm_s, nm_s]
      have v11 : ∀ j, j < 353 → (fun j => if 0 ≤ j ∧ j < 0 + 353 then T (0 + (j - 0)) else M' 11 j) j = T j := by
        intro j hj
        show (if 0 ≤ j ∧ j < 0 + 353 then T (0 + (j - 0)) else M' 11 j) = _
        rw [if_pos (by omega)]
        congr 1
        omega
      generalize (fun j => if 0 ≤ j ∧ j < 0 + 353 then T (0 + (j - 0)) else M' 11 j) = V at v11
      refine ⟨_, _, rfl, rfl, rfl, ⟨t, 0, by omega, ?_, ?_, ?_, ?_⟩, ?_, ⟨q', ?_, q5⟩, pCpy p q', ?_, p5, Or.inl ⟨⟨e6, by rw [pCpy_6 (by omega)]; exact z7, by rw [pCpy_6 (by omega)]; exact z8⟩, ?_, ?_, ?_⟩⟩
      · simp (disch := omega) only [va_up_ne, va_up_self]; exact x10
      · simp (disch := omega) only [va_up_ne]; exact m2
      · simp (disch := omega) only [va_up_ne]; exact t4
      · simp (disch := omega) only [va_up_ne]; exact m1
      · simp (disch := omega) only [va_up_ne, va_up_self]; exact x2.trans m8.symm
      · simp (disch := omega) only [va_up_ne, va_up_self]
      · simp (disch := omega) only [va_up_ne, va_up_self]
      · simp (disch := omega) only [va_up_ne, va_up_self]; exact ⟨l2, l3, l4, l5⟩
      · simp (disch := omega) only [va_up_ne, va_up_self]; exact ⟨trivial, ⟨d, d8, hd⟩, trivial⟩
      · simp (disch := omega) only [va_up_ne, va_up_self]
        rw [v11 0 (by omega), v11 1 (by omega), v11 14 (by omega), v11 35 (by omega), v11 48 (by omega), v11 49 (by omega), v11 50 (by omega), v11 51 (by omega), v11 52 (by omega)]
        exact ⟨tj 0 (by omega) (by omega), tj 1 (by omega) (by omega), tj 14 (by omega) (by omega), tj 35 (by omega) (by omega), c7 48 (by omega) (by omega) (by omega) (by omega) (fun k _ => by omega), c7 49 (by omega) (by omega) (by omega) (by omega) (fun k _ => by omega), c7 50 (by omega) (by omega) (by omega) (by omega) (fun k _ => by omega), c5, c6⟩
    · -- a works
      obtain ⟨w1, w2, wC, wS⟩ := tx_plan (p0 := p) dr (x6 z) p2
      rw [← dr.1.2.1] at wS
      obtain ⟨x, hx⟩ := embL_all (c 5)
      obtain ⟨T, b1, b2, b3⟩ := m_begins (x := x) (N := N) w1 w2 (by omega) (by omega) wC wS
      have nw : fX1_startAnewp N (embP (pCpy p q')) (embL x) (nI 1) = some (embL (sRound (pCpy p q') (sClr x (pCpy p q' 4) 1))) := s_new (x := x) (C := pCpy p q' 4) (f := 1) w1 (N := N) (by omega) (by omega) wC (D := embP (pCpy p q') 4) (fun l _ => embP_a _ _ _)
      have sn := Stt_new (x := x) (C := pCpy p q' 4) (f := 1) w1 (by omega) wC
      generalize sRound (pCpy p q') (sClr x (pCpy p q' 4) 1) = x' at nw sn b2 b3
      have cp := m_copy (nU := 353) (nV := 353) (N := N) (a := 0) (b := 0) (by omega) (by omega) (by omega) (by omega) (by omega) (U := T) (V := M' 11)
      rw [hx, nw, bnd_s, cY, bnd_s, g1, bnd_s, b1, bnd_s, bx_uu, nm_s, va_up_self, va_up_ne _ _ (show (11 : Nat) ≠ 12 from by omega), cp, bnd_s, nm_s, nm_s]
      have v11 : ∀ j, j < 353 → (fun j => if 0 ≤ j ∧ j < 0 + 353 then T (0 + (j - 0)) else M' 11 j) j = T j := by
        intro j hj
        show (if 0 ≤ j ∧ j < 0 + 353 then T (0 + (j - 0)) else M' 11 j) = _
        rw [if_pos (by omega)]
        congr 1
        omega
      generalize (fun j => if 0 ≤ j ∧ j < 0 + 353 then T (0 + (j - 0)) else M' 11 j) = V at v11
      refine ⟨_, _, rfl, rfl, rfl, ⟨t, 0, by omega, ?_, ?_, ?_, ?_⟩, ?_, ⟨q', ?_, q5⟩, pCpy p q', ?_, p5, Or.inr ⟨g', x', w1, w2, ?_, ?_, ⟨0, d, by omega, d8, ?_, ?_, ?_, fun i hi => by omega⟩, ?_⟩⟩
      · simp (disch := omega) only [va_up_ne, va_up_self]; exact x10
      · simp (disch := omega) only [va_up_ne]; exact m2
      · simp (disch := omega) only [va_up_ne]; exact t4
      · simp (disch := omega) only [va_up_ne]; exact m1
      · simp (disch := omega) only [va_up_ne, va_up_self]; exact x2.trans m8.symm
      · simp (disch := omega) only [va_up_ne, va_up_self]
      · simp (disch := omega) only [va_up_ne, va_up_self]
      · simp (disch := omega) only [va_up_ne, va_up_self]
      · simp (disch := omega) only [va_up_ne, va_up_self]
        exact ⟨sn.1, sn.2.2.2.1, by have := sn.2.1; omega, RelS_eq w1 w2 sn.1.1 v11 b2, SumS_eq w1 v11 b3⟩
      · simp (disch := omega) only [va_up_self]
      · simp (disch := omega) only [va_up_ne, va_up_self]; exact hd
      · simp (disch := omega) only [va_up_self]
      · simp (disch := omega) only [va_up_ne, va_up_self]
        exact KN_0 g3
end
