section RW2
variable {p : Program} {l : Launch} {e : Env} {R : Room} {s : State} {m : MethodId} {args : Array Value} {below : List Frame} {meth : Method} {c : Code} {H : Heap} {locs : List Loc} {cells slots : Nat} {Q : State → Prop}
variable {cc : ByteArray} {nL : Nat} {own : String} {Ts : List Cond} {ret : Option FieldType} {D : va_G} {K : Nat → ClassId} {pc : Nat} {ls : Array Slot} {rest : List Value} {lv lv' : List (Nat × Value)} {ws : va_W} {A : Nat → Prop} {H0 : Heap}
theorem va_P_nil : va_P D vwCl [] H := fun k q h => by simp at h
theorem sw_if {α : Type} {c : Prop} [Decidable c] {x y : Option α} {z : α} {G : Prop} (h : (if c then x else y) = some z) (kt : c → x = some z → G) (kf : ¬ c → y = some z → G) : G := by
  by_cases hc : c
  · exact kt hc (ite_t h hc)
  · exact kf hc (ite_f h hc)
theorem ne_toInt {x k : Int32} {n : Int} (h : ¬ x = k) (hk : k.toInt = n) : x.toInt ≠ n := fun e => h (Int32.toInt_inj.mp (by rw [e, hk]))
theorem nm_w {α S : Type} {v : S} {kf : S → Option α} {z : α} (h : nm v kf = some z) (ww : S → va_W) {g : JFrame} (hP : va_P D vwCl (ww v) H) (hD : va_D A (ww v)) (k : ∀ u : S, kf u = some z → va_P D vwCl (ww u) H → va_D A (ww u) → W p l e R s m args below meth c H locs cells slots Q g) : W p l e R s m args below meth c H locs cells slots Q g := k v h hP hD
theorem sw_out4 {x : Int32} (h0 : ¬ x = 0) (h1 : ¬ x = 1) (h2 : ¬ x = 2) (h3 : ¬ x = 3) : x.toInt < 0 ∨ 3 < x.toInt := by
  have e0 := ne_toInt h0 (n := 0) rfl
  have e1 := ne_toInt h1 (n := 1) rfl
  have e2 := ne_toInt h2 (n := 2) rfl
  have e3 := ne_toInt h3 (n := 3) rfl
  omega
theorem sw_out6 {x : Int32} (h0 : ¬ x = 0) (h1 : ¬ x = 1) (h2 : ¬ x = 2) (h3 : ¬ x = 3) (h4 : ¬ x = 4) (h5 : ¬ x = 5) : x.toInt < 0 ∨ 5 < x.toInt := by
  have e0 := ne_toInt h0 (n := 0) rfl
  have e1 := ne_toInt h1 (n := 1) rfl
  have e2 := ne_toInt h2 (n := 2) rfl
  have e3 := ne_toInt h3 (n := 3) rfl
  have e4 := ne_toInt h4 (n := 4) rfl
  have e5 := ne_toInt h5 (n := 5) rfl
  omega
theorem sw_out10 {x : Int32} (h0 : ¬ x = 0) (h1 : ¬ x = 1) (h2 : ¬ x = 2) (h3 : ¬ x = 3) (h4 : ¬ x = 4) (h5 : ¬ x = 5) (h6 : ¬ x = 6) (h7 : ¬ x = 7) (h8 : ¬ x = 8) (h9 : ¬ x = 9) : x.toInt < 0 ∨ 9 < x.toInt := by
  have e0 := ne_toInt h0 (n := 0) rfl
  have e1 := ne_toInt h1 (n := 1) rfl
  have e2 := ne_toInt h2 (n := 2) rfl
  have e3 := ne_toInt h3 (n := 3) rfl
  have e4 := ne_toInt h4 (n := 4) rfl
  have e5 := ne_toInt h5 (n := 5) rfl
  have e6 := ne_toInt h6 (n := 6) rfl
  have e7 := ne_toInt h7 (n := 7) rfl
  have e8 := ne_toInt h8 (n := 8) rfl
  have e9 := ne_toInt h9 (n := 9) rfl
  omega
theorem sw_out21 {x : Int32} (h0 : ¬ x = 0) (h1 : ¬ x = 1) (h2 : ¬ x = 2) (h3 : ¬ x = 3) (h4 : ¬ x = 4) (h5 : ¬ x = 5) (h6 : ¬ x = 6) (h7 : ¬ x = 7) (h8 : ¬ x = 8) (h9 : ¬ x = 9) (h10 : ¬ x = 10) (h11 : ¬ x = 11) (h12 : ¬ x = 12) (h13 : ¬ x = 13) (h14 : ¬ x = 14) (h15 : ¬ x = 15) (h16 : ¬ x = 16) (h17 : ¬ x = 17) (h18 : ¬ x = 18) (h19 : ¬ x = 19) (h20 : ¬ x = 20) : x.toInt < 0 ∨ 20 < x.toInt := by
  have e0 := ne_toInt h0 (n := 0) rfl
  have e1 := ne_toInt h1 (n := 1) rfl
  have e2 := ne_toInt h2 (n := 2) rfl
  have e3 := ne_toInt h3 (n := 3) rfl
  have e4 := ne_toInt h4 (n := 4) rfl
  have e5 := ne_toInt h5 (n := 5) rfl
  have e6 := ne_toInt h6 (n := 6) rfl
  have e7 := ne_toInt h7 (n := 7) rfl
  have e8 := ne_toInt h8 (n := 8) rfl
  have e9 := ne_toInt h9 (n := 9) rfl
  have e10 := ne_toInt h10 (n := 10) rfl
  have e11 := ne_toInt h11 (n := 11) rfl
  have e12 := ne_toInt h12 (n := 12) rfl
  have e13 := ne_toInt h13 (n := 13) rfl
  have e14 := ne_toInt h14 (n := 14) rfl
  have e15 := ne_toInt h15 (n := 15) rfl
  have e16 := ne_toInt h16 (n := 16) rfl
  have e17 := ne_toInt h17 (n := 17) rfl
  have e18 := ne_toInt h18 (n := 18) rfl
  have e19 := ne_toInt h19 (n := 19) rfl
  have e20 := ne_toInt h20 (n := 20) rfl
  omega
theorem r_ialdC (C0 : cx p s m args meth c cc nL own Ts ret D K) (hP : va_P D vwCl ws H) (q0 : Nat) {f : Nat → Int32} {n a : Nat} (ha : ws[q0]? = some (a, .inl (K 0, n, .inl f))) (j : Nat) {i : Int32} (hj : ¬ (i < 0 ∨ n ≤ i.toNatClampNeg) ∧ i.toNatClampNeg = j) (hdg : decode cc pc = .ok (.iaload, 1)) (k : W p l e R s m args below meth c H locs cells slots Q (F0 m (pc + 1) ls (.int (f j) :: rest))) : W p l e R s m args below meth c H locs cells slots Q (F0 m pc ls (.int i :: .ref a :: rest)) := va_iald C0.1.1 C0.1.2.1 C0.2.2.2.1 hP q0 0 ha rfl hj.1 hdg (by rw [hj.2]; exact k)
theorem r_iastC {α S : Type} {i : Int32} {x : Int32} {n a : Nat} {v : S} {kf : S → Option α} {z : α} (h : nm v kf = some z) (C0 : cx p s m args meth c cc nL own Ts ret D K) (hP : va_P D vwCl ws H) (hD : va_D A ws) (hS : va_S A H0 H locs) (q0 : Nat) (ww : S → va_W) {f : Nat → Int32} (ha : ws[q0]? = some (a, .inl (K 0, n, .inl f))) (j : Nat) (hj : ¬ (i < 0 ∨ n ≤ i.toNatClampNeg) ∧ i.toNatClampNeg = j) (hw : ws.set q0 (a, .inl (K 0, n, .inl (upd f j x))) = ww v) (hdg : decode cc pc = .ok (.iastore, 1)) (k : ∀ (u : S) (H1 : Heap) (locs1 : List Loc), kf u = some z → va_P D vwCl (ww u) H1 → va_D A (ww u) → va_S A H0 H1 locs1 → W p l e R s m args below meth c H1 locs1 cells slots Q (F0 m (pc + 1) ls rest)) : W p l e R s m args below meth c H locs cells slots Q (F0 m pc ls (.int x :: .int i :: .ref a :: rest)) := va_iast C0.1.1 C0.1.2.1 C0.2.2.2.1 hP hD hS q0 0 ha rfl hj.1 hdg (fun H1 locs1 hP hD hS => k v H1 locs1 h (by rw [hj.2] at hP; exact hw ▸ hP) (by rw [hj.2] at hD; exact hw ▸ hD) hS)
theorem r_laldC (C0 : cx p s m args meth c cc nL own Ts ret D K) (hP : va_P D vwCl ws H) (q0 : Nat) {f : Nat → Int64} {n a : Nat} (ha : ws[q0]? = some (a, .inl (K 1, n, .inr (.inl f)))) (j : Nat) {i : Int32} (hj : ¬ (i < 0 ∨ n ≤ i.toNatClampNeg) ∧ i.toNatClampNeg = j) (hdg : decode cc pc = .ok (.laload, 1)) (k : W p l e R s m args below meth c H locs cells slots Q (F0 m (pc + 1) ls (.long (f j) :: rest))) : W p l e R s m args below meth c H locs cells slots Q (F0 m pc ls (.int i :: .ref a :: rest)) := va_lald C0.1.1 C0.1.2.1 C0.2.2.2.1 hP q0 1 ha rfl hj.1 hdg (by rw [hj.2]; exact k)
theorem r_lastC {α S : Type} {i : Int32} {x : Int64} {n a : Nat} {v : S} {kf : S → Option α} {z : α} (h : nm v kf = some z) (C0 : cx p s m args meth c cc nL own Ts ret D K) (hP : va_P D vwCl ws H) (hD : va_D A ws) (hS : va_S A H0 H locs) (q0 : Nat) (ww : S → va_W) {f : Nat → Int64} (ha : ws[q0]? = some (a, .inl (K 1, n, .inr (.inl f)))) (j : Nat) (hj : ¬ (i < 0 ∨ n ≤ i.toNatClampNeg) ∧ i.toNatClampNeg = j) (hw : ws.set q0 (a, .inl (K 1, n, .inr (.inl (vp_updL f j x)))) = ww v) (hdg : decode cc pc = .ok (.lastore, 1)) (k : ∀ (u : S) (H1 : Heap) (locs1 : List Loc), kf u = some z → va_P D vwCl (ww u) H1 → va_D A (ww u) → va_S A H0 H1 locs1 → W p l e R s m args below meth c H1 locs1 cells slots Q (F0 m (pc + 1) ls rest)) : W p l e R s m args below meth c H locs cells slots Q (F0 m pc ls (.long x :: .int i :: .ref a :: rest)) := va_last C0.1.1 C0.1.2.1 C0.2.2.2.1 hP hD hS q0 1 ha rfl hj.1 hdg (fun H1 locs1 hP hD hS => k v H1 locs1 h (by rw [hj.2] at hP; exact hw ▸ hP) (by rw [hj.2] at hD; exact hw ▸ hD) hS)
theorem r_aald8 (C0 : cx p s m args meth c cc nL own Ts ret D K) (hP : va_P D vwCl ws H) (q0 : Nat) {g : Nat → Option Nat} {a ad : Nat} (ha : ws[q0]? = some (a, .inl (K 2, 8, .inr (.inr (.inr (.inr g)))))) (j : Nat) {i : Int32} (hg : g i.toNatClampNeg = some ad) (hin : ¬ (i < 0 ∨ 8 ≤ i.toNatClampNeg)) (hdg : decode cc pc = .ok (.aaload, 1)) (k : W p l e R s m args below meth c H locs cells slots Q (F0 m (pc + 1) ls (.ref ad :: rest))) : W p l e R s m args below meth c H locs cells slots Q (F0 m pc ls (.int i :: .ref a :: rest)) := va_aldq C0.1.1 C0.1.2.1 C0.2.2.2.1 hP q0 2 ha rfl hin hdg (by rw [hg]; exact k)
theorem r_cI {z : Int32} {a : Array Value} {st0 : List Value} (hr : CallRun p l e R s m args below meth c H locs cells slots 0 0 (F0 m pc ls st0) rest (vp_Si (fun r => r = z) a) (fun _ => False)) (k : W p l e R s m args below meth c H locs cells slots Q (F0 m (pc + 3) ls (.int z :: rest))) : W p l e R s m args below meth c H locs cells slots Q (F0 m pc ls st0) := vp_callSi hr (fun r e => by rw [e]; exact k)
theorem r_cL {z : Int64} {a : Array Value} {st0 : List Value} (hr : CallRun p l e R s m args below meth c H locs cells slots 0 0 (F0 m pc ls st0) rest (vp_Sl (fun r => r = z) a) (fun _ => False)) (k : W p l e R s m args below meth c H locs cells slots Q (F0 m (pc + 3) ls (.long z :: rest))) : W p l e R s m args below meth c H locs cells slots Q (F0 m pc ls st0) := vp_callSl hr (fun r e => by rw [e]; exact k)
theorem r_zretRC (C0 : cx p s m args meth c cc nL own Ts (some .boolean) D K) {v z : Int32} (h : some v = some z) (hv : v = 0 ∨ v = 1) (hdg : decode cc pc = .ok (.ireturn, 1)) : W p l e R s m args below meth c s.heap [] cells slots (MQ below (vp_Si (fun r => r = z)) args s cells slots (fun _ => False)) (F0 m pc ls [.int v]) := W.zret C0.1.1 C0.1.2.1 C0.2.1 (nar_b hv) (fun _ ht _ => ⟨v, rfl, Option.some.inj h, ht⟩) (fun _ h => by cases h) hdg C0.2.2.1
theorem r_zretC {S : Type} {v : Int32} {u : S} {z : Int32 × S} (h : some (v, u) = some z) (hv : v = 0 ∨ v = 1) (C0 : cx p s m args meth c cc nL own Ts (some .boolean) D K) (ww : S → va_W) (hP : va_P D vwCl (ww u) H) (hD : va_D A (ww u)) (hS : va_S A s.heap H locs) (hdg : decode cc pc = .ok (.ireturn, 1)) : W p l e R s m args below meth c H locs cells slots (MQ below (qcI D z ww A) args s cells slots A) (F0 m pc ls [.int v]) := W.zret C0.1.1 C0.1.2.1 C0.2.1 (nar_b hv) (fun t ht _ => ⟨⟨v, u, rfl, Option.some.inj h, by rw [ht]; exact hP, hD⟩, hS.F ht⟩) hS.2.2 hdg C0.2.2.1
end RW2
def gHok (g : Nat → Option Nat) (a0 a1 a2 a3 a4 a5 a6 a7 : Nat → Nat) : Prop := g 0 = some (a0 0) ∧ g 1 = some (a1 0) ∧ g 2 = some (a2 0) ∧ g 3 = some (a3 0) ∧ g 4 = some (a4 0) ∧ g 5 = some (a5 0) ∧ g 6 = some (a6 0) ∧ g 7 = some (a7 0)
