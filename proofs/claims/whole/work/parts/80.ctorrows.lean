/-! rows of constructors: a world by pieces grows at its end -/
def zRc : Rc := fun _ _ => 0
def zRcL : RcL := fun _ _ => 0
def lineZ : Rc := va_up (va_up (va_up zRc 7 (fun _ => 1)) 9 (fun _ => -1)) 10 (fun _ => -1)
def readZ : Rc := va_up zRc 6 (fun _ => 1)
def findZ : Rc := va_up (va_up zRc 6 (fun _ => -1)) 7 (fun _ => -1)
theorem fl_snoc (Ws : List va_W) (w : va_W) : fl Ws ++ w = fl (Ws ++ [w]) := by
  show Ws.flatten ++ w = (Ws ++ [w]).flatten
  rw [List.flatten_append]
  simp
section CR
variable {p : Program} {l : Launch} {e : Env} {R : Room} {s : State} {m : MethodId} {args : Array Value} {below : List Frame} {meth : Method} {c : Code} {H : Heap} {locs : List Loc} {cells slots : Nat} {Q : State → Prop}
variable {cc : ByteArray} {nL : Nat} {own : String} {Ts : List Cond} {ret : Option FieldType} {D : va_G} {K : Nat → ClassId} {pc : Nat} {ls : Array Slot} {rest : List Value} {lv : List (Nat × Value)} {Ws : List va_W} {A : Nat → Prop} {H0 : Heap}
theorem r_newI (C0 : cx p s m args meth c cc nL own Ts ret D K) (harr : Cond.arrayClass .int ∈ Ts) (hP : va_P D vwCl (fl Ws) H) (hD : va_D A (fl Ws)) (hS : va_S A H0 H locs) (hA : ∀ q, H0.size ≤ q → A q) (N' : Nat) (Wn : Nat → List va_W) {n : Int32} (hn : ¬ n < 0 ∧ n.toNatClampNeg = N' ∧ N' * 4 ≤ 536870912) (hWn : ∀ q, Ws ++ [[(q, .inl (K 0, N', .inl (fun _ => 0)))]] = Wn q) (hcs : cells + 1 ≤ R.cells ∧ slots + N' ≤ R.slots) (hdg : decode cc pc = .ok (.newarray .int, 2)) (kk : ∀ (q : Nat) (H1 : Heap), va_P D vwCl (fl (Wn q)) H1 → va_D A (fl (Wn q)) → va_S A H0 H1 locs → W p l e R s m args below meth c H1 locs (cells + 1) (slots + N') Q (F0 m (pc + 2) ls (.ref q :: rest))) : W p l e R s m args below meth c H locs cells slots Q (F0 m pc ls (.int n :: rest)) := by
  refine va_newa (atype := .int) (ty := .int) (a0 := (N', .inl (fun _ => 0))) C0.1.1 C0.1.2.1 (C0.1.2.2.2.2 _ harr) rfl C0.2.2.2.1 hP hD hS hA (fun _ => rfl) hn.1 hn.2.1 hn.2.2 hcs.1 hcs.2 hdg (fun q cA H1 hK1 hP1 hD1 hS1 => ?_)
  have e1 : s.vm.findClass ("[" ++ FieldType.int.toString) = some cA := (hK1.2 3 _ rfl).2
  have e2 : s.vm.findClass ("[" ++ FieldType.int.toString) = some (K 0) := (C0.2.2.2.1.2 0 _ rfl).2
  obtain rfl : cA = K 0 := Option.some.inj (e1.symm.trans e2)
  rw [fl_snoc, hWn q] at hP1 hD1
  exact kk q H1 hP1 hD1 hS1
theorem r_newJ (C0 : cx p s m args meth c cc nL own Ts ret D K) (harr : Cond.arrayClass .long ∈ Ts) (hP : va_P D vwCl (fl Ws) H) (hD : va_D A (fl Ws)) (hS : va_S A H0 H locs) (hA : ∀ q, H0.size ≤ q → A q) (N' : Nat) (Wn : Nat → List va_W) {n : Int32} (hn : ¬ n < 0 ∧ n.toNatClampNeg = N' ∧ N' * 8 ≤ 536870912) (hWn : ∀ q, Ws ++ [[(q, .inl (K 1, N', .inr (.inl (fun _ => 0))))]] = Wn q) (hcs : cells + 1 ≤ R.cells ∧ slots + N' ≤ R.slots) (hdg : decode cc pc = .ok (.newarray .long, 2)) (kk : ∀ (q : Nat) (H1 : Heap), va_P D vwCl (fl (Wn q)) H1 → va_D A (fl (Wn q)) → va_S A H0 H1 locs → W p l e R s m args below meth c H1 locs (cells + 1) (slots + N') Q (F0 m (pc + 2) ls (.ref q :: rest))) : W p l e R s m args below meth c H locs cells slots Q (F0 m pc ls (.int n :: rest)) := by
  refine va_newa (atype := .long) (ty := .long) (a0 := (N', .inr (.inl (fun _ => 0)))) C0.1.1 C0.1.2.1 (C0.1.2.2.2.2 _ harr) rfl C0.2.2.2.1 hP hD hS hA (fun _ => rfl) hn.1 hn.2.1 hn.2.2 hcs.1 hcs.2 hdg (fun q cA H1 hK1 hP1 hD1 hS1 => ?_)
  have e1 : s.vm.findClass ("[" ++ FieldType.long.toString) = some cA := (hK1.2 3 _ rfl).2
  have e2 : s.vm.findClass ("[" ++ FieldType.long.toString) = some (K 1) := (C0.2.2.2.1.2 1 _ rfl).2
  obtain rfl : cA = K 1 := Option.some.inj (e1.symm.trans e2)
  rw [fl_snoc, hWn q] at hP1 hD1
  exact kk q H1 hP1 hD1 hS1
theorem r_newQ (C0 : cx p s m args meth c cc nL own Ts ret D K) {index : Nat} (hcl : Cond.classLink own index "CardLoops$Line" ∈ Ts) (hP : va_P D vwCl (fl Ws) H) (hD : va_D A (fl Ws)) (hS : va_S A H0 H locs) (hA : ∀ q, H0.size ≤ q → A q) (Wn : Nat → List va_W) (hWn : ∀ q, Ws ++ [[(q, .inl (K 2, 8, .inr (.inr (.inr (.inr (fun _ => none))))))]] = Wn q) (hcs : cells + 1 ≤ R.cells ∧ slots + 8 ≤ R.slots) (hdg : decode cc pc = .ok (.anewarray index, 3)) (kk : ∀ (q : Nat) (H1 : Heap), va_P D vwCl (fl (Wn q)) H1 → va_D A (fl (Wn q)) → va_S A H0 H1 locs → W p l e R s m args below meth c H1 locs (cells + 1) (slots + 8) Q (F0 m (pc + 3) ls (.ref q :: rest))) : W p l e R s m args below meth c H locs cells slots Q (F0 m pc ls (.int 8 :: rest)) := by
  refine va_newq (C := "CardLoops$Line") (N' := 8) C0.1.1 C0.1.2.1 C0.1.2.2.2.1 (C0.1.2.2.2.2 _ hcl) C0.2.2.2.2.2.2.2 C0.2.2.2.1 hP hD hS hA (by decide) (by decide) (by decide) hcs.1 hcs.2 hdg (fun q cA H1 hK1 hP1 hD1 hS1 => ?_)
  obtain ⟨_, _, _, _, _, e1⟩ := (hK1.2 3 _ rfl).2
  obtain ⟨_, _, _, _, _, e2⟩ := (C0.2.2.2.1.2 2 _ rfl).2
  obtain rfl : cA = K 2 := Option.some.inj (e1.symm.trans e2)
  rw [fl_snoc, hWn q] at hP1 hD1
  exact kk q H1 hP1 hD1 hS1
theorem r_newO (C0 : cx p s m args meth c cc nL own Ts ret D K) {C : String} {T : u_T} {N index : Nat} (ci : Nat) (hin : ∀ w ∈ u_ws C T N, w ∈ Ts) (ty : Nat → FieldType) (hty : ∀ k, k < N → parseFieldDescriptor (T k).2.2.1 = some (ty k)) (hq : Cond.classLink own index C ∈ Ts ∧ Cond.instantiable C N ∈ Ts ∧ Cond.initialized C ∈ Ts) (hP : va_P D vwCl (fl Ws) H) (hD : va_D A (fl Ws)) (hS : va_S A H0 H locs) (hA : ∀ q, H0.size ≤ q → A q) (hc : vwCl[ci]? = some (C, T, N)) {fs : List Value} (hfs : ∀ j, j < N → defaultValue (ty j) = vp_V fs j) (Wn : Nat → List va_W) (hWn : ∀ q, Ws ++ [[(q, .inr (ci, fs))]] = Wn q) (hcs : cells + 1 ≤ R.cells ∧ slots + N ≤ R.slots) (hdg : decode cc pc = .ok (.new index, 3)) (kk : ∀ (q : Nat) (H1 : Heap), va_P D vwCl (fl (Wn q)) H1 → va_D A (fl (Wn q)) → va_S A H0 H1 locs → W p l e R s m args below meth c H1 locs (cells + 1) (slots + N) Q (F0 m (pc + 3) ls (.ref q :: rest))) : W p l e R s m args below meth c H locs cells slots Q (F0 m pc ls rest) := by
  refine va_new (ci := ci) C0.1.1 C0.1.2.1 C0.1.2.2.2.2 hin ty hty C0.1.2.2.2.1 (C0.1.2.2.2.2 _ hq.1) (C0.1.2.2.2.2 _ hq.2.1) (C0.1.2.2.2.2 _ hq.2.2) C0.2.2.2.1 hP hD hS hA hc hfs hcs.1 hcs.2 hdg (fun q H1 hP1 hD1 hS1 => ?_)
  rw [fl_snoc, hWn q] at hP1 hD1
  exact kk q H1 hP1 hD1 hS1
theorem r_objinit (C0 : cx p s m args meth c cc nL own Ts ret D K) {idx a : Nat} (hq : Cond.methodLink own idx objectInit ∈ Ts ∧ Cond.instanceMethod objectInit ∈ Ts ∧ Cond.code objectInit ⟨#[0xb1]⟩ 1 none ∈ Ts) (hl : lv_has ls nL lv) (hR : 1 ≤ R.frames ∧ (rest.map fun v => v.category).sum + 12 ≤ R.locals) (hdg : decode cc pc = .ok (.invokespecial idx, 3)) (k : W p l e R s m args below meth c H locs cells slots Q (F0 m (pc + 3) ls rest)) : W p l e R s m args below meth c H locs cells slots Q (F0 m pc ls (.ref a :: rest)) :=
  W.objInit C0.1.1 C0.1.2.1 C0.1.2.2.2.1 (C0.1.2.2.2.2 _ hq.1) (C0.1.2.2.2.2 _ hq.2.1) (C0.1.2.2.2.2 _ hq.2.2) (g := F0 m pc ls (.ref a :: rest)) rfl (hl.1.trans C0.1.2.2.1.symm) rfl hdg hR.1 (by show 2 * 0 + _ + 12 ≤ _; omega) k
/-- a field of the object that is being made -/
theorem r_cputF (C0 : cx p s m args meth c cc nL own Ts ret D K) (hin2 : meth.name = "<init>") {C : String} {T : u_T} {N index a : Nat} (ci : Nat) (hin : ∀ w ∈ u_ws C T N, w ∈ Ts) (ty0 : Nat → FieldType) (hty : ∀ k, k < N → parseFieldDescriptor (T k).2.2.1 = some (ty0 k)) (hnm : ∀ a, a < N → ∀ b, b < N → a ≠ b → (T a).2.1 ≠ (T b).2.1) (hP : va_P D vwCl (fl Ws) H) (hD : va_D A (fl Ws)) (hS : va_S A H0 H locs) (Wn : List va_W) {fs : List Value} (he : (fl Ws)[0]? = some (a, .inr (ci, fs))) (hc : vwCl[ci]? = some (C, T, N)) (j : Nat) (hj : j < N) (hlink : Cond.fieldLink own index (T j).1 (T j).2.1 (T j).2.2.1 ∈ Ts) (hfin : (T j).2.2.2 = true) (hdecl : (T j).1 = own) {ty : FieldType} {x : Value} (hd : parseFieldDescriptor (T j).2.2.1 = some ty) (hn : narrow ty x = x) (hfit : fits ty x = true) (hl : j < fs.length) (hw : (fl Ws).set 0 (a, .inr (ci, fs.set j x)) = fl Wn) (hdg : decode cc pc = .ok (.putfield index, 3)) (k : ∀ (H1 : Heap) (locs1 : List Loc), va_P D vwCl (fl Wn) H1 → va_D A (fl Wn) → va_S A H0 H1 locs1 → W p l e R s m args below meth c H1 locs1 cells slots Q (F0 m (pc + 3) ls rest)) : W p l e R s m args below meth c H locs cells slots Q (F0 m pc ls (x :: .ref a :: rest)) :=
  va_putF C0.1.1 C0.1.2.1 C0.1.2.2.2.2 hin ty0 hty hnm C0.1.2.2.2.1 C0.2.2.2.1 hP hD hS 0 he hc j hj (C0.1.2.2.2.2 _ hlink) (fun _ h9 => h9) hfin hin2 hdecl hd hn hfit hl hdg (fun H1 locs1 hP hD hS => k H1 locs1 (hw ▸ hP) (hw ▸ hD) hS)
theorem r_cput (C0 : cx p s m args meth c cc nL own Ts ret D K) {C : String} {T : u_T} {N index a : Nat} (ci : Nat) (hin : ∀ w ∈ u_ws C T N, w ∈ Ts) (ty0 : Nat → FieldType) (hty : ∀ k, k < N → parseFieldDescriptor (T k).2.2.1 = some (ty0 k)) (hnm : ∀ a, a < N → ∀ b, b < N → a ≠ b → (T a).2.1 ≠ (T b).2.1) (hP : va_P D vwCl (fl Ws) H) (hD : va_D A (fl Ws)) (hS : va_S A H0 H locs) (Wn : List va_W) {fs : List Value} (he : (fl Ws)[0]? = some (a, .inr (ci, fs))) (hc : vwCl[ci]? = some (C, T, N)) (j : Nat) (hj : j < N) (hlink : Cond.fieldLink own index (T j).1 (T j).2.1 (T j).2.2.1 ∈ Ts) (hfin : (T j).2.2.2 = false) {ty : FieldType} {x : Value} (hd : parseFieldDescriptor (T j).2.2.1 = some ty) (hn : narrow ty x = x) (hfit : fits ty x = true) (hl : j < fs.length) (hw : (fl Ws).set 0 (a, .inr (ci, fs.set j x)) = fl Wn) (hdg : decode cc pc = .ok (.putfield index, 3)) (k : ∀ (H1 : Heap) (locs1 : List Loc), va_P D vwCl (fl Wn) H1 → va_D A (fl Wn) → va_S A H0 H1 locs1 → W p l e R s m args below meth c H1 locs1 cells slots Q (F0 m (pc + 3) ls rest)) : W p l e R s m args below meth c H locs cells slots Q (F0 m pc ls (x :: .ref a :: rest)) :=
  va_put C0.1.1 C0.1.2.1 C0.1.2.2.2.2 hin ty0 hty hnm C0.1.2.2.2.1 C0.2.2.2.1 hP hD hS 0 he hc j hj (C0.1.2.2.2.2 _ hlink) (fun _ h9 => h9) hfin hd hn hfit hl hdg (fun H1 locs1 hP hD hS => k H1 locs1 (hw ▸ hP) (hw ▸ hD) hS)
/-- kept[i] = a line -/
theorem r_aast8 (C0 : cx p s m args meth c cc nL own Ts ret D K) (hP : va_P D vwCl (fl Ws) H) (hD : va_D A (fl Ws)) (hS : va_S A H0 H locs) (q0 qk : Nat) (Wn : List va_W) {a v : Nat} {vs : List Value} {f : Nat → Option Nat} (ha : (fl Ws)[q0]? = some (a, .inl (K 2, 8, .inr (.inr (.inr (.inr f)))))) (hv : (fl Ws)[qk]? = some (v, .inr (1, vs))) (j : Nat) {i : Int32} (hi : ¬ (i < 0 ∨ 8 ≤ i.toNatClampNeg) ∧ i.toNatClampNeg = j) (hw : (fl Ws).set q0 (a, .inl (K 2, 8, .inr (.inr (.inr (.inr (va_up f j (some v))))))) = fl Wn) (hdg : decode cc pc = .ok (.aastore, 1)) (k : ∀ (H1 : Heap) (locs1 : List Loc), va_P D vwCl (fl Wn) H1 → va_D A (fl Wn) → va_S A H0 H1 locs1 → W p l e R s m args below meth c H1 locs1 cells slots Q (F0 m (pc + 1) ls rest)) : W p l e R s m args below meth c H locs cells slots Q (F0 m pc ls (.ref v :: .int i :: .ref a :: rest)) := by
  obtain ⟨hin, rfl⟩ := hi
  exact va_astq (r := (RX1, TX1, 11)) C0.1.1 C0.1.2.1 C0.2.2.2.1 hP hD hS q0 2 qk 1 ha rfl hv rfl hin hdg (fun H1 locs1 hP hD hS => k H1 locs1 (hw ▸ hP) (hw ▸ hD) hS)
/-- a constructor's call: its object is the last piece -/
theorem r_ctor {S : Type} {post : S → Prop} {wf : S → List va_W} {q ci mc ms : Nat} {fs : List Value} {a : Array Value} {st0 : List Value} (hP : va_P D vwCl (fl (Ws ++ [[(q, .inr (ci, fs))]])) H) (hD : va_D A (fl (Ws ++ [[(q, .inr (ci, fs))]]))) (hS : va_S A H0 H locs) (hA : ∀ q, H0.size ≤ q → A q) (Wn : S → List va_W) (hWn : ∀ u, Ws ++ wf u = Wn u)
    (hr : va_P D vwCl (fl [[(q, .inr (ci, fs))]]) H → va_D (fun _ => True) (fl [[(q, .inr (ci, fs))]]) → va_Run p l e R s m args below meth c H locs cells slots mc ms (F0 m pc ls st0) rest (va_Qv post (fun u t => va_P D vwCl (fl (wf u)) t.heap ∧ va_D (va_A (fl [[(q, .inr (ci, fs))]]) H.size) (fl (wf u))) (va_A (fl [[(q, .inr (ci, fs))]]) H.size) a) (va_A (fl [[(q, .inr (ci, fs))]]) H.size))
    (k : ∀ (u : S) (H1 : Heap) (locs1 : List Loc), post u → va_P D vwCl (fl (Wn u)) H1 → va_D A (fl (Wn u)) → va_S A H0 H1 locs1 → W p l e R s m args below meth c H1 locs1 (cells + mc) (slots + ms) Q (F0 m (pc + 3) ls rest)) : W p l e R s m args below meth c H locs cells slots Q (F0 m pc ls st0) := by
  have hs : (fl (Ws ++ [[(q, .inr (ci, fs))]])).Perm (fl [[(q, .inr (ci, fs))]] ++ fl Ws) := by
    unfold fl
    rw [List.flatten_append]
    exact List.perm_append_comm
  have hP' := vaP_perm hs hP
  have hD' := vaD_perm hs hD
  have hPc : va_P D vwCl (fl [[(q, .inr (ci, fs))]]) H := vaP_mem.mpr (fun q hq => vaP_mem.mp hP' q (List.mem_append_left _ hq))
  have hn := (vaD_nd.mp hD').1
  rw [List.map_append, List.nodup_append] at hn
  have hDc : va_D A (fl [[(q, .inr (ci, fs))]]) := vaD_nd.mpr ⟨hn.1, fun q hq => (vaD_nd.mp hD').2 q (List.mem_append_left _ hq)⟩
  have hFc : ∀ z, va_A (fl [[(q, .inr (ci, fs))]]) H.size z → A z := fun z h => by
    rcases h with ⟨k, e, h⟩ | h
    · exact hDc.2 k (z, e) h
    · exact hA z (Nat.le_trans hS.1 h)
  refine va_callv (hr hPc (hDc.weaken (fun _ _ _ _ => trivial))) hS (fun q _ h => hFc q h) hFc (fun u t H1 locs1 ht hvm hw hB hz1 hk1 hS1 => ?_)
  rw [ht] at hB
  obtain ⟨hP2, hD2⟩ := vjoin hP' hD' hk1 hFc hB.1 hB.2
  have e1 : fl Ws ++ fl (wf u) = fl (Wn u) := by
    rw [← hWn u]
    exact (List.flatten_append).symm
  rw [e1] at hP2 hD2
  exact k u H1 locs1 hw hP2 hD2 hS1
end CR
