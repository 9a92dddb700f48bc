/-! worlds by pieces: fl [w1, w2, ..] -/
def fl (l : List va_W) : va_W := l.flatten
theorem vaP_mem {D : va_G} {cl : List vw_C} {ws : va_W} {H : Heap} : va_P D cl ws H ↔ ∀ q ∈ ws, va_at D cl q H :=
  ⟨fun h q hq => by obtain ⟨k, hk⟩ := List.getElem?_of_mem hq; exact h k q hk, fun h k q hk => h q (List.mem_of_getElem? hk)⟩
theorem vaD_nd {A : Nat → Prop} {ws : va_W} : va_D A ws ↔ (ws.map Prod.fst).Nodup ∧ ∀ q ∈ ws, A q.1 := by
  constructor
  · intro h
    refine ⟨?_, fun q hq => ?_⟩
    · unfold List.Nodup
      rw [List.pairwise_iff_getElem]
      intro i j hi hj hij e
      rw [List.length_map] at hi hj
      rw [List.getElem_map, List.getElem_map] at e
      have := h.1 i j ws[i] ws[j] (List.getElem?_eq_getElem hi) (List.getElem?_eq_getElem hj) e
      omega
    · obtain ⟨k, hk⟩ := List.getElem?_of_mem hq
      exact h.2 k q hk
  · intro ⟨h1, h2⟩
    unfold List.Nodup at h1
    rw [List.pairwise_iff_getElem] at h1
    refine ⟨fun i j p q hi hj e => ?_, fun k q hk => h2 q (List.mem_of_getElem? hk)⟩
    obtain ⟨hi1, hi2⟩ := List.getElem?_eq_some_iff.mp hi
    obtain ⟨hj1, hj2⟩ := List.getElem?_eq_some_iff.mp hj
    rcases Nat.lt_trichotomy i j with q1 | q1 | q1
    · exact absurd (by rw [List.getElem_map, List.getElem_map, hi2, hj2]; exact e) (h1 i j (by rw [List.length_map]; exact hi1) (by rw [List.length_map]; exact hj1) q1)
    · exact q1
    · exact absurd (by rw [List.getElem_map, List.getElem_map, hi2, hj2]; exact e.symm) (h1 j i (by rw [List.length_map]; exact hj1) (by rw [List.length_map]; exact hi1) q1)
theorem vaP_perm {D : va_G} {cl : List vw_C} {w1 w2 : va_W} {H : Heap} (h : w1.Perm w2) (hp : va_P D cl w1 H) : va_P D cl w2 H := vaP_mem.mpr (fun q hq => vaP_mem.mp hp q (h.mem_iff.mpr hq))
theorem vaD_perm {A : Nat → Prop} {w1 w2 : va_W} (h : w1.Perm w2) (hd : va_D A w1) : va_D A w2 := vaD_nd.mpr ⟨((h.map Prod.fst).nodup_iff).mp (vaD_nd.mp hd).1, fun q hq => (vaD_nd.mp hd).2 q (h.mem_iff.mpr hq)⟩
theorem sel_all {α : Type} (l : List α) : (List.range l.length).filterMap (fun i => l[i]?) = l := by
  induction l with
  | nil => rfl
  | cons a l ih =>
    rw [List.length_cons, List.range_succ_eq_map, List.filterMap_cons, List.filterMap_map]
    have e : (fun i => (a :: l)[i]?) ∘ Nat.succ = fun i => l[i]? := by funext i; simp
    rw [e, ih]
    rfl
theorem sel_perm {α : Type} {l : List α} {is : List Nat} {n : Nat} (hn : l.length = n) (h : is.Perm (List.range n)) : (is.filterMap (fun i => l[i]?)).Perm l := by
  subst hn
  have := h.filterMap (fun i => l[i]?)
  rw [sel_all] at this
  exact this
theorem vaP_sel {D : va_G} {Ws Wc : List va_W} {H : Heap} (hP : va_P D vwCl (fl Ws) H) (isC : List Nat) (hC : isC.filterMap (fun i => Ws[i]?) = Wc) : va_P D vwCl (fl Wc) H := by
  subst hC
  refine vaP_mem.mpr (fun q hq => vaP_mem.mp hP q ?_)
  obtain ⟨w, hw, hq⟩ := List.mem_flatten.mp hq
  obtain ⟨i, -, hi⟩ := List.mem_filterMap.mp hw
  exact List.mem_flatten.mpr ⟨w, List.mem_of_getElem? hi, hq⟩
theorem vjoin {A0 : Nat → Prop} {D : va_G} {cl : List vw_C} {wc wr w1 : va_W} {H H1 : Heap} (hP : va_P D cl (wc ++ wr) H) (hD : va_D A0 (wc ++ wr)) (hk : ∀ q : Nat, q < H.size → ¬ va_A wc H.size q → H1[q]? = H[q]?) (hF : ∀ q, va_A wc H.size q → A0 q) (hP1 : va_P D cl w1 H1) (hD1 : va_D (va_A wc H.size) w1) : va_P D cl (wr ++ w1) H1 ∧ va_D A0 (wr ++ w1) := by
  have hn := (vaD_nd.mp hD).1
  rw [List.map_append, List.nodup_append] at hn
  have apart : ∀ q ∈ wr, q.1 < H.size ∧ ¬ va_A wc H.size q.1 := by
    intro q hq
    have hl := (vaP_mem.mp hP q (List.mem_append_right _ hq)).lt
    refine ⟨hl, fun h => ?_⟩
    rcases h with ⟨k, e, h⟩ | h
    · exact hn.2.2 q.1 (List.mem_map.mpr ⟨(q.1, e), List.mem_of_getElem? h, rfl⟩) q.1 (List.mem_map.mpr ⟨q, hq, rfl⟩) rfl
    · omega
  refine ⟨vaP_mem.mpr (fun q hq => ?_), vaD_nd.mpr ⟨?_, fun q hq => ?_⟩⟩
  · rcases List.mem_append.mp hq with h | h
    · exact (vaP_mem.mp hP q (List.mem_append_right _ h)).kept (hk q.1 (apart q h).1 (apart q h).2)
    · exact vaP_mem.mp hP1 q h
  · rw [List.map_append, List.nodup_append]
    refine ⟨hn.2.1, (vaD_nd.mp hD1).1, fun a ha b hb e => ?_⟩
    obtain ⟨x, hx, rfl⟩ := List.mem_map.mp ha
    obtain ⟨y, hy, rfl⟩ := List.mem_map.mp hb
    exact (apart x hx).2 (by rw [e]; exact (vaD_nd.mp hD1).2 y hy)
  · rcases List.mem_append.mp hq with h | h
    · exact (vaD_nd.mp hD).2 q (List.mem_append_right _ h)
    · exact hF q.1 ((vaD_nd.mp hD1).2 q h)
section RW3
variable {p : Program} {l : Launch} {e : Env} {R : Room} {s : State} {m : MethodId} {args : Array Value} {below : List Frame} {meth : Method} {c : Code} {H : Heap} {locs : List Loc} {cells slots : Nat} {Q : State → Prop}
variable {D : va_G} {K : Nat → ClassId} {pc : Nat} {ls : Array Slot} {rest : List Value} {A : Nat → Prop} {H0 : Heap}
theorem vsplit {Ws Wc : List va_W} {isC isR : List Nat} {n : Nat} (hC : isC.filterMap (fun i => Ws[i]?) = Wc) (hl : Ws.length = n) (hp : (isC ++ isR).Perm (List.range n)) : (fl Ws).Perm (fl Wc ++ fl (isR.filterMap (fun i => Ws[i]?))) := by
  subst hC
  have h := (sel_perm hl hp).symm.flatten
  rw [List.filterMap_append, List.flatten_append] at h
  exact h
theorem r_callVC {S : Type} {z : S} {wf : S → List va_W} {Ws Wc Wn : List va_W} {a : Array Value} {st0 : List Value} (hP : va_P D vwCl (fl Ws) H) (hD : va_D A (fl Ws)) (hS : va_S A H0 H locs) (hA : ∀ q, H0.size ≤ q → A q) (isC isR isN : List Nat) (n : Nat) (hC : isC.filterMap (fun i => Ws[i]?) = Wc) (hl : Ws.length = n) (hp : (isC ++ isR).Perm (List.range n)) (hN : isN.filterMap (fun i => (isR.filterMap (fun i => Ws[i]?) ++ wf z)[i]?) = Wn) (hlN : (isR.filterMap (fun i => Ws[i]?) ++ wf z).length = n) (hpN : isN.Perm (List.range n))
    (hr : va_P D vwCl (fl Wc) H → va_D (fun _ => True) (fl Wc) → (∀ q, va_A (fl Wc) H.size q → A q) → va_Run p l e R s m args below meth c H locs cells slots 0 0 (F0 m pc ls st0) rest (qcV D z (fun u => fl (wf u)) (va_A (fl Wc) H.size) a) (va_A (fl Wc) H.size))
    (k : ∀ (H1 : Heap) (locs1 : List Loc), va_P D vwCl (fl Wn) H1 → va_D A (fl Wn) → va_S A H0 H1 locs1 → W p l e R s m args below meth c H1 locs1 cells slots Q (F0 m (pc + 3) ls rest)) : W p l e R s m args below meth c H locs cells slots Q (F0 m pc ls st0) := by
  have hs := vsplit hC hl hp
  have hP' := vaP_perm hs hP
  have hD' := vaD_perm hs hD
  have hPc : va_P D vwCl (fl Wc) H := vaP_mem.mpr (fun q hq => vaP_mem.mp hP' q (List.mem_append_left _ hq))
  have hn := (vaD_nd.mp hD').1
  rw [List.map_append, List.nodup_append] at hn
  have hDc : va_D A (fl Wc) := vaD_nd.mpr ⟨hn.1, fun q hq => (vaD_nd.mp hD').2 q (List.mem_append_left _ hq)⟩
  have hFc : ∀ q, va_A (fl Wc) H.size q → A q := fun q h => by
    rcases h with ⟨k, e, h⟩ | h
    · exact hDc.2 k (q, e) h
    · exact hA q (Nat.le_trans hS.1 h)
  refine va_callv (hr hPc (hDc.weaken (fun _ _ _ _ => trivial)) hFc) hS (fun q _ h => hFc q h) hFc (fun u t H1 locs1 ht hvm hw hB hz1 hk1 hS1 => ?_)
  subst hw
  rw [ht] at hB
  obtain ⟨hP2, hD2⟩ := vjoin hP' hD' hk1 hFc hB.1 hB.2
  have hq := (sel_perm hlN hpN).symm.flatten
  rw [hN, List.flatten_append] at hq
  exact k H1 locs1 (vaP_perm hq hP2) (vaD_perm hq hD2) hS1
theorem r_callIC {S : Type} {z : Int32 × S} {wf : S → List va_W} {Ws Wc Wn : List va_W} {a : Array Value} {st0 : List Value} (hP : va_P D vwCl (fl Ws) H) (hD : va_D A (fl Ws)) (hS : va_S A H0 H locs) (hA : ∀ q, H0.size ≤ q → A q) (isC isR isN : List Nat) (n : Nat) (hC : isC.filterMap (fun i => Ws[i]?) = Wc) (hl : Ws.length = n) (hp : (isC ++ isR).Perm (List.range n)) (hN : isN.filterMap (fun i => (isR.filterMap (fun i => Ws[i]?) ++ wf z.2)[i]?) = Wn) (hlN : (isR.filterMap (fun i => Ws[i]?) ++ wf z.2).length = n) (hpN : isN.Perm (List.range n))
    (hr : va_P D vwCl (fl Wc) H → va_D (fun _ => True) (fl Wc) → (∀ q, va_A (fl Wc) H.size q → A q) → va_Run p l e R s m args below meth c H locs cells slots 0 0 (F0 m pc ls st0) rest (qcI D z (fun u => fl (wf u)) (va_A (fl Wc) H.size) a) (va_A (fl Wc) H.size))
    (k : ∀ (H1 : Heap) (locs1 : List Loc), va_P D vwCl (fl Wn) H1 → va_D A (fl Wn) → va_S A H0 H1 locs1 → W p l e R s m args below meth c H1 locs1 cells slots Q (F0 m (pc + 3) ls (.int z.1 :: rest))) : W p l e R s m args below meth c H locs cells slots Q (F0 m pc ls st0) := by
  have hs := vsplit hC hl hp
  have hP' := vaP_perm hs hP
  have hD' := vaD_perm hs hD
  have hPc : va_P D vwCl (fl Wc) H := vaP_mem.mpr (fun q hq => vaP_mem.mp hP' q (List.mem_append_left _ hq))
  have hn := (vaD_nd.mp hD').1
  rw [List.map_append, List.nodup_append] at hn
  have hDc : va_D A (fl Wc) := vaD_nd.mpr ⟨hn.1, fun q hq => (vaD_nd.mp hD').2 q (List.mem_append_left _ hq)⟩
  have hFc : ∀ q, va_A (fl Wc) H.size q → A q := fun q h => by
    rcases h with ⟨k, e, h⟩ | h
    · exact hDc.2 k (q, e) h
    · exact hA q (Nat.le_trans hS.1 h)
  refine va_calli (hr hPc (hDc.weaken (fun _ _ _ _ => trivial)) hFc) hS (fun q _ h => hFc q h) hFc (fun r u t H1 locs1 ht hvm hw hB hz1 hk1 hS1 => ?_)
  subst hw
  rw [ht] at hB
  obtain ⟨hP2, hD2⟩ := vjoin hP' hD' hk1 hFc hB.1 hB.2
  have hq := (sel_perm hlN hpN).symm.flatten
  rw [hN, List.flatten_append] at hq
  exact k H1 locs1 (vaP_perm hq hP2) (vaD_perm hq hD2) hS1
end RW3
