def tmS (i : Nat) : Term := .string RX4 ([64, 73, 78, 83].getD i 0)
/-- what the Statement gives of the start, in the words of the contracts -/
theorem start_facts {s : State} {b : Nat} (hts : ∀ w ∈ lw_tbl, w.before #[Value.ref b] s = true) (hgv : (Jvm.Cond.and given_1 narrow_1).before #[Value.ref b] s = true) : ∃ (D : va_G) (K : Nat → ClassId) (adK adV adN : Nat → Nat), gK D K s ∧ SK adK adV (fun q : Nat => s.heap.size ≤ q) s s.heap ∧ thK adN (fun q : Nat => s.heap.size ≤ q) s s.heap := by
  have hs := flat_of_before _ hgv
  have hA : ∀ a : Nat, a < s.heap.size → ¬ (fun q : Nat => s.heap.size ≤ q) a := fun a h => Nat.not_le.mpr h
  obtain ⟨c0, iS0, hKn0⟩ := u_known (C := RX0) (T := TX0) (N := 3) (n := 3) hts ly0 (hts (.instantiable RX0 3) (wsL_law_in0 _ wd2_13))
  obtain ⟨c1, iS1, hKn1⟩ := u_known (C := RX1) (T := TX1) (N := 11) (n := 11) hts ly1 (hts (.instantiable RX1 11) (wsL_law_in0 _ wd1_22))
  obtain ⟨c2, iS2, hKn2⟩ := u_known (C := RX2) (T := TX2) (N := 8) (n := 8) hts ly2 (hts (.instantiable RX2 8) (wsL_law_in0 _ wd2_9))
  obtain ⟨c3, iS3, hKn3⟩ := u_known (C := RX3) (T := TX3) (N := 10) (n := 10) hts ly3 (hts (.instantiable RX3 10) (wsL_law_in0 _ wd1_19))
  obtain ⟨c4, iS4, hKn4⟩ := u_known (C := RX4) (T := TX4) (N := 8) (n := 8) hts ly4 (hts (.instantiable RX4 8) (wsL_law_in0 _ wd2_3))
  obtain ⟨c5, iS5, hKn5⟩ := u_known (C := RX5) (T := TX5) (N := 11) (n := 11) hts ly5 (hts (.instantiable RX5 11) (wsL_law_in0 _ wd1_1))
  obtain ⟨c6, iS6, hKn6⟩ := u_known (C := RX6) (T := TX6) (N := 22) (n := 22) hts ly6 (hts (.instantiable RX6 22) (wsL_law_in0 _ wd1_4))
  obtain ⟨dC, dI, hKc⟩ : ∃ (dC : Nat → ClassId) (dI : Nat → Nat → Nat), ∀ (k : Nat) (q : vw_C), vwCl[k]? = some q → u_Kn s q.1 q.2.1 q.2.2 (dC k) (dI k) := by
    refine ⟨fun k => if k = 0 then c0 else if k = 1 then c1 else if k = 2 then c2 else if k = 3 then c3 else if k = 4 then c4 else if k = 5 then c5 else c6, fun k => if k = 0 then iS0 else if k = 1 then iS1 else if k = 2 then iS2 else if k = 3 then iS3 else if k = 4 then iS4 else if k = 5 then iS5 else iS6, ?_⟩
    intro k q hq
    match k, hq with
    | 0, hq => cases hq; exact hKn0
    | 1, hq => cases hq; exact hKn1
    | 2, hq => cases hq; exact hKn2
    | 3, hq => cases hq; exact hKn3
    | 4, hq => cases hq; exact hKn4
    | 5, hq => cases hq; exact hKn5
    | 6, hq => cases hq; exact hKn6
    | k + 7, hq => simp [vwCl] at hq
  obtain ⟨k1, kk1, comp1, e1, e2, e3⟩ := Cond.arrayClass_spec (hts (Cond.arrayClass .int) (wsL_law_in0 _ wd1_14))
  obtain ⟨k2, kk2, comp2, f1, f2, f3⟩ := Cond.arrayClass_spec (hts (Cond.arrayClass .long) (wsL_law_in0 _ wd1_6))
  have hao : (Cond.arrayOver (.object "CardLoops$Line")).before #[Value.ref b] s = true := hts _ (pT1 (List.mem_of_getElem? (i := 211) (by decide +kernel)))
  obtain ⟨comp3, k3, kk3, g1, g2, g3, g4, g5⟩ := Cond.arrayOver_spec hao
  have hK : gK (dC, dI) (fun k => if k = 0 then k1 else if k = 1 then k2 else k3) s := by
    refine ⟨⟨hKc, fun k q hq => ?_⟩, va_Nw.of rfl (hts _ (pT3 (List.mem_of_getElem? (i := 69) (by decide +kernel)))), va_Nw.of rfl (hts _ (pT1 (List.mem_of_getElem? (i := 29) (by decide +kernel)))), va_Nw.of rfl (hts _ (pT1 (List.mem_of_getElem? (i := 142) (by decide +kernel)))), va_AO.of hao⟩
    match k, hq with
    | 0, hq => cases hq; exact ⟨fun n z => ⟨fun k h => (by cases h), kk1, e2, comp1, e3⟩, e1⟩
    | 1, hq => cases hq; exact ⟨fun n z => ⟨fun k h => (by cases h), kk2, f2, comp2, f3⟩, f1⟩
    | 2, hq => cases hq; exact ⟨fun n z => ⟨fun k h => (by cases h), kk3, g3, comp3, g4⟩, kk3, comp3, g3, g4, g1, g5⟩
    | k + 3, hq => simp [tys0] at hq
  obtain ⟨adK, adV, hk, had⟩ := vk_Sof (args := #[Value.ref b]) (s := s) (N := 4) (tm := tmS) (len := lenS) (byt := bytS) (A := fun q : Nat => s.heap.size ≤ q) (fun i hi => lenS_lt hi)
    (fun i hi => by rcases (show i = 0 ∨ i = 1 ∨ i = 2 ∨ i = 3 by omega) with rfl | rfl | rfl | rfl <;> exact hs _ (by decide +kernel))
    (fun i hi => by rcases (show i = 0 ∨ i = 1 ∨ i = 2 ∨ i = 3 by omega) with rfl | rfl | rfl | rfl <;> exact hs _ (by decide +kernel))
    (fun i hi => by rcases (show i = 0 ∨ i = 1 ∨ i = 2 ∨ i = 3 by omega) with rfl | rfl | rfl | rfl <;> exact hs _ (by decide +kernel))
    (fun i hi => by rcases (show i = 0 ∨ i = 1 ∨ i = 2 ∨ i = 3 by omega) with rfl | rfl | rfl | rfl <;> exact hs _ (by decide +kernel))
    (fun i hi j hj => by
      rcases (show i = 0 ∨ i = 1 ∨ i = 2 ∨ i = 3 by omega) with rfl | rfl | rfl | rfl
      · rcases (show j = 0 ∨ j = 1 ∨ j = 2 ∨ j = 3 ∨ j = 4 by have h9 : j < 5 := hj; omega) with rfl | rfl | rfl | rfl | rfl <;> exact hs _ (by decide +kernel)
      · rcases (show j = 0 ∨ j = 1 ∨ j = 2 ∨ j = 3 ∨ j = 4 ∨ j = 5 ∨ j = 6 by have h9 : j < 7 := hj; omega) with rfl | rfl | rfl | rfl | rfl | rfl | rfl <;> exact hs _ (by decide +kernel)
      · rcases (show j = 0 ∨ j = 1 ∨ j = 2 ∨ j = 3 by have h9 : j < 4 := hj; omega) with rfl | rfl | rfl | rfl <;> exact hs _ (by decide +kernel)
      · rcases (show j = 0 ∨ j = 1 ∨ j = 2 by have h9 : j < 3 := hj; omega) with rfl | rfl | rfl <;> exact hs _ (by decide +kernel))
    (fun i j hi hj hij => by
      rcases (show i = 0 ∨ i = 1 ∨ i = 2 ∨ i = 3 by omega) with rfl | rfl | rfl | rfl <;> rcases (show j = 0 ∨ j = 1 ∨ j = 2 ∨ j = 3 by omega) with rfl | rfl | rfl | rfl <;> first | exact absurd rfl hij | exact Or.inl (hs _ (by decide +kernel)) | exact Or.inr (hs _ (by decide +kernel))) hA
  have hR : ∀ (i k : Nat) (tx : String), i < 4 → tmS i = .string RX4 k → (Cond.stringRef RX4 k tx).before #[Value.ref b] s = true → vk_R RX4 k tx (adK i) s := fun i k tx hi e h => vk_R.of h (by rw [← e]; exact had i hi)
  have hZc : ZcS (fun q : Nat => s.heap.size ≤ q) s s.heap := va_Zof (hts _ (pT2 (List.mem_of_getElem? (i := 74) (by decide +kernel)))) (hts _ (wsL_law_in0 _ wd8_17)) (va_eqi (hs _ (by decide +kernel))) hA
  have hZf : ZqF (fun q : Nat => s.heap.size ≤ q) s s.heap := va_Zqof (hts _ (pT2 (List.mem_of_getElem? (i := 90) (by decide +kernel)))) (hts _ (wsL_law_in0 _ wd9_20)) (hs _ (by decide +kernel)) hA
  have hE : SK adK adV (fun q : Nat => s.heap.size ≤ q) s s.heap := ⟨hk, hZc, hZf, hR 0 64 "works" (by decide) rfl (hts _ (pT2 (List.mem_of_getElem? (i := 60) (by decide +kernel)))), hR 1 73 "station" (by decide) rfl (hts _ (pT2 (List.mem_of_getElem? (i := 133) (by decide +kernel)))), hR 2 78 "loop" (by decide) rfl (hts _ (pT2 (List.mem_of_getElem? (i := 142) (by decide +kernel)))), hR 3 83 "run" (by decide) rfl (hts _ (pT2 (List.mem_of_getElem? (i := 147) (by decide +kernel))))⟩
  have ex : ∀ k : Nat, (Cond.exactly (.string RX5 k) "java/lang/String").before #[Value.ref b] s = true → ∃ a : Nat, (Term.string RX5 k).eval #[Value.ref b] s none [] s = some (.ref a) := fun k h => by
    obtain ⟨a, c, cA, kA, q1, -⟩ := Cond.exactly_spec (args := #[Value.ref b]) (first := s) (o := none) (s := s) (idx := []) (t := .string RX5 k) (cls := "java/lang/String") h
    exact ⟨a, q1⟩
  obtain ⟨n1, hn1⟩ := ex 130 (hs _ (by decide +kernel))
  obtain ⟨n2, hn2⟩ := ex 160 (hs _ (by decide +kernel))
  have hT : thK (fun k => if k = 0 then n1 else n2) (fun q : Nat => s.heap.size ≤ q) s s.heap := ⟨vk_R.of (hts _ (pT3 (List.mem_of_getElem? (i := 219) (by decide +kernel)))) hn1, vk_R.of (hts _ (pT4 (List.mem_of_getElem? (i := 11) (by decide +kernel)))) hn2,
    vx_Zqof (hts _ (pT3 (List.mem_of_getElem? (i := 207) (by decide +kernel)))) (hts _ (pT1 (List.mem_of_getElem? (i := 15) (by decide +kernel)))) (hs _ (by decide +kernel)) hA, vx_Zqof (hts _ (pT3 (List.mem_of_getElem? (i := 209) (by decide +kernel)))) (hts _ (pT1 (List.mem_of_getElem? (i := 15) (by decide +kernel)))) (hs _ (by decide +kernel)) hA,
    va_Nw.of rfl (hts _ (pT3 (List.mem_of_getElem? (i := 182) (by decide +kernel)))), va_Nw.of rfl (hts _ (pT3 (List.mem_of_getElem? (i := 184) (by decide +kernel)))), va_Nw.of rfl (hts _ (pT3 (List.mem_of_getElem? (i := 186) (by decide +kernel)))), va_Nw.of rfl (hts _ (pT3 (List.mem_of_getElem? (i := 188) (by decide +kernel))))⟩
  exact ⟨_, _, _, _, _, hK, hE, hT⟩
