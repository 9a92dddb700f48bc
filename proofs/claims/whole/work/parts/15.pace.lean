/-! entering a look -/
theorem ent_hash {F : Rc} {FL : RcL} {n b q : Nat} (h1 : FL 1 n = lN b) (h2 : F 2 n = nI q) : (((FL 1 n * (-7046029254386353131 : Int64) + (F 2 n).toInt64 * (-4417276706812531889 : Int64)).toUInt64 >>> ((nI 40).toInt64.toUInt64 &&& Int64.toUInt64 63)).toInt64).toInt32 &&& nI 1023 = nI (hsh (lN b) (nI q)) := by
  rw [h1, h2]
  unfold hsh
  exact pk_and _ 10 (by decide)
theorem ent_111 {F : Rc} {FL : RcL} {n v N : Nat} (hn : n < 1500) (hl : v < 1024) : fX2_enter_111 N F FL (nI n) (nI v) = some (-1, va_up (va_up F 5 (upd (F 5) n (F 4 v))) 4 (upd (F 4) v (nI n))) := by
  unfold fX2_enter_111
  simp (disch := omega) only [↓nm_s, ↓bnd_s, ↓reduceIte, nI_add, pk_mul, nI_subdiv, nI_sub', nI_m1, nI_0m1, nI_clamp, gdi_nI, gdz_nI, nI_div, nrem, nI_ltI, nI_leI, nI_eq, leT, leF, ltT, ltF, eqT, eqF, neT, neF, z0, m1lt0, m1lt, m1le, nI_ne_neg, neg_ne_nI, embP_a, embL_a, embL_up, embL_up1, up2_ne, up2_at, up2_o, up1_ne, up1_at, bI_eq0, bI_eq1, or_true, true_or, and_true, true_and, or_false, false_or, and_false, false_and, not_true_eq_false, not_false_eq_true, if_true, if_false,  decide_true, decide_false, bI_t, bI_f, Nat.add_sub_cancel, Nat.zero_add, Nat.add_zero, Nat.mul_zero, upd_eq, upd_ne]
  rw [va_up_ne F _ (show (4 : Nat) ≠ 5 from by omega)]
theorem ent_run {F : Rc} {FL : RcL} {n v N : Nat} (hn : n < 1500) (hl : v < 1024) (e : (((FL 1 n * (-7046029254386353131 : Int64) + (F 2 n).toInt64 * (-4417276706812531889 : Int64)).toUInt64 >>> ((nI 40).toInt64.toUInt64 &&& Int64.toUInt64 63)).toInt64).toInt32 &&& nI 1023 = nI v) : fX2_enter N F FL (nI n) = fX2_enter_46 N F FL (nI n) (nI v) (F 4 v) (nI 0) := by
  unfold fX2_enter
  rw [gdi_nI hn (by omega), gdi_nI hn (by omega), nI_clamp (by omega), nm_s, nm_s, e, gdi_nI hl (by omega), nm_s, nm_s, nI_clamp (by omega)]
theorem s_enter {p x : Nx} {C : Nat → Nat} {f : Nat} (hp : PI p) (h : Stt p C f x) {n N : Nat} (hn : n < 1500) (hN : 1600 < N) {F : Rc} {FL : RcL} (hF : ∀ j, j ≤ n → FL 1 j = lN (bz p (pre p x (j + 1))) ∧ F 2 j = nI (qz p (pre p x (j + 1)))) (hc : ∀ h, h < 1024 → ChOk p x F h n (F 4 h)) : (∀ k, lastEq p x n n = some k → fX2_enter N F FL (nI n) = some (nI k, F)) ∧ (lastEq p x n n = none → fX2_enter N F FL (nI n) = some (-1, va_up (va_up F 5 (upd (F 5) n (F 4 (hs p x n)))) 4 (upd (F 4) (hs p x n) (nI n)))) := by
  have b := hF n (by omega)
  have hl : hs p x n < 1024 := by
    unfold hs hsh
    exact Nat.mod_lt _ (by omega)
  have e := ent_hash b.1 b.2
  rw [show hsh (lN (bz p (pre p x (n + 1)))) (nI (qz p (pre p x (n + 1)))) = hs p x n from rfl] at e
  have i := s_ent46 hp h hn hF (N := N) (m := n) (i := 0) (u := N) (c := F 4 (hs p x n)) (by omega) (by omega) (by omega) (hc _ hl)
  rw [ent_111 hn hl] at i
  rw [ent_run hn hl e]
  unfold fX2_enter_46
  refine ⟨fun k hk => ?_, fun hk => ?_⟩
  · rw [hk] at i
    exact i
  · rw [hk] at i
    exact i
theorem s_srch29 {p x : Nx} {C : Nat → Nat} {f : Nat} (hp : PI p) (h : Stt p C f x) {N : Nat} (hN : 1600 < N) (D : Nat → Int32) : ∀ {d n u : Nat} {F : Rc} {FL : RcL}, d < u → n + d = 1500 → FI p x n F FL → F 6 0 = -1 → F 7 0 = -1 → ∃ y G GL, itn (fX2_search_29b N) (fun _ _ _ _ _ _ => none) u (embP p) (embL (pre p x n)) F FL D (nI n) = some (embL y, G, GL) ∧ G 6 0 = pcP p x (paceAt p x d n) ∧ G 7 0 = pcM p x (paceAt p x d n)
  | _, _, 0, _, _, h, _, _, _, _ => by omega
  | 0, n, u + 1, F, FL, _, e, _, h6, h7 => by
    refine ⟨pre p x n, F, FL, ?_, h6, h7⟩
    rw [itn_s]
    unfold fX2_search_29b
    simp (disch := omega) only [↓nm_s, ↓bnd_s, ↓reduceIte, nI_add, pk_mul, nI_subdiv, nI_sub', nI_m1, nI_0m1, nI_clamp, gdi_nI, gdz_nI, nI_div, nrem, nI_ltI, nI_leI, nI_eq, leT, leF, ltT, ltF, eqT, eqF, neT, neF, z0, m1lt0, m1lt, m1le, nI_ne_neg, neg_ne_nI, embP_a, embL_a, embL_up, embL_up1, up2_ne, up2_at, up2_o, up1_ne, up1_at, bI_eq0, bI_eq1, or_true, true_or, and_true, true_and, or_false, false_or, and_false, false_and, not_true_eq_false, not_false_eq_true, if_true, if_false,  decide_true, decide_false, bI_t, bI_f, Nat.add_sub_cancel, Nat.zero_add, Nat.add_zero, Nat.mul_zero, upd_eq, upd_ne]
  | d + 1, n, u + 1, F, FL, hu, e, hFI, h6, h7 => by
    have pn := pre_ok hp h (n := n) (by omega)
    have pn1 := pre_ok hp h (n := n + 1) (by omega)
    have lp := s_leap (N := N) hp (by omega) pn.1 (by omega)
    have lo := s_look (F := F) (FL := FL) (n := n) (N := N) hp (by omega) pn1.1.1 (by omega) (by omega)
    rw [show sLeap p (pre p x n) = pre p x (n + 1) from rfl] at lp
    obtain ⟨hF, hC⟩ := hFI
    generalize hG : va_up (va_up F 2 (upd (F 2) n (nI (qz p (pre p x (n + 1)))))) 3 (upd (F 3) n (nI (pre p x (n + 1) 8 0))) = G at lo
    generalize hGL : va_up FL 1 (vp_updL (FL 1) n (lN (bz p (pre p x (n + 1))))) = GL at lo
    have g1 : ∀ j, j ≤ n → GL 1 j = lN (bz p (pre p x (j + 1))) ∧ G 2 j = nI (qz p (pre p x (j + 1))) := by
      intro j hj
      rw [← hG, ← hGL, va_up_self, va_up_ne _ _ (by omega), va_up_self]
      by_cases c : j = n
      · subst c
        rw [pk_uLs, pk_us]
        exact ⟨rfl, rfl⟩
      · rw [pk_uLn c, pk_un c]
        exact ⟨(hF j (by omega)).1, (hF j (by omega)).2.1⟩
    have g3 : ∀ j, j ≤ n → G 3 j = nI (pre p x (j + 1) 8 0) := by
      intro j hj
      rw [← hG, va_up_self]
      by_cases c : j = n
      · subst c
        rw [pk_us]
      · rw [pk_un c]
        exact (hF j (by omega)).2.2
    have g4 : G 4 = F 4 := by rw [← hG, va_up_ne _ _ (by omega), va_up_ne _ _ (by omega)]
    have g5 : G 5 = F 5 := by rw [← hG, va_up_ne _ _ (by omega), va_up_ne _ _ (by omega)]
    have g6 : G 6 = F 6 := by rw [← hG, va_up_ne _ _ (by omega), va_up_ne _ _ (by omega)]
    have g7 : G 7 = F 7 := by rw [← hG, va_up_ne _ _ (by omega), va_up_ne _ _ (by omega)]
    have en := s_enter hp h (n := n) (N := N) (by omega) hN (F := G) (FL := GL) g1 (fun hh hhl => by rw [g4]; exact ChOk_mv (fun j _ => by rw [g5]) (hC hh hhl))
    unfold paceAt
    rw [itn_s]
    cases le : lastEq p x n n with
    | none =>
      have en := en.2 le
      simp only
      generalize hH : va_up (va_up G 5 (upd (G 5) n (G 4 (hs p x n)))) 4 (upd (G 4) (hs p x n) (nI n)) = H at en
      have hFI' : FI p x (n + 1) H GL := by
        refine ⟨fun j hj => ?_, fun hh hhl => ?_⟩
        · have a := g1 j (by omega)
          have b := g3 j (by omega)
          rw [← hH, va_up_ne _ _ (by omega), va_up_ne _ _ (by omega), va_up_ne _ _ (by omega), va_up_ne _ _ (by omega)]
          exact ⟨a.1, a.2, b⟩
        · have old : ChOk p x H hh n (F 4 hh) := ChOk_mv (fun j hj => by rw [← hH, va_up_ne _ _ (by omega), va_up_self, pk_un (by omega), g5]) (hC hh hhl)
          have h5 : H 5 n = F 4 (hs p x n) := by rw [← hH, va_up_ne _ _ (by omega), va_up_self, pk_us, g4]
          unfold ChOk
          by_cases c : hs p x n = hh
          · have h4 : H 4 hh = nI n := by rw [← hH, va_up_self, c, pk_us]
            rw [if_pos c, h4]
            refine ⟨rfl, ?_⟩
            rw [h5, c]
            exact old
          · have h4 : H 4 hh = F 4 hh := by rw [← hH, va_up_self, pk_un (fun z => c z.symm), g4]
            rw [if_neg c, h4]
            exact old
      obtain ⟨y, A, AL, a1, a2, a3⟩ := s_srch29 hp h hN D (d := d) (n := n + 1) (u := u) (F := H) (FL := GL) (by omega) (by omega) hFI' (by rw [← hH, va_up_ne _ _ (by omega), va_up_ne _ _ (by omega), g6]; exact h6) (by rw [← hH, va_up_ne _ _ (by omega), va_up_ne _ _ (by omega), g7]; exact h7)
      refine ⟨y, A, AL, ?_, a2, a3⟩
      generalize itn (fX2_search_29b N) (fun _ _ _ _ _ _ => none) u = K at a1 ⊢
      unfold fX2_search_29b
      simp (disch := omega) only [↓nm_s, ↓bnd_s, ↓reduceIte, nI_add, pk_mul, nI_subdiv, nI_sub', nI_m1, nI_0m1, nI_clamp, gdi_nI, gdz_nI, nI_div, nrem, nI_ltI, nI_leI, nI_eq, leT, leF, ltT, ltF, eqT, eqF, neT, neF, z0, m1lt0, m1lt, m1le, nI_ne_neg, neg_ne_nI, embP_a, embL_a, embL_up, embL_up1, up2_ne, up2_at, up2_o, up1_ne, up1_at, bI_eq0, bI_eq1, or_true, true_or, and_true, true_and, or_false, false_or, and_false, false_and, not_true_eq_false, not_false_eq_true, if_true, if_false,  decide_true, decide_false, bI_t, bI_f, Nat.add_sub_cancel, Nat.zero_add, Nat.add_zero, Nat.mul_zero, upd_eq, upd_ne, lp, lo, en, a1]
    | some k =>
      have en := en.1 k le
      simp only
      have hk := lastEq_lt le
      have tt := pre_time hp h (d := n - k) (m := k + 1) (by omega)
      rw [show k + 1 + (n - k) = n + 1 from by omega] at tt
      have gp : 0 < pcD p x k n := Nat.gcd_pos_of_pos_left _ (by omega)
      have gl : pcD p x k n ≤ n - k := Nat.le_of_dvd (by omega) (Nat.gcd_dvd_left _ _)
      have cd := s_gcd (a := n - k) (b := pre p x (n + 1) 8 0 - pre p x (k + 1) 8 0) (N := N) (by omega) (by omega) (by omega)
      rw [show Nat.gcd (n - k) (pre p x (n + 1) 8 0 - pre p x (k + 1) 8 0) = pcD p x k n from rfl, Nat.max_eq_left (by omega)] at cd
      have t1 := g3 n (by omega)
      have t2 := g3 k (by omega)
      refine ⟨pre p x (n + 1), va_up (va_up G 6 (fun _ => nI ((n - k) / pcD p x k n))) 7 (fun _ => nI ((pre p x (n + 1) 8 0 - pre p x (k + 1) 8 0) / pcD p x k n)), GL, ?_, ?_, ?_⟩
      · generalize itn (fX2_search_29b N) (fun _ _ _ _ _ _ => none) u = K
        unfold fX2_search_29b
        simp (disch := omega) only [↓nm_s, ↓bnd_s, ↓reduceIte, nI_add, pk_mul, nI_subdiv, nI_sub', nI_m1, nI_0m1, nI_clamp, gdi_nI, gdz_nI, nI_div, nrem, nI_ltI, nI_leI, nI_eq, leT, leF, ltT, ltF, eqT, eqF, neT, neF, z0, m1lt0, m1lt, m1le, nI_ne_neg, neg_ne_nI, embP_a, embL_a, embL_up, embL_up1, up2_ne, up2_at, up2_o, up1_ne, up1_at, bI_eq0, bI_eq1, or_true, true_or, and_true, true_and, or_false, false_or, and_false, false_and, not_true_eq_false, not_false_eq_true, if_true, if_false,  decide_true, decide_false, bI_t, bI_f, Nat.add_sub_cancel, Nat.zero_add, Nat.add_zero, Nat.mul_zero, upd_eq, upd_ne, lp, lo, en, t1, t2, cd, va_up_ne]
      · rw [va_up_ne _ _ (by omega), va_up_self]; rfl
      · rw [va_up_self]; rfl
theorem s_search {p x : Nx} {C : Nat → Nat} {f N : Nat} (hp : PI p) (hN : 1600 < N) (hf : 1 ≤ f ∧ f ≤ 5) (hC : ∀ l, l < p 7 0 → 1 ≤ C l ∧ C l ≤ 20) {D : Nat → Int32} (hD : ∀ l, l < 5 → D l = nI (C l)) (F : Rc) (FL : RcL) : ∃ y G GL, fX2_search N (embP p) (embL x) F FL D (nI f) = some (embL y, G, GL) ∧ G 6 0 = pcP p (sRound p (sClr x C f)) (paceAt p (sRound p (sClr x C f)) 1500 0) ∧ G 7 0 = pcM p (sRound p (sClr x C f)) (paceAt p (sRound p (sClr x C f)) 1500 0) := by
  have nw := s_new (x := x) hp (N := N) (by omega) hf hC hD
  have st := Stt_new (x := x) hp hf hC
  generalize sRound p (sClr x C f) = x0 at nw st ⊢
  generalize hH : va_up (va_up (va_up F 6 (fun _ => -1)) 7 (fun _ => -1)) 4 (fun j => if j < 1024 then -1 else (va_up (va_up F 6 (fun _ => -1)) 7 (fun _ => -1)) 4 j) = H
  have hFI : FI p x0 0 H FL := by
    refine ⟨fun j hj => by omega, fun hh hhl => ?_⟩
    rw [← hH, va_up_self, if_pos hhl]
    exact ChOk_0
  obtain ⟨y, A, AL, a1, a2, a3⟩ := s_srch29 hp st hN D (d := 1500) (n := 0) (u := N) (F := H) (FL := FL) (by omega) (by omega) hFI (by rw [← hH, va_up_ne _ _ (by omega), va_up_ne _ _ (by omega), va_up_self]) (by rw [← hH, va_up_ne _ _ (by omega), va_up_self])
  refine ⟨y, A, AL, ?_, a2, a3⟩
  unfold fX2_search
  simp only [nm_s, bnd_s, s_fill (show (1024 : Nat) < 2 ^ 31 from by omega) (show 1024 < N from by omega), nw, hH]
  unfold fX2_search_29
  exact a1
