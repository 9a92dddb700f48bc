/-! the draft's new entries -/
theorem DR_st {q g : Nx} {S : Nat → Int32} {v w : Nat} (h : DR q g S) (h6 : q 6 0 < 6) (hv : 1 ≤ v ∧ v ≤ 60) (hw : w ≤ 60) : DR (addSt q v w) g (upd (upd (upd S (2 + q 6 0) (nI v)) (8 + q 6 0) (nI w)) 1 (nI (q 6 0 + 1))) := by
  obtain ⟨ha, hb, hc, hd⟩ := h
  have e6 : addSt q v w 6 0 = q 6 0 + 1 := by unfold addSt; rw [up1_at]
  have e7 : addSt q v w 7 0 = q 7 0 := by unfold addSt; rw [up1_ne (by omega), up2_ne (by omega), up2_ne (by omega), up2_ne (by omega)]
  have e8 : addSt q v w 8 0 = q 8 0 := by unfold addSt; rw [up1_ne (by omega), up2_ne (by omega), up2_ne (by omega), up2_ne (by omega)]
  have e9 : addSt q v w 9 0 = q 9 0 := by unfold addSt; rw [up1_ne (by omega), up2_ne (by omega), up2_ne (by omega), up2_ne (by omega)]
  have e2 : ∀ i, addSt q v w 2 i = q 2 i := by intro i; unfold addSt; rw [up1_ne (by omega), up2_ne (by omega), up2_ne (by omega), up2_ne (by omega)]
  have e4 : ∀ i, addSt q v w 4 i = q 4 i := by intro i; unfold addSt; rw [up1_ne (by omega), up2_ne (by omega), up2_ne (by omega), up2_ne (by omega)]
  have e5 : ∀ i, addSt q v w 5 i = q 5 i := by intro i; unfold addSt; rw [up1_ne (by omega), up2_ne (by omega), up2_ne (by omega), up2_ne (by omega)]
  have e3 : ∀ i, addSt q v w 3 i = if i = 0 then q 6 0 else q 3 i := by intro i; unfold addSt; rw [up1_ne (by omega), up2_if, up2_ne (by omega), up2_ne (by omega)]
  have e0 : ∀ i, addSt q v w 0 i = if i = q 6 0 then v else q 0 i := by intro i; unfold addSt; rw [up1_ne (by omega), up2_ne (by omega), up2_ne (by omega), up2_if]
  have e1 : ∀ i, addSt q v w 1 i = if i = q 6 0 then w else q 1 i := by intro i; unfold addSt; rw [up1_ne (by omega), up2_ne (by omega), up2_if, up2_ne (by omega)]
  refine ⟨⟨?_, ?_, ?_, ?_, ?_⟩, ⟨by omega, fun k hk => ?_⟩, ⟨by rw [e7]; exact hc.1, by rw [e2]; exact hc.2.1, fun _ => ?_, ?_, fun l h1 h2 => ?_⟩, ⟨?_, fun r hr => ?_, fun i => by rw [e5]; exact hd.2.2 i⟩⟩
  · simp (disch := omega) only [upd_ne]; exact ha.1
  · rw [upd_eq rfl, e6]
  · simp (disch := omega) only [upd_ne]; rw [e7]; exact ha.2.2.1
  · simp (disch := omega) only [upd_ne]; rw [e8]; exact ha.2.2.2.1
  · simp (disch := omega) only [upd_ne]; exact ha.2.2.2.2
  · rw [e6] at hk
    rw [e0, e1]
    by_cases c : k = q 6 0
    · subst c
      rw [if_pos rfl, if_pos rfl]
      simp (disch := omega) only [upd_ne, upd_eq]
      exact ⟨trivial, trivial, hv.1, hv.2, hw⟩
    · have b := hb.2 k (by omega)
      rw [if_neg c, if_neg c]
      simp (disch := omega) only [upd_ne]
      exact b
  · rw [e3, if_pos rfl, e6]
  · simp (disch := omega) only [upd_ne]; rw [e4]; exact hc.2.2.2.1
  · rw [e7] at h2
    have b := hc.2.2.2.2 l h1 h2
    have hq := hc.1
    rw [e2, e3, e4, if_neg (by omega), e6]
    simp (disch := omega) only [upd_ne]
    exact ⟨b.1, b.2.1, b.2.2.1, b.2.2.2.1, by omega, b.2.2.2.2.2⟩
  · obtain ⟨g1, g2, g3, g4⟩ := hd.1
    unfold GI
    rw [e8, e9]
    exact ⟨g1, g2, g3, fun r hr i hi => by rw [e5]; exact g4 r hr i hi⟩
  · rw [e8] at hr
    have := hd.1.1
    simp (disch := omega) only [upd_ne]
    exact hd.2.1 r hr
theorem DR_lp {q g : Nx} {S : Nat → Int32} {u v w : Nat} (h : DR q g S) (h7 : q 7 0 < 5) (hu : u ≤ v) (hv : v < q 6 0) (hw : 1 ≤ w ∧ w ≤ 20) : DR (addLp q u v w) g (upd (upd (upd (upd S (15 + 4 * q 7 0) (nI u)) (15 + 4 * q 7 0 + 1) (nI v)) (15 + 4 * q 7 0 + 2) (nI w)) 14 (nI (q 7 0 + 1))) := by
  obtain ⟨ha, hb, hc, hd⟩ := h
  have hq := hc.1
  have e7 : addLp q u v w 7 0 = q 7 0 + 1 := by unfold addLp; rw [up1_at]
  have eo : ∀ a i, a ≠ 2 → a ≠ 3 → a ≠ 4 → a ≠ 7 → addLp q u v w a i = q a i := by
    intro a i h1 h2 h3 h4
    unfold addLp
    rw [up1_ne h4, up2_ne h3, up2_ne h2, up2_ne h1]
  have e2 : ∀ i, addLp q u v w 2 i = if i = q 7 0 then u else q 2 i := by intro i; unfold addLp; rw [up1_ne (by omega), up2_ne (by omega), up2_ne (by omega), up2_if]
  have e3 : ∀ i, addLp q u v w 3 i = if i = q 7 0 then v else q 3 i := by intro i; unfold addLp; rw [up1_ne (by omega), up2_ne (by omega), up2_if, up2_ne (by omega)]
  have e4 : ∀ i, addLp q u v w 4 i = if i = q 7 0 then w else q 4 i := by intro i; unfold addLp; rw [up1_ne (by omega), up2_if, up2_ne (by omega), up2_ne (by omega)]
  have o6 := eo 6 0 (by omega) (by omega) (by omega) (by omega)
  have o8 := eo 8 0 (by omega) (by omega) (by omega) (by omega)
  have o9 := eo 9 0 (by omega) (by omega) (by omega) (by omega)
  refine ⟨⟨?_, ?_, ?_, ?_, ?_⟩, ⟨by rw [o6]; exact hb.1, fun k hk => ?_⟩, ⟨by omega, by rw [e2, if_neg (by omega)]; exact hc.2.1, fun z => ?_, ?_, fun l h1 h2 => ?_⟩, ⟨?_, fun r hr => ?_, fun i => by rw [eo 5 i (by omega) (by omega) (by omega) (by omega)]; exact hd.2.2 i⟩⟩
  · simp (disch := omega) only [upd_ne]; exact ha.1
  · simp (disch := omega) only [upd_ne]; rw [o6]; exact ha.2.1
  · rw [upd_eq rfl, e7]
  · simp (disch := omega) only [upd_ne]; rw [o8]; exact ha.2.2.2.1
  · simp (disch := omega) only [upd_ne]; exact ha.2.2.2.2
  · rw [o6] at hk
    have b := hb.2 k hk
    have b6 := hb.1
    rw [eo 0 k (by omega) (by omega) (by omega) (by omega), eo 1 k (by omega) (by omega) (by omega) (by omega)]
    simp (disch := omega) only [upd_ne]
    exact b
  · rw [o6] at z ⊢
    rw [e3, if_neg (by omega)]
    exact hc.2.2.1 z
  · simp (disch := omega) only [upd_ne]; rw [e4, if_neg (by omega)]; exact hc.2.2.2.1
  · rw [e7] at h2
    rw [e2, e3, e4, o6]
    by_cases c : l = q 7 0
    · subst c
      rw [if_pos rfl, if_pos rfl, if_pos rfl]
      simp (disch := omega) only [upd_ne, upd_eq]
      exact ⟨trivial, trivial, trivial, hu, hv, hw.1, hw.2⟩
    · have b := hc.2.2.2.2 l h1 (by omega)
      rw [if_neg c, if_neg c, if_neg c]
      simp (disch := omega) only [upd_ne]
      exact b
  · obtain ⟨g1, g2, g3, g4⟩ := hd.1
    unfold GI
    rw [o8, o9]
    exact ⟨g1, g2, g3, fun r hr i hi => by rw [eo 5 _ (by omega) (by omega) (by omega) (by omega)]; exact g4 r hr i hi⟩
  · rw [o8] at hr
    have := hd.1.1
    simp (disch := omega) only [upd_ne]
    exact hd.2.1 r hr
theorem sumG_up {g : Nx} {a k n : Nat} : ∀ {r : Nat}, r ≤ a → sumG (up2 (up2 g 0 a k) 1 a n) r = sumG g r
  | 0, _ => rfl
  | r + 1, h => by
    rw [sumG, sumG, sumG_up (by omega), up2_o (by omega), up2_ne (by omega)]
theorem DR_rn {q g : Nx} {S : Nat → Int32} {k n : Nat} (h : DR q g S) (h8 : q 8 0 < 6) (hk : k ≤ 3) (hn : 1 ≤ n ∧ n ≤ 20) : DR (addRn q k n) (up2 (up2 g 0 (q 8 0) k) 1 (q 8 0) n) (upd (upd (upd S (36 + 2 * q 8 0) (nI k)) (36 + 2 * q 8 0 + 1) (nI n)) 35 (nI (q 8 0 + 1))) ∧ q 9 0 + n ≤ 120 := by
  obtain ⟨ha, hb, hc, hd⟩ := h
  have hq := hc.1
  have e8 : addRn q k n 8 0 = q 8 0 + 1 := by unfold addRn; rw [up1_at]
  have e9 : addRn q k n 9 0 = q 9 0 + n := by unfold addRn; rw [up1_ne (by omega), putK_90]
  have e5 : ∀ i, addRn q k n 5 i = if q 9 0 ≤ i ∧ i < q 9 0 + n then k else q 5 i := by intro i; unfold addRn; rw [up1_ne (by omega), putK_5]
  have eo : ∀ a i, a ≠ 5 → a ≠ 8 → a ≠ 9 → addRn q k n a i = q a i := by
    intro a i h1 h2 h3
    unfold addRn
    rw [up1_ne h2, putK_o ⟨h1, h3⟩]
  have o6 := eo 6 0 (by omega) (by omega) (by omega)
  have o7 := eo 7 0 (by omega) (by omega) (by omega)
  obtain ⟨g1, g2, g3, g4⟩ := hd.1
  have sl := (sumG_le hd.1 (r := q 8 0) (Nat.le_refl _)).1
  refine ⟨⟨⟨?_, ?_, ?_, ?_, ?_⟩, ⟨by rw [o6]; exact hb.1, fun j hj => ?_⟩, ⟨by rw [o7]; exact hq, by rw [eo 2 0 (by omega) (by omega) (by omega)]; exact hc.2.1, fun z => ?_, ?_, fun l h1 h2 => ?_⟩, ⟨⟨by omega, fun r hr => ?_, ?_, fun r hr i hi => ?_⟩, fun r hr => ?_, fun i => ?_⟩⟩, by omega⟩
  · simp (disch := omega) only [upd_ne]; exact ha.1
  · simp (disch := omega) only [upd_ne]; rw [o6]; exact ha.2.1
  · simp (disch := omega) only [upd_ne]; rw [o7]; exact ha.2.2.1
  · rw [upd_eq rfl, e8]
  · simp (disch := omega) only [upd_ne]; exact ha.2.2.2.2
  · rw [o6] at hj
    have b := hb.2 j hj
    have b6 := hb.1
    rw [eo 0 j (by omega) (by omega) (by omega), eo 1 j (by omega) (by omega) (by omega)]
    simp (disch := omega) only [upd_ne]
    exact b
  · rw [o6] at z ⊢
    rw [eo 3 0 (by omega) (by omega) (by omega)]
    exact hc.2.2.1 z
  · simp (disch := omega) only [upd_ne]; rw [eo 4 0 (by omega) (by omega) (by omega)]; exact hc.2.2.2.1
  · rw [o7] at h2
    have b := hc.2.2.2.2 l h1 h2
    rw [eo 2 l (by omega) (by omega) (by omega), eo 3 l (by omega) (by omega) (by omega), eo 4 l (by omega) (by omega) (by omega), o6]
    simp (disch := omega) only [upd_ne]
    exact b
  · rw [e8] at hr
    by_cases c : r = q 8 0
    · subst c
      rw [up2_at, up2_ne (by omega), up2_at]
      omega
    · have b := g2 r (by omega)
      rw [up2_o c, up2_ne (by omega), up2_ne (by omega), up2_o c]
      exact b
  · rw [e8, e9, sumG, sumG_up (Nat.le_refl _), up2_at, g3]
  · rw [e8] at hr
    rw [sumG_up (by omega), e5]
    by_cases c : r = q 8 0
    · subst c
      rw [up2_at] at hi
      rw [← g3, if_pos (by omega), up2_ne (by omega), up2_at]
    · rw [up2_o c, up2_ne (by omega)] at hi
      rw [up2_ne (by omega), up2_o c]
      have b := g4 r (by omega) i hi
      have m : ∀ d, r + 1 + d ≤ q 8 0 → sumG g (r + 1) ≤ sumG g (r + 1 + d) := by
        intro d
        induction d with
        | zero => intro _; exact Nat.le_refl _
        | succ d ih =>
          intro hd
          have := ih (by omega)
          show _ ≤ sumG g (r + 1 + d) + g 1 (r + 1 + d)
          omega
      have m1 := m (q 8 0 - (r + 1)) (by omega)
      rw [show r + 1 + (q 8 0 - (r + 1)) = q 8 0 from by omega, sumG] at m1
      rw [if_neg (by omega)]
      exact b
  · rw [e8] at hr
    by_cases c : r = q 8 0
    · subst c
      rw [up2_at, up2_ne (by omega), up2_at]
      simp (disch := omega) only [upd_ne, upd_eq]
      exact ⟨trivial, trivial⟩
    · rw [up2_o c, up2_ne (by omega), up2_o c, up2_ne (by omega)]
      simp (disch := omega) only [upd_ne]
      exact hd.2.1 r (by omega)
  · rw [e5]
    split
    · omega
    · exact hd.2.2 i
/-- the empty draft, and one with the works alone -/
def DR0 (q : Nx) (S : Nat → Int32) : Prop := (∀ j, j < 353 → S j = nI 0) ∧ q 6 0 = 0 ∧ q 7 0 = 0 ∧ q 8 0 = 0 ∧ q 9 0 = 0 ∧ ∀ i, q 5 i < 2 ^ 31
theorem DR_wk {q g : Nx} {S : Nat → Int32} {w : Nat} (h : DR0 q S) (hw : 1 ≤ w ∧ w ≤ 20) : DR (addLp q 0 0 w) g (upd (upd (upd S 17 (nI w)) 0 (nI 1)) 14 (nI 1)) := by
  obtain ⟨hS, h6, h7, h8, h9, h5⟩ := h
  have e7 : addLp q 0 0 w 7 0 = 1 := by unfold addLp; rw [up1_at, h7]
  have eo : ∀ a i, a ≠ 2 → a ≠ 3 → a ≠ 4 → a ≠ 7 → addLp q 0 0 w a i = q a i := by
    intro a i h1 h2 h3 h4
    unfold addLp
    rw [up1_ne h4, up2_ne h3, up2_ne h2, up2_ne h1]
  have o6 := eo 6 0 (by omega) (by omega) (by omega) (by omega)
  have o8 := eo 8 0 (by omega) (by omega) (by omega) (by omega)
  have o9 := eo 9 0 (by omega) (by omega) (by omega) (by omega)
  have e2 : addLp q 0 0 w 2 0 = 0 := by unfold addLp; rw [up1_ne (by omega), up2_ne (by omega), up2_ne (by omega), h7, up2_at]
  have e4 : addLp q 0 0 w 4 0 = w := by unfold addLp; rw [up1_ne (by omega), h7, up2_at]
  refine ⟨⟨?_, ?_, ?_, ?_, ?_⟩, ⟨by omega, fun k hk => by omega⟩, ⟨by omega, e2, fun z => by omega, ?_, fun l h1 h2 => by omega⟩, ⟨⟨by omega, fun r hr => by omega, ?_, fun r hr i hi => by omega⟩, fun r hr => by omega, fun i => by rw [eo 5 i (by omega) (by omega) (by omega) (by omega)]; exact h5 i⟩⟩
  · simp (disch := omega) only [upd_ne, upd_eq]
  · simp (disch := omega) only [upd_ne]; rw [o6, h6]; exact hS 1 (by omega)
  · simp (disch := omega) only [upd_eq]; rw [e7]
  · simp (disch := omega) only [upd_ne]; rw [o8, h8]; exact hS 35 (by omega)
  · simp (disch := omega) only [upd_ne]; exact hS 15 (by omega)
  · simp (disch := omega) only [upd_ne, upd_eq]; rw [e4]; exact ⟨rfl, hw⟩
  · rw [o8, o9, h8, h9]; rfl
