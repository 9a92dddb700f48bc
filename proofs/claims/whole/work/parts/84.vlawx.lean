theorem wsL_law_x0 : ∀ w ∈ (xAtoms.filter vx_no).filter goodWord, w ∈ lw_tbl := by decide +kernel
theorem wsL_law_in : ∀ w ∈ wsL_law, w ∈ lw_tbl := fun w h => (List.mem_append.mp h).elim (fun h => wsL_law_in0 w h) (fun h => wsL_law_x0 w h)
theorem wsL_law_good : ∀ w ∈ wsL_law, goodWord w = true := fun w h => (List.mem_append.mp h).elim (fun h => List.all_eq_true.mp W0_good w h) (fun h => (List.mem_filter.mp h).2)
theorem gdL {a b : Cond} {own C : String} {idx : Nat} {y : MethodName} (h1 : Cond.methodLink own idx y ∈ wsL_law0) (h2 : Cond.instanceMethod y ∈ wsL_law0) (h3 : Cond.selects C y y ∈ wsL_law0) (h4 : Cond.initialized C ∈ wsL_law0) (h5 : b ∈ wsL_law0) : GoodIn (a :: wsL_law) (wsV own idx C y (b :: wsL_law)) := by
  have one : ∀ {w : Cond}, w ∈ wsL_law → w ∈ a :: wsL_law ∧ ((w.onTables && w.keeps) = true ∨ ∃ ty, w = .arrayClass ty) := fun {w} h => ⟨List.mem_cons_of_mem _ h, good_of_word (wsL_law_good w h)⟩
  intro w hw
  unfold wsV at hw
  rcases List.mem_append.mp hw with h | h
  · simp only [List.mem_cons, List.not_mem_nil, or_false] at h
    rcases h with rfl | rfl | rfl | rfl
    · exact one (ml h1)
    · exact one (ml h2)
    · exact one (ml h3)
    · exact one (ml h4)
  · rcases List.mem_cons.mp h with rfl | h
    · exact one (ml h5)
    · exact one h
