/-! the law's cases, and the run -/
theorem s_IS_IA : ("java/lang/IllegalStateException" = "java/lang/IllegalArgumentException") = False := eq_false (by decide)
theorem s_IS_IO : ("java/lang/IllegalStateException" = "java/lang/IndexOutOfBoundsException") = False := eq_false (by decide)
theorem s_IA_IS : ("java/lang/IllegalArgumentException" = "java/lang/IllegalStateException") = False := eq_false (by decide)
theorem s_IA_IO : ("java/lang/IllegalArgumentException" = "java/lang/IndexOutOfBoundsException") = False := eq_false (by decide)
theorem s_IO_IS : ("java/lang/IndexOutOfBoundsException" = "java/lang/IllegalStateException") = False := eq_false (by decide)
theorem s_IO_IA : ("java/lang/IndexOutOfBoundsException" = "java/lang/IllegalArgumentException") = False := eq_false (by decide)
theorem i20 : ((2 : Int32) = 0) = False := eq_false (by decide)
theorem i30 : ((3 : Int32) = 0) = False := eq_false (by decide)
theorem in01 : inR 0 1 = true := by decide
theorem cl0 : (0 : Int32).toNatClampNeg = 0 := rfl
theorem up0 (f : Nat → Int64) (v : Int64) : vp_updL f 0 v 0 = v := by unfold vp_updL; rw [if_pos rfl]
theorem law_0 {w : ZW} (h : Gl w.1.1 w.2) (x1 x2 x3 : Int32) : ∃ w2, law_C0 x1 x2 x3 w = some w2 ∧ Gl w2.1.1 w2.2 := by
  rcases o_column h x1 x2 x3 with ⟨e, k, v, w1, m2, h1, h2, h3, h4, h5⟩ | ⟨a, w1, m2, h1, h2, h3, h4⟩
  · refine ⟨((w1, w.1.2), m2), ?_, h4⟩
    rcases h5 with ⟨rfl, rfl⟩ | ⟨rfl, rfl⟩ <;> simp only [law_C0, L_column, h1, h2, h3, Sum.elim_inl, Option.bind_some, X9_thrown, if_true, if_false, i10, i20, i30, in01, bnd, cl0, up0, s_IS_IA, s_IS_IO, s_IA_IS, s_IA_IO, s_IO_IS, s_IO_IA]
  · exact ⟨((w1, vp_updL w.1.2 0 a.toInt64), m2), by simp only [law_C0, L_column, h1, h2, h3, Sum.elim_inr, Option.bind_some, X9_thrown, if_true, if_false, i10, i20, i30, in01, bnd, cl0, up0, s_IS_IA, s_IS_IO, s_IA_IS, s_IA_IO, s_IO_IS, s_IO_IA], h4⟩
theorem law_1 {w : ZW} (h : Gl w.1.1 w.2) (x1 x2 x3 : Int32) : ∃ w2, law_C1 x1 x2 x3 w = some w2 ∧ Gl w2.1.1 w2.2 := by
  rcases o_row h x1 x2 with ⟨e, k, v, w1, m2, h1, h2, h3, h4, h5⟩ | ⟨a, w1, m2, h1, h2, h3, h4⟩
  · refine ⟨((w1, w.1.2), m2), ?_, h4⟩
    rcases h5 with ⟨rfl, rfl⟩ | ⟨rfl, rfl⟩ <;> simp only [law_C1, L_row, h1, h2, h3, Sum.elim_inl, Option.bind_some, X9_thrown, if_true, if_false, i10, i20, i30, in01, bnd, cl0, up0, s_IS_IA, s_IS_IO, s_IA_IS, s_IA_IO, s_IO_IS, s_IO_IA]
  · exact ⟨((w1, vp_updL w.1.2 0 a.toInt64), m2), by simp only [law_C1, L_row, h1, h2, h3, Sum.elim_inr, Option.bind_some, X9_thrown, if_true, if_false, i10, i20, i30, in01, bnd, cl0, up0, s_IS_IA, s_IS_IO, s_IA_IS, s_IA_IO, s_IO_IS, s_IO_IA], h4⟩
theorem law_2 {w : ZW} (h : Gl w.1.1 w.2) (x1 x2 x3 : Int32) : ∃ w2, law_C2 x1 x2 x3 w = some w2 ∧ Gl w2.1.1 w2.2 := by
  rcases o_term h x1 x2 x3 with ⟨e, k, w1, m2, h1, h2, h3, h4, h5⟩ | ⟨w1, m2, h1, h2, h3, h4⟩
  · refine ⟨((w1, w.1.2), m2), ?_, h4⟩
    rcases h5 with ⟨rfl, rfl⟩ | ⟨rfl, rfl⟩ <;> simp only [law_C2, L_term, h1, h2, h3, Sum.elim_inl, Option.bind_some, X9_thrown, if_true, if_false, i10, i20, i30, in01, bnd, cl0, up0, s_IS_IA, s_IS_IO, s_IA_IS, s_IA_IO, s_IO_IS, s_IO_IA]
  · exact ⟨((w1, w.1.2), m2), by simp only [law_C2, L_term, h1, h2, h3, Sum.elim_inr, Option.bind_some, X9_thrown, if_true, if_false, i10, i20, i30, in01, bnd, cl0, up0, s_IS_IA, s_IS_IO, s_IA_IS, s_IA_IO, s_IO_IS, s_IO_IA], h4⟩
theorem law_3 {w : ZW} (h : Gl w.1.1 w.2) (x1 x2 x3 : Int32) : ∃ w2, law_C3 x1 x2 x3 w = some w2 ∧ Gl w2.1.1 w2.2 := by
  obtain ⟨v, w1, m2, h1, h2, h3⟩ := o_clear h
  exact ⟨((w1, w.1.2), m2), by simp only [law_C3, h1, h2, Option.bind_some, X9_thrown, if_true, if_false, i10, i20, i30, in01, bnd, cl0, up0, s_IS_IA, s_IS_IO, s_IA_IS, s_IA_IO, s_IO_IS, s_IO_IA], h3⟩
theorem law_4 {w : ZW} (h : Gl w.1.1 w.2) (x1 x2 x3 : Int32) : ∃ w2, law_C4 x1 x2 x3 w = some w2 ∧ Gl w2.1.1 w2.2 := by
  rcases o_shrink h x1 x2 with ⟨e, k, v, w1, m2, h1, h2, h3, h4, h5⟩ | ⟨a, w1, m2, h1, h2, h3, h4⟩
  · refine ⟨((w1, w.1.2), m2), ?_, h4⟩
    obtain ⟨rfl, rfl⟩ := h5
    simp only [law_C4, L_shrink, h1, h2, h3, Sum.elim_inl, Option.bind_some, X9_thrown, if_true, if_false, i10, i20, i30, in01, bnd, cl0, up0, s_IS_IA, s_IS_IO, s_IA_IS, s_IA_IO, s_IO_IS, s_IO_IA]
  · exact ⟨((w1, vp_updL w.1.2 0 a.toInt64), m2), by simp only [law_C4, L_shrink, h1, h2, h3, Sum.elim_inr, Option.bind_some, X9_thrown, if_true, if_false, i10, i20, i30, in01, bnd, cl0, up0, s_IS_IA, s_IS_IO, s_IA_IS, s_IA_IO, s_IO_IS, s_IO_IA], h4⟩
theorem law_5 {w : ZW} (h : Gl w.1.1 w.2) (x1 x2 x3 : Int32) : ∃ w2, law_C5 x1 x2 x3 w = some w2 ∧ Gl w2.1.1 w2.2 := by
  rcases o_state h x1 with ⟨e, k, v, m2, h1, h2, h3, h4, h5⟩ | ⟨a, b, m2, h1, h2, h3, h4, h5⟩
  · refine ⟨((w.1.1, w.1.2), m2), ?_, h4⟩
    rcases h5 with ⟨rfl, rfl⟩ | ⟨rfl, rfl⟩ <;> simp only [law_C5, L_state, h1, h2, h3, Sum.elim_inl, Option.bind_some, X9_thrown, if_true, if_false, i10, i20, i30, in01, bnd, cl0, up0, s_IS_IA, s_IS_IO, s_IA_IS, s_IA_IO, s_IO_IS, s_IO_IA]
  · subst h3
    exact ⟨((w.1.1, vp_updL w.1.2 0 a.toInt64), m2), by simp only [law_C5, L_state, h1, h2, h4, Sum.elim_inr, Option.bind_some, X9_thrown, if_true, if_false, i10, i20, i30, in01, bnd, cl0, up0, s_IS_IA, s_IS_IO, s_IA_IS, s_IA_IO, s_IO_IS, s_IO_IA], h5⟩
theorem law_6 {w : ZW} (h : Gl w.1.1 w.2) (x1 x2 x3 : Int32) : ∃ w2, law_C6 x1 x2 x3 w = some w2 ∧ Gl w2.1.1 w2.2 := by
  have core : ∀ q : Int32, (q = 0 ∨ q = 1) → law_C6 x1 x2 x3 w = ((L_bound w.1 x1 q).bind (fun r531 : Int32 × LW => L_law_J557 (r531.2, w.2) r531.1 x1 q)) → ∃ w2, law_C6 x1 x2 x3 w = some w2 ∧ Gl w2.1.1 w2.2 := fun q hq eq => by
    rw [eq]
    rcases o_bound h x1 q with ⟨e, k, v, m2, h1, h2, h3, h4, h5⟩ | ⟨a, b, m2, h1, h2, h3, h4, h5⟩
    · refine ⟨((w.1.1, w.1.2), m2), ?_, h4⟩
      rcases h5 with ⟨rfl, rfl⟩ | ⟨rfl, rfl⟩ <;> simp only [L_law_J557, L_bound, h1, h2, h3, Sum.elim_inl, Option.bind_some, X9_thrown, if_true, if_false, i10, i20, i30, in01, bnd, cl0, up0, s_IS_IA, s_IS_IO, s_IA_IS, s_IA_IO, s_IO_IS, s_IO_IA]
    · subst h3
      exact ⟨((w.1.1, vp_updL w.1.2 0 a.toInt64), m2), by simp only [L_law_J557, L_bound, h1, h2, h4, Sum.elim_inr, Option.bind_some, X9_thrown, if_true, if_false, i10, i20, i30, in01, bnd, cl0, up0, s_IS_IA, s_IS_IO, s_IA_IS, s_IA_IO, s_IO_IS, s_IO_IA], h5⟩
  by_cases e : x2 = 0
  · exact core 0 (Or.inl rfl) (by simp only [law_C6, L_law_J530, e, if_true])
  · exact core 1 (Or.inr rfl) (by simp only [law_C6, L_law_J530, e, if_false])
theorem law_7 {w : ZW} (h : Gl w.1.1 w.2) (x1 x2 x3 : Int32) : ∃ w2, law_C7 x1 x2 x3 w = some w2 ∧ Gl w2.1.1 w2.2 := by
  rcases o_cost h x1 with ⟨e, k, v, m2, h1, h2, h3, h4, h5⟩ | ⟨a, b, m2, h1, h2, h3, h4, h5⟩
  · refine ⟨((w.1.1, w.1.2), m2), ?_, h4⟩
    rcases h5 with ⟨rfl, rfl⟩ | ⟨rfl, rfl⟩ <;> simp only [law_C7, L_cost, h1, h2, h3, Sum.elim_inl, Option.bind_some, X9_thrown, if_true, if_false, i10, i20, i30, in01, bnd, cl0, up0, s_IS_IA, s_IS_IO, s_IA_IS, s_IA_IO, s_IO_IS, s_IO_IA]
  · subst h3
    exact ⟨((w.1.1, vp_updL w.1.2 0 a.toInt64), m2), by simp only [law_C7, L_cost, h1, h2, h4, Sum.elim_inr, Option.bind_some, X9_thrown, if_true, if_false, i10, i20, i30, in01, bnd, cl0, up0, s_IS_IA, s_IS_IO, s_IA_IS, s_IA_IO, s_IO_IS, s_IO_IA], h5⟩
theorem law_8 {w : ZW} (h : Gl w.1.1 w.2) (x1 x2 x3 : Int32) : ∃ w2, law_C8 x1 x2 x3 w = some w2 ∧ Gl w2.1.1 w2.2 := by
  rcases o_kind h x1 with ⟨e, k, v, m2, h1, h2, h3, h4, h5⟩ | ⟨a, b, m2, h1, h2, h3, h4, h5⟩
  · refine ⟨((w.1.1, w.1.2), m2), ?_, h4⟩
    rcases h5 with ⟨rfl, rfl⟩ | ⟨rfl, rfl⟩ <;> simp only [law_C8, L_kind, h1, h2, h3, Sum.elim_inl, Option.bind_some, X9_thrown, if_true, if_false, i10, i20, i30, in01, bnd, cl0, up0, s_IS_IA, s_IS_IO, s_IA_IS, s_IA_IO, s_IO_IS, s_IO_IA]
  · subst h3
    exact ⟨((w.1.1, vp_updL w.1.2 0 a.toInt64), m2), by simp only [law_C8, L_kind, h1, h2, h4, Sum.elim_inr, Option.bind_some, X9_thrown, if_true, if_false, i10, i20, i30, in01, bnd, cl0, up0, s_IS_IA, s_IS_IO, s_IA_IS, s_IA_IO, s_IO_IS, s_IO_IA], h5⟩
theorem law_9 {w : ZW} (h : Gl w.1.1 w.2) (x1 x2 x3 : Int32) : ∃ w2, law_C9 x1 x2 x3 w = some w2 ∧ Gl w2.1.1 w2.2 := by
  rcases o_right h x1 with ⟨e, k, v, m2, h1, h2, h3, h4, h5⟩ | ⟨a, b, m2, h1, h2, h3, h4, h5⟩
  · refine ⟨((w.1.1, w.1.2), m2), ?_, h4⟩
    rcases h5 with ⟨rfl, rfl⟩ | ⟨rfl, rfl⟩ <;> simp only [law_C9, L_right, h1, h2, h3, Sum.elim_inl, Option.bind_some, X9_thrown, if_true, if_false, i10, i20, i30, in01, bnd, cl0, up0, s_IS_IA, s_IS_IO, s_IA_IS, s_IA_IO, s_IO_IS, s_IO_IA]
  · subst h3
    exact ⟨((w.1.1, vp_updL w.1.2 0 a), m2), by simp only [law_C9, L_right, h1, h2, h4, Sum.elim_inr, Option.bind_some, X9_thrown, if_true, if_false, i10, i20, i30, in01, bnd, cl0, up0, s_IS_IA, s_IS_IO, s_IA_IS, s_IA_IO, s_IO_IS, s_IO_IA], h5⟩
theorem law_10 {w : ZW} (h : Gl w.1.1 w.2) (x1 x2 x3 : Int32) : ∃ w2, law_C10 x1 x2 x3 w = some w2 ∧ Gl w2.1.1 w2.2 := by
  rcases o_coefficient h x1 x2 with ⟨e, k, v, m2, h1, h2, h3, h4, h5⟩ | ⟨a, b, m2, h1, h2, h3, h4, h5⟩
  · refine ⟨((w.1.1, w.1.2), m2), ?_, h4⟩
    rcases h5 with ⟨rfl, rfl⟩ | ⟨rfl, rfl⟩ <;> simp only [law_C10, L_coefficient, h1, h2, h3, Sum.elim_inl, Option.bind_some, X9_thrown, if_true, if_false, i10, i20, i30, in01, bnd, cl0, up0, s_IS_IA, s_IS_IO, s_IA_IS, s_IA_IO, s_IO_IS, s_IO_IA]
  · subst h3
    exact ⟨((w.1.1, vp_updL w.1.2 0 a.toInt64), m2), by simp only [law_C10, L_coefficient, h1, h2, h4, Sum.elim_inr, Option.bind_some, X9_thrown, if_true, if_false, i10, i20, i30, in01, bnd, cl0, up0, s_IS_IA, s_IS_IO, s_IA_IS, s_IA_IO, s_IO_IS, s_IO_IA], h5⟩
theorem law_11 {w : ZW} (h : Gl w.1.1 w.2) (x1 x2 x3 : Int32) : ∃ w2, law_C11 x1 x2 x3 w = some w2 ∧ Gl w2.1.1 w2.2 := by
  rcases o_offset h  with ⟨e, k, v, m2, h1, h2, h3, h4, h5⟩ | ⟨a, b, m2, h1, h2, h3, h4, h5⟩
  · refine ⟨((w.1.1, w.1.2), m2), ?_, h4⟩
    obtain ⟨rfl, rfl⟩ := h5
    simp only [law_C11, L_offset, h1, h2, h3, Sum.elim_inl, Option.bind_some, X9_thrown, if_true, if_false, i10, i20, i30, in01, bnd, cl0, up0, s_IS_IA, s_IS_IO, s_IA_IS, s_IA_IO, s_IO_IS, s_IO_IA]
  · subst h3
    exact ⟨((w.1.1, vp_updL w.1.2 0 a), m2), by simp only [law_C11, L_offset, h1, h2, h4, Sum.elim_inr, Option.bind_some, X9_thrown, if_true, if_false, i10, i20, i30, in01, bnd, cl0, up0, s_IS_IA, s_IS_IO, s_IA_IS, s_IA_IO, s_IO_IS, s_IO_IA], h5⟩
theorem law_12 {w : ZW} (h : Gl w.1.1 w.2) (x1 x2 x3 : Int32) : ∃ w2, law_C12 x1 x2 x3 w = some w2 ∧ Gl w2.1.1 w2.2 := by
  rcases o_rest h x1 x2 with ⟨e, k, v, m2, h1, h2, h3, h4, h5⟩ | ⟨a, b, m2, h1, h2, h3, h4, h5⟩
  · refine ⟨((w.1.1, w.1.2), m2), ?_, h4⟩
    rcases h5 with ⟨rfl, rfl⟩ | ⟨rfl, rfl⟩ | ⟨rfl, rfl⟩ <;> simp only [law_C12, L_rest, h1, h2, h3, Sum.elim_inl, Option.bind_some, X9_thrown, if_true, if_false, i10, i20, i30, in01, bnd, cl0, up0, s_IS_IA, s_IS_IO, s_IA_IS, s_IA_IO, s_IO_IS, s_IO_IA]
  · subst h3
    exact ⟨((w.1.1, vp_updL w.1.2 0 a.toInt64), m2), by simp only [law_C12, L_rest, h1, h2, h4, Sum.elim_inr, Option.bind_some, X9_thrown, if_true, if_false, i10, i20, i30, in01, bnd, cl0, up0, s_IS_IA, s_IS_IO, s_IA_IS, s_IA_IO, s_IO_IS, s_IO_IA], h5⟩
theorem law_13 {w : ZW} (h : Gl w.1.1 w.2) (x1 x2 x3 : Int32) : ∃ w2, law_C13 x1 x2 x3 w = some w2 ∧ Gl w2.1.1 w2.2 := by
  rcases o_certificate h  with ⟨e, k, v, m2, h1, h2, h3, h4, h5⟩ | ⟨a, b, m2, h1, h2, h3, h4, h5⟩
  · refine ⟨((w.1.1, w.1.2), m2), ?_, h4⟩
    obtain ⟨rfl, rfl⟩ := h5
    simp only [law_C13, L_certificate, h1, h2, h3, Sum.elim_inl, Option.bind_some, X9_thrown, if_true, if_false, i10, i20, i30, in01, bnd, cl0, up0, s_IS_IA, s_IS_IO, s_IA_IS, s_IA_IO, s_IO_IS, s_IO_IA]
  · subst h3
    exact ⟨((w.1.1, vp_updL w.1.2 0 a.toInt64), m2), by simp only [law_C13, L_certificate, h1, h2, h4, Sum.elim_inr, Option.bind_some, X9_thrown, if_true, if_false, i10, i20, i30, in01, bnd, cl0, up0, s_IS_IA, s_IS_IO, s_IA_IS, s_IA_IO, s_IO_IS, s_IO_IA], h5⟩
theorem law_14 {w : ZW} (h : Gl w.1.1 w.2) (x1 x2 x3 : Int32) : ∃ w2, law_C14 x1 x2 x3 w = some w2 ∧ Gl w2.1.1 w2.2 := by
  rcases o_certified h  with ⟨e, k, v, w1, m2, h1, h2, h3, h4, h5⟩ | ⟨a, w1, m2, h1, h2, h3, h4⟩
  · refine ⟨((w1, w.1.2), m2), ?_, h4⟩
    obtain ⟨rfl, rfl⟩ := h5
    simp only [law_C14, L_certified, h1, h2, h3, Sum.elim_inl, Option.bind_some, X9_thrown, if_true, if_false, i10, i20, i30, in01, bnd, cl0, up0, s_IS_IA, s_IS_IO, s_IA_IS, s_IA_IO, s_IO_IS, s_IO_IA]
  · exact ⟨((w1, vp_updL w.1.2 0 a.toInt64), m2), by simp only [law_C14, L_certified, h1, h2, h3, Sum.elim_inr, Option.bind_some, X9_thrown, if_true, if_false, i10, i20, i30, in01, bnd, cl0, up0, s_IS_IA, s_IS_IO, s_IA_IS, s_IA_IO, s_IO_IS, s_IO_IA], h4⟩
theorem law_15 {w : ZW} (h : Gl w.1.1 w.2) (x1 x2 x3 : Int32) : ∃ w2, law_C15 x1 x2 x3 w = some w2 ∧ Gl w2.1.1 w2.2 := by
  rcases o_acts h  with ⟨e, k, v, m2, h1, h2, h3, h4, h5⟩ | ⟨a, b, m2, h1, h2, h3, h4, h5⟩
  · refine ⟨((w.1.1, w.1.2), m2), ?_, h4⟩
    obtain ⟨rfl, rfl⟩ := h5
    simp only [law_C15, L_acts, h1, h2, h3, Sum.elim_inl, Option.bind_some, X9_thrown, if_true, if_false, i10, i20, i30, in01, bnd, cl0, up0, s_IS_IA, s_IS_IO, s_IA_IS, s_IA_IO, s_IO_IS, s_IO_IA]
  · subst h3
    exact ⟨((w.1.1, vp_updL w.1.2 0 a.toInt64), m2), by simp only [law_C15, L_acts, h1, h2, h4, Sum.elim_inr, Option.bind_some, X9_thrown, if_true, if_false, i10, i20, i30, in01, bnd, cl0, up0, s_IS_IA, s_IS_IO, s_IA_IS, s_IA_IO, s_IO_IS, s_IO_IA], h5⟩
theorem law_16 {w : ZW} (h : Gl w.1.1 w.2) (x1 x2 x3 : Int32) : ∃ w2, law_C16 x1 x2 x3 w = some w2 ∧ Gl w2.1.1 w2.2 := by
  rcases o_act h x1 x2 with ⟨e, k, v, m2, h1, h2, h3, h4, h5⟩ | ⟨a, b, m2, h1, h2, h3, h4, h5⟩
  · refine ⟨((w.1.1, w.1.2), m2), ?_, h4⟩
    rcases h5 with ⟨rfl, rfl⟩ | ⟨rfl, rfl⟩ | ⟨rfl, rfl⟩ <;> simp only [law_C16, L_act, h1, h2, h3, Sum.elim_inl, Option.bind_some, X9_thrown, if_true, if_false, i10, i20, i30, in01, bnd, cl0, up0, s_IS_IA, s_IS_IO, s_IA_IS, s_IA_IO, s_IO_IS, s_IO_IA]
  · subst h3
    exact ⟨((w.1.1, vp_updL w.1.2 0 a), m2), by simp only [law_C16, L_act, h1, h2, h4, Sum.elim_inr, Option.bind_some, X9_thrown, if_true, if_false, i10, i20, i30, in01, bnd, cl0, up0, s_IS_IA, s_IS_IO, s_IA_IS, s_IA_IO, s_IO_IS, s_IO_IA], h5⟩
theorem law_17 {w : ZW} (h : Gl w.1.1 w.2) (x1 x2 x3 : Int32) : ∃ w2, law_C17 x1 x2 x3 w = some w2 ∧ Gl w2.1.1 w2.2 := by
  rcases o_parts h  with ⟨e, k, v, m2, h1, h2, h3, h4, h5⟩ | ⟨a, b, m2, h1, h2, h3, h4, h5⟩
  · refine ⟨((w.1.1, w.1.2), m2), ?_, h4⟩
    obtain ⟨rfl, rfl⟩ := h5
    simp only [law_C17, L_parts, h1, h2, h3, Sum.elim_inl, Option.bind_some, X9_thrown, if_true, if_false, i10, i20, i30, in01, bnd, cl0, up0, s_IS_IA, s_IS_IO, s_IA_IS, s_IA_IO, s_IO_IS, s_IO_IA]
  · subst h3
    exact ⟨((w.1.1, vp_updL w.1.2 0 a.toInt64), m2), by simp only [law_C17, L_parts, h1, h2, h4, Sum.elim_inr, Option.bind_some, X9_thrown, if_true, if_false, i10, i20, i30, in01, bnd, cl0, up0, s_IS_IA, s_IS_IO, s_IA_IS, s_IA_IO, s_IO_IS, s_IO_IA], h5⟩
theorem law_18 {w : ZW} (h : Gl w.1.1 w.2) (x1 x2 x3 : Int32) : ∃ w2, law_C18 x1 x2 x3 w = some w2 ∧ Gl w2.1.1 w2.2 := by
  rcases o_clique h x1 with ⟨e, k, v, w1, m2, h1, h2, h3, h4, h5⟩ | ⟨a, w1, m2, h1, h2, h3, h4⟩
  · refine ⟨((w1, w.1.2), m2), ?_, h4⟩
    rcases h5 with ⟨rfl, rfl⟩ | ⟨rfl, rfl⟩ <;> simp only [law_C18, L_clique, h1, h2, h3, Sum.elim_inl, Option.bind_some, X9_thrown, if_true, if_false, i10, i20, i30, in01, bnd, cl0, up0, s_IS_IA, s_IS_IO, s_IA_IS, s_IA_IO, s_IO_IS, s_IO_IA]
  · exact ⟨((w1, vp_updL w.1.2 0 a.toInt64), m2), by simp only [law_C18, L_clique, h1, h2, h3, Sum.elim_inr, Option.bind_some, X9_thrown, if_true, if_false, i10, i20, i30, in01, bnd, cl0, up0, s_IS_IA, s_IS_IO, s_IA_IS, s_IA_IO, s_IO_IS, s_IO_IA], h4⟩
theorem law_19 {w : ZW} (h : Gl w.1.1 w.2) (x1 x2 x3 : Int32) : ∃ w2, law_C19 x1 x2 x3 w = some w2 ∧ Gl w2.1.1 w2.2 := by
  rcases o_cliqueAt h x1 x2 with ⟨e, k, v, w1, m2, h1, h2, h3, h4, h5⟩ | ⟨a, w1, m2, h1, h2, h3, h4⟩
  · refine ⟨((w1, w.1.2), m2), ?_, h4⟩
    rcases h5 with ⟨rfl, rfl⟩ | ⟨rfl, rfl⟩ <;> simp only [law_C19, L_cliqueAt, h1, h2, h3, Sum.elim_inl, Option.bind_some, X9_thrown, if_true, if_false, i10, i20, i30, in01, bnd, cl0, up0, s_IS_IA, s_IS_IO, s_IA_IS, s_IA_IO, s_IO_IS, s_IO_IA]
  · exact ⟨((w1, vp_updL w.1.2 0 a.toInt64), m2), by simp only [law_C19, L_cliqueAt, h1, h2, h3, Sum.elim_inr, Option.bind_some, X9_thrown, if_true, if_false, i10, i20, i30, in01, bnd, cl0, up0, s_IS_IA, s_IS_IO, s_IA_IS, s_IA_IO, s_IO_IS, s_IO_IA], h4⟩
theorem law_20 {w : ZW} (h : Gl w.1.1 w.2) (x1 x2 x3 : Int32) : ∃ w2, law_C20 x1 x2 x3 w = some w2 ∧ Gl w2.1.1 w2.2 := by
  rcases o_same h x1 x2 with ⟨e, k, v, m2, h1, h2, h3, h4, h5⟩ | ⟨a, b, m2, h1, h2, h3, h4, h5⟩
  · refine ⟨((w.1.1, w.1.2), m2), ?_, h4⟩
    rcases h5 with ⟨rfl, rfl⟩ | ⟨rfl, rfl⟩ <;> simp only [law_C20, L_same, h1, h2, h3, Sum.elim_inl, Option.bind_some, X9_thrown, if_true, if_false, i10, i20, i30, in01, bnd, cl0, up0, s_IS_IA, s_IS_IO, s_IA_IS, s_IA_IO, s_IO_IS, s_IO_IA]
  · subst h3
    by_cases e : a = 0
    · exact ⟨((w.1.1, vp_updL w.1.2 0 0), m2), by simp only [law_C20, L_same, L_same_J16, L_law_J1372, h1, h2, h4, e, Sum.elim_inr, Option.bind_some, X9_thrown, if_true, if_false, i10, i20, i30, in01, bnd, cl0, up0, s_IS_IA, s_IS_IO, s_IA_IS, s_IA_IO, s_IO_IS, s_IO_IA], h5⟩
    · exact ⟨((w.1.1, vp_updL w.1.2 0 1), m2), by simp only [law_C20, L_same, L_same_J16, L_law_J1372, h1, h2, h4, e, Sum.elim_inr, Option.bind_some, X9_thrown, if_true, if_false, i10, i20, i30, in01, bnd, cl0, up0, s_IS_IA, s_IS_IO, s_IA_IS, s_IA_IO, s_IO_IS, s_IO_IA], h5⟩
theorem law_21 {w : ZW} (h : Gl w.1.1 w.2) (x1 x2 x3 : Int32) : ∃ w2, law_C21 x1 x2 x3 w = some w2 ∧ Gl w2.1.1 w2.2 := by
  rcases o_put h x1 x2 with ⟨e, k, w1, m2, h1, h2, h3, h4, h5⟩ | ⟨w1, m2, h1, h2, h3, h4⟩
  · refine ⟨((w1, w.1.2), m2), ?_, h4⟩
    rcases h5 with ⟨rfl, rfl⟩ | ⟨rfl, rfl⟩ | ⟨rfl, rfl⟩ <;> simp only [law_C21, L_put, h1, h2, h3, Sum.elim_inl, Option.bind_some, X9_thrown, if_true, if_false, i10, i20, i30, in01, bnd, cl0, up0, s_IS_IA, s_IS_IO, s_IA_IS, s_IA_IO, s_IO_IS, s_IO_IA]
  · exact ⟨((w1, w.1.2), m2), by simp only [law_C21, L_put, h1, h2, h3, Sum.elim_inr, Option.bind_some, X9_thrown, if_true, if_false, i10, i20, i30, in01, bnd, cl0, up0, s_IS_IA, s_IS_IO, s_IA_IS, s_IA_IO, s_IO_IS, s_IO_IA], h4⟩
theorem law_22 {w : ZW} (h : Gl w.1.1 w.2) (x1 x2 x3 : Int32) : ∃ w2, law_C22 x1 x2 x3 w = some w2 ∧ Gl w2.1.1 w2.2 := by
  rcases o_back h  with ⟨e, k, v, w1, m2, h1, h2, h3, h4, h5⟩ | ⟨a, w1, m2, h1, h2, h3, h4⟩
  · refine ⟨((w1, w.1.2), m2), ?_, h4⟩
    obtain ⟨rfl, rfl⟩ := h5
    simp only [law_C22, L_back, h1, h2, h3, Sum.elim_inl, Option.bind_some, X9_thrown, if_true, if_false, i10, i20, i30, in01, bnd, cl0, up0, s_IS_IA, s_IS_IO, s_IA_IS, s_IA_IO, s_IO_IS, s_IO_IA]
  · exact ⟨((w1, vp_updL w.1.2 0 a.toInt64), m2), by simp only [law_C22, L_back, h1, h2, h3, Sum.elim_inr, Option.bind_some, X9_thrown, if_true, if_false, i10, i20, i30, in01, bnd, cl0, up0, s_IS_IA, s_IS_IO, s_IA_IS, s_IA_IO, s_IO_IS, s_IO_IA], h4⟩
theorem law_23 {w : ZW} (h : Gl w.1.1 w.2) (x1 x2 x3 : Int32) : ∃ w2, law_C23 x1 x2 x3 w = some w2 ∧ Gl w2.1.1 w2.2 := by
  rcases o_at h x1 with ⟨e, k, v, m2, h1, h2, h3, h4, h5⟩ | ⟨a, b, m2, h1, h2, h3, h4, h5⟩
  · refine ⟨((w.1.1, w.1.2), m2), ?_, h4⟩
    rcases h5 with ⟨rfl, rfl⟩ | ⟨rfl, rfl⟩ <;> simp only [law_C23, L_at, h1, h2, h3, Sum.elim_inl, Option.bind_some, X9_thrown, if_true, if_false, i10, i20, i30, in01, bnd, cl0, up0, s_IS_IA, s_IS_IO, s_IA_IS, s_IA_IO, s_IO_IS, s_IO_IA]
  · subst h3
    exact ⟨((w.1.1, vp_updL w.1.2 0 a.toInt64), m2), by simp only [law_C23, L_at, h1, h2, h4, Sum.elim_inr, Option.bind_some, X9_thrown, if_true, if_false, i10, i20, i30, in01, bnd, cl0, up0, s_IS_IA, s_IS_IO, s_IA_IS, s_IA_IO, s_IO_IS, s_IO_IA], h5⟩
theorem law_24 {w : ZW} (h : Gl w.1.1 w.2) (x1 x2 x3 : Int32) : ∃ w2, law_C24 x1 x2 x3 w = some w2 ∧ Gl w2.1.1 w2.2 := by
  rcases o_value h  with ⟨e, k, v, m2, h1, h2, h3, h4, h5⟩ | ⟨a, b, m2, h1, h2, h3, h4, h5⟩
  · refine ⟨((w.1.1, w.1.2), m2), ?_, h4⟩
    obtain ⟨rfl, rfl⟩ := h5
    simp only [law_C24, L_value, h1, h2, h3, Sum.elim_inl, Option.bind_some, X9_thrown, if_true, if_false, i10, i20, i30, in01, bnd, cl0, up0, s_IS_IA, s_IS_IO, s_IA_IS, s_IA_IO, s_IO_IS, s_IO_IA]
  · subst h3
    exact ⟨((w.1.1, vp_updL w.1.2 0 a), m2), by simp only [law_C24, L_value, h1, h2, h4, Sum.elim_inr, Option.bind_some, X9_thrown, if_true, if_false, i10, i20, i30, in01, bnd, cl0, up0, s_IS_IA, s_IS_IO, s_IA_IS, s_IA_IO, s_IO_IS, s_IO_IA], h5⟩
theorem law_25 {w : ZW} (h : Gl w.1.1 w.2) (x1 x2 x3 : Int32) : ∃ w2, law_C25 x1 x2 x3 w = some w2 ∧ Gl w2.1.1 w2.2 := by
  have core : ∀ q : Bool, law_C25 x1 x2 x3 w = ((L_best w.1 (bI q)).bind (fun r1588 : Int32 × LW => L_law_J1608 (r1588.2, w.2) r1588.1 (bI q))) → ∃ w2, law_C25 x1 x2 x3 w = some w2 ∧ Gl w2.1.1 w2.2 := fun q eq => by
    rw [eq]
    rcases o_best h q with ⟨e, k, v, w1, m2, h1, h2, h3, h4, h5⟩ | ⟨a, w1, m2, h1, h2, h3, h4⟩
    · refine ⟨((w1, w.1.2), m2), ?_, h4⟩
      obtain ⟨rfl, rfl⟩ := h5
      simp only [L_law_J1608, L_best, h1, h2, h3, Sum.elim_inl, Option.bind_some, X9_thrown, if_true, if_false, i10, i20, i30, in01, bnd, cl0, up0, s_IS_IA, s_IS_IO, s_IA_IS, s_IA_IO, s_IO_IS, s_IO_IA]
    · exact ⟨((w1, vp_updL w.1.2 0 a.toInt64), m2), by simp only [L_law_J1608, L_best, h1, h2, h3, Sum.elim_inr, Option.bind_some, X9_thrown, if_true, if_false, i10, i20, i30, in01, bnd, cl0, up0, s_IS_IA, s_IS_IO, s_IA_IS, s_IA_IO, s_IO_IS, s_IO_IA], h4⟩
  by_cases e : x1 = 0
  · exact core false (by simp only [law_C25, L_law_J1587, e, if_true, show bI false = 0 from rfl])
  · exact core true (by simp only [law_C25, L_law_J1587, e, if_false, show bI true = 1 from rfl])
theorem law_26 {w : ZW} (h : Gl w.1.1 w.2) (x1 x2 x3 : Int32) : ∃ w2, law_C26 x1 x2 x3 w = some w2 ∧ Gl w2.1.1 w2.2 := by
  rcases o_bestValue h  with ⟨e, k, v, m2, h1, h2, h3, h4, h5⟩ | ⟨a, b, m2, h1, h2, h3, h4, h5⟩
  · refine ⟨((w.1.1, w.1.2), m2), ?_, h4⟩
    obtain ⟨rfl, rfl⟩ := h5
    simp only [law_C26, L_bestValue, h1, h2, h3, Sum.elim_inl, Option.bind_some, X9_thrown, if_true, if_false, i10, i20, i30, in01, bnd, cl0, up0, s_IS_IA, s_IS_IO, s_IA_IS, s_IA_IO, s_IO_IS, s_IO_IA]
  · subst h3
    exact ⟨((w.1.1, vp_updL w.1.2 0 a), m2), by simp only [law_C26, L_bestValue, h1, h2, h4, Sum.elim_inr, Option.bind_some, X9_thrown, if_true, if_false, i10, i20, i30, in01, bnd, cl0, up0, s_IS_IA, s_IS_IO, s_IA_IS, s_IA_IO, s_IO_IS, s_IO_IA], h5⟩
theorem law_27 {w : ZW} (h : Gl w.1.1 w.2) (x1 x2 x3 : Int32) : ∃ w2, law_C27 x1 x2 x3 w = some w2 ∧ Gl w2.1.1 w2.2 := by
  rcases o_bestAt h x1 with ⟨e, k, v, m2, h1, h2, h3, h4, h5⟩ | ⟨a, b, m2, h1, h2, h3, h4, h5⟩
  · refine ⟨((w.1.1, w.1.2), m2), ?_, h4⟩
    rcases h5 with ⟨rfl, rfl⟩ | ⟨rfl, rfl⟩ <;> simp only [law_C27, L_bestAt, h1, h2, h3, Sum.elim_inl, Option.bind_some, X9_thrown, if_true, if_false, i10, i20, i30, in01, bnd, cl0, up0, s_IS_IA, s_IS_IO, s_IA_IS, s_IA_IO, s_IO_IS, s_IO_IA]
  · subst h3
    exact ⟨((w.1.1, vp_updL w.1.2 0 a.toInt64), m2), by simp only [law_C27, L_bestAt, h1, h2, h4, Sum.elim_inr, Option.bind_some, X9_thrown, if_true, if_false, i10, i20, i30, in01, bnd, cl0, up0, s_IS_IA, s_IS_IO, s_IA_IS, s_IA_IO, s_IO_IS, s_IO_IA], h5⟩
theorem law_step {w : ZW} (h : Gl w.1.1 w.2) (x0 x1 x2 x3 : Int32) : ∃ w2, lawStep x0 x1 x2 x3 w = some w2 ∧ Gl w2.1.1 w2.2 := by
  unfold lawStep
  by_cases e0 : x0 &&& 31 = 0
  · rw [if_pos e0]; exact law_0 h x1 x2 x3
  rw [if_neg e0]
  by_cases e1 : x0 &&& 31 = 1
  · rw [if_pos e1]; exact law_1 h x1 x2 x3
  rw [if_neg e1]
  by_cases e2 : x0 &&& 31 = 2
  · rw [if_pos e2]; exact law_2 h x1 x2 x3
  rw [if_neg e2]
  by_cases e3 : x0 &&& 31 = 3
  · rw [if_pos e3]; exact law_3 h x1 x2 x3
  rw [if_neg e3]
  by_cases e4 : x0 &&& 31 = 4
  · rw [if_pos e4]; exact law_4 h x1 x2 x3
  rw [if_neg e4]
  by_cases e5 : x0 &&& 31 = 5
  · rw [if_pos e5]; exact law_5 h x1 x2 x3
  rw [if_neg e5]
  by_cases e6 : x0 &&& 31 = 6
  · rw [if_pos e6]; exact law_6 h x1 x2 x3
  rw [if_neg e6]
  by_cases e7 : x0 &&& 31 = 7
  · rw [if_pos e7]; exact law_7 h x1 x2 x3
  rw [if_neg e7]
  by_cases e8 : x0 &&& 31 = 8
  · rw [if_pos e8]; exact law_8 h x1 x2 x3
  rw [if_neg e8]
  by_cases e9 : x0 &&& 31 = 9
  · rw [if_pos e9]; exact law_9 h x1 x2 x3
  rw [if_neg e9]
  by_cases e10 : x0 &&& 31 = 10
  · rw [if_pos e10]; exact law_10 h x1 x2 x3
  rw [if_neg e10]
  by_cases e11 : x0 &&& 31 = 11
  · rw [if_pos e11]; exact law_11 h x1 x2 x3
  rw [if_neg e11]
  by_cases e12 : x0 &&& 31 = 12
  · rw [if_pos e12]; exact law_12 h x1 x2 x3
  rw [if_neg e12]
  by_cases e13 : x0 &&& 31 = 13
  · rw [if_pos e13]; exact law_13 h x1 x2 x3
  rw [if_neg e13]
  by_cases e14 : x0 &&& 31 = 14
  · rw [if_pos e14]; exact law_14 h x1 x2 x3
  rw [if_neg e14]
  by_cases e15 : x0 &&& 31 = 15
  · rw [if_pos e15]; exact law_15 h x1 x2 x3
  rw [if_neg e15]
  by_cases e16 : x0 &&& 31 = 16
  · rw [if_pos e16]; exact law_16 h x1 x2 x3
  rw [if_neg e16]
  by_cases e17 : x0 &&& 31 = 17
  · rw [if_pos e17]; exact law_17 h x1 x2 x3
  rw [if_neg e17]
  by_cases e18 : x0 &&& 31 = 18
  · rw [if_pos e18]; exact law_18 h x1 x2 x3
  rw [if_neg e18]
  by_cases e19 : x0 &&& 31 = 19
  · rw [if_pos e19]; exact law_19 h x1 x2 x3
  rw [if_neg e19]
  by_cases e20 : x0 &&& 31 = 20
  · rw [if_pos e20]; exact law_20 h x1 x2 x3
  rw [if_neg e20]
  by_cases e21 : x0 &&& 31 = 21
  · rw [if_pos e21]; exact law_21 h x1 x2 x3
  rw [if_neg e21]
  by_cases e22 : x0 &&& 31 = 22
  · rw [if_pos e22]; exact law_22 h x1 x2 x3
  rw [if_neg e22]
  by_cases e23 : x0 &&& 31 = 23
  · rw [if_pos e23]; exact law_23 h x1 x2 x3
  rw [if_neg e23]
  by_cases e24 : x0 &&& 31 = 24
  · rw [if_pos e24]; exact law_24 h x1 x2 x3
  rw [if_neg e24]
  by_cases e25 : x0 &&& 31 = 25
  · rw [if_pos e25]; exact law_25 h x1 x2 x3
  rw [if_neg e25]
  by_cases e26 : x0 &&& 31 = 26
  · rw [if_pos e26]; exact law_26 h x1 x2 x3
  rw [if_neg e26]
  by_cases e27 : x0 &&& 31 = 27
  · rw [if_pos e27]; exact law_27 h x1 x2 x3
  rw [if_neg e27]
  exact ⟨w, rfl, h⟩
