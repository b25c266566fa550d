/-! rows and terms told, all cleared -/
section SL
variable {w : CW} {m : MW}
theorem o_row (h : Gl w m) (a b : Int32) : OpW (X8_row w a b) (X9_row m a b) Ksa := by
  have h' := h
  obtain ⟨C, R, hW, -⟩ := h'
  obtain ⟨⟨d1, d2, d3, d4, d5, d6⟩, hc, hr, ha, hz, hst⟩ := hW
  have g2 := wi_iff (L := 1000000) (by omega) (a := b)
  rw [show Int64.ofNat 1000000 = 1000000 from rfl] at g2
  have e1 : X9_within a.toInt64 0 1 = some (if ins 2 a then 1 else 0) := rf_in (C := 2) (by omega) a
  have e2 : X9_within b.toInt64 (-1000000) 1000000 = some (if wi 1000000 b.toInt64 = true then 1 else 0) := rf_wi b.toInt64 1000000
  have k01 : ins 2 a ↔ (a = 0 ∨ a = 1) := by
    constructor
    · intro z
      obtain ⟨c, hc, rfl⟩ := ins_get z (by omega)
      have : c = 0 ∨ c = 1 := by omega
      rcases this with rfl | rfl
      · exact Or.inl rfl
      · exact Or.inr rfl
    · rintro (rfl | rfl)
      · exact ins_nI (c := 0) (by omega) (by omega)
      · exact ins_nI (c := 1) (by omega) (by omega)
  have jf : ∀ f, X9_row_J15 a b m f = X9_row_J44 a b m f (if ins 2 a ∧ wi 1000000 b.toInt64 = true then 0 else 1) := fun f => by
    simp only [X9_row_J15, e1, e2, Option.bind_some, X9_row_J39]
    by_cases q1 : ins 2 a
    · by_cases q2 : wi 1000000 b.toInt64 = true
      · simp only [q1, q2, if_true, i10, if_false, Bool.false_eq_true, and_self]
      · simp only [q1, q2, if_true, i10, if_false, Bool.false_eq_true, and_false]
    · simp only [q1, if_true, if_false, Bool.false_eq_true, false_and]
  by_cases hR : R < 12
  · have r12 : ¬ gM_rows m = 12 := by rw [d4, show (12 : Int32) = nI 12 from rfl, neq (by omega) (by omega)]; omega
    have rl12 : gT_rows (gC_whole w) < 12 := by rw [d2, show (12 : Int32) = nI 12 from rfl, nlt (by omega) (by omega)]; omega
    by_cases hg : ins 2 a ∧ wi 1000000 b.toInt64 = true
    · obtain ⟨q1, q2⟩ := hg
      have jfy := jf 0
      rw [if_pos ⟨q1, q2⟩] at jfy
      obtain ⟨f, f1, f2, f3⟩ := rf_rowLoop (sM_rights (sM_kinds (sM_thrown m 0) (upd (gM_kinds m) R a)) (upd (gM_rights m) R b)) hR d4
      obtain ⟨p, p1, p2⟩ := rf_endSmall (sM_rows (sM_coefficients (sM_rights (sM_kinds (sM_thrown m 0) (upd (gM_kinds m) R a)) (upd (gM_rights m) R b)) f) (nI (R + 1)))
      have x3 : gM_rows (sM_thrown m 0) = nI R := d4
      have x4 : gM_rows (sM_kinds (sM_thrown m 0) (upd (gM_kinds (sM_thrown m 0)) R a)) = nI R := d4
      have x6 : gM_rows (sM_coefficients (sM_rights (sM_kinds (sM_thrown m 0) (upd (gM_kinds m) R a)) (upd (gM_rights m) R b)) f) = nI R := d4
      refine Or.inr ⟨nI R, (sC_whole (sC_hasBest (sC_hasTurned (sC_putColumns (sC_hasSmall w 0) 0) 0) 0) (sT_rows (sT_right (sT_kind (gC_whole w) (upd (gT_kind (gC_whole w)) R a)) (vp_updL (gT_right (gC_whole w)) R b.toInt64)) (nI (R + 1)))), sM_hasBest (sM_isTurned (sM_isPut (sM_isSmall (sM_rows (sM_coefficients (sM_rights (sM_kinds (sM_thrown m 0) (upd (gM_kinds m) R a)) (upd (gM_rights m) R b)) f) (nI (R + 1))) 0) p) 0) 0, ?_, ?_, rfl, ?_⟩
      · have y1 : gT_rows (gC_whole (sC_hasBest (sC_hasTurned (sC_putColumns (sC_hasSmall w 0) 0) 0) 0)) = nI R := d2
        have ej : X8_row w a b = X8_row_J31 a b w := by
          simp only [X8_row, rl12, if_true]
          rcases k01.mp q1 with e | e
          · rw [if_pos e]
          · rw [if_pos e]; split <;> rfl
        rw [ej]
        simp only [X8_row_J31, cl_bey, q2, if_true, Option.bind_some, cl_endSmall, y1, inR12 hR, cl12 hR, bnd, nI_1]
      · have y2 : gM_rows (sM_hasBest (sM_isTurned (sM_isPut (sM_isSmall (sM_rows (sM_coefficients (sM_rights (sM_kinds (sM_thrown m 0) (upd (gM_kinds m) R a)) (upd (gM_rights m) R b)) f) (nI (R + 1))) 0) p) 0) 0) = nI (R + 1) := rfl
        have y3 : nI (R + 1) - 1 = nI R := by rw [← nI_1]; exact Int32.add_sub_cancel _ _
        have f1' : iter (X9_row_L74) 5000 (sM_rights (sM_kinds (sM_thrown m 0) (upd (gM_kinds (sM_thrown m 0)) R a)) (upd (gM_rights (sM_kinds (sM_thrown m 0) (upd (gM_kinds (sM_thrown m 0)) R a))) R b), 0) = _ := f1
        simp only [X9_row, r12, if_false, Bool.false_eq_true, jfy, X9_row_J44, ps_00, Option.bind_some, i10, x3, inR12 hR, cl12 hR, if_true, bnd, x4, f1', x6, nI_1, p1, y2, y3]
      · refine Gl_fresh (C := C) (R := R + 1) ⟨⟨d1, rfl, d3, rfl, d5, by omega⟩, hc, ?_, ?_, ?_, hst⟩ ⟨⟨rfl, rfl, rfl, rfl⟩, rfl, p2, rfl, rfl⟩
        · intro r hr'
          unfold whR
          show (upd (gT_kind (gC_whole w)) R a r = upd (gM_kinds m) R a r ∧ vp_updL (gT_right (gC_whole w)) R b.toInt64 r = (upd (gM_rights m) R b r).toInt64) ∧ (upd (gM_kinds m) R a r = 0 ∨ upd (gM_kinds m) R a r = 1) ∧ -1000000 ≤ (upd (gM_rights m) R b r).toInt ∧ (upd (gM_rights m) R b r).toInt ≤ 1000000
          unfold vp_updL upd
          by_cases e : r = R
          · simp only [e, if_true]
            have h2 := g2.mp q2
            exact ⟨⟨trivial, trivial⟩, k01.mp q1, by omega⟩
          · simp only [e, if_false, Bool.false_eq_true]
            exact hr r (by omega)
        · intro r c hr' hc'
          unfold whA
          show gT_a (gC_whole w) r c = (f (12 * r + c)).toInt64 ∧ -1000 ≤ (f (12 * r + c)).toInt ∧ (f (12 * r + c)).toInt ≤ 1000
          by_cases e : r = R
          · rw [e, f2 c (by omega), hz R c (by omega) (by omega) (Or.inl (Nat.le_refl _))]
            exact ⟨rfl, by decide, by decide⟩
          · rw [f3 r c (by omega) (by omega) e]
            exact ha r c (by omega) hc'
        · intro r c hr' hc' ho
          exact hz r c hr' hc' (by omega)
    · have jfy := jf 0
      rw [if_neg hg] at jfy
      refine Or.inl ⟨"java/lang/IllegalArgumentException", 2, 0, w, sM_thrown m 2, ?_, ?_, rfl, Gl_thrown h 2, Or.inr ⟨rfl, rfl⟩⟩
      · simp only [X8_row, rl12, if_true, X8_row_J42]
        by_cases q1 : ins 2 a
        · have q2 : ¬ wi 1000000 b.toInt64 = true := fun z => hg ⟨q1, z⟩
          have ej : X8_row_J31 a b w = some (.inl ("java/lang/IllegalArgumentException", w)) := by
            simp only [X8_row_J31, cl_bey, q2, if_false, Bool.false_eq_true, Option.bind_some, i10, X8_row_J42, Bool.false_eq_true]
          rw [ej]
          rcases k01.mp q1 with e | e
          · rw [if_pos e]
          · rw [if_pos e]; split <;> rfl
        · have n0 : ¬ a = 0 := fun z => q1 (k01.mpr (Or.inl z))
          have n1 : ¬ a = 1 := fun z => q1 (k01.mpr (Or.inr z))
          rw [if_neg n0, if_neg n1]
      · simp only [X9_row, r12, if_false, Bool.false_eq_true, jfy, X9_row_J44, ps_01, Option.bind_some, if_true]
  · have e : R = 12 := by omega
    subst e
    have r12 : gM_rows m = 12 := d4
    have rl12 : ¬ gT_rows (gC_whole w) < 12 := by rw [d2]; decide
    refine Or.inl ⟨"java/lang/IllegalStateException", 1, 0, w, sM_thrown m 1, by simp only [X8_row, rl12, if_false, Bool.false_eq_true], ?_, rfl, Gl_thrown h 1, Or.inl ⟨rfl, rfl⟩⟩
    simp only [X9_row, r12, if_true, jf, X9_row_J44, ps_1, Option.bind_some]
theorem o_term (h : Gl w m) (a b k : Int32) : OpU (X8_term w a b k) (X9_term m a b k) Kia := by
  have h' := h
  obtain ⟨C, R, hW, -⟩ := h'
  have hW' := hW
  obtain ⟨⟨d1, d2, d3, d4, d5, d6⟩, hc, hr, ha, hz, hst⟩ := hW'
  have g3 := wi_iff (L := 1000) (by omega) (a := k)
  rw [show Int64.ofNat 1000 = 1000 from rfl] at g3
  have e3 : X9_within k.toInt64 (-1000) 1000 = some (if wi 1000 k.toInt64 = true then 1 else 0) := rf_wi k.toInt64 1000
  have jn : X9_term_J22 a b k m 1 = some (sM_thrown m 1) := by
    simp only [X9_term_J22, e3, Option.bind_some, X9_term_J41, ps_1, if_true, ite_self]
  by_cases hi : ins R a
  · by_cases hj : ins C b
    · obtain ⟨r, hr', rfl⟩ := ins_get hi (by omega)
      obtain ⟨c, hc', rfl⟩ := ins_get hj (by omega)
      have hc12 : c < 12 := by omega
      have hr12 : r < 12 := by omega
      by_cases q : wi 1000 k.toInt64 = true
      · obtain ⟨p, p1, p2⟩ := rf_endSmall (sM_coefficients (sM_thrown m 0) (upd (gM_coefficients m) (12 * r + c) k))
        refine Or.inr ⟨(sC_whole (sC_hasBest (sC_hasTurned (sC_putColumns (sC_hasSmall w 0) 0) 0) 0) (sT_a (gC_whole w) (va_up (gT_a (gC_whole w)) r (vp_updL (gT_a (gC_whole w) r) c k.toInt64)))), sM_hasBest (sM_isTurned (sM_isPut (sM_isSmall (sM_coefficients (sM_thrown m 0) (upd (gM_coefficients m) (12 * r + c) k)) 0) p) 0) 0, ?_, ?_, rfl, ?_⟩
        · simp only [X8_term, cl_nRow hW, hi, if_true, Option.bind_some, Sum.elim_inr, cl_nCol hW, hj, cl_bey, q, cl_endSmall, inR12 hr12, cl12 hr12, inR12 hc12, cl12 hc12, bnd]
        · have p1' : X9_endSmall (sM_coefficients (sM_thrown m 0) (upd (gM_coefficients (sM_thrown m 0)) (12 * r + c) k)) = _ := p1
          simp only [X9_term, rf_isRow hW, hi, if_true, Option.bind_some, i10, if_false, Bool.false_eq_true, rf_isCol hW, hj, X9_term_J22, e3, q, X9_term_J41, ps_00, ix144, inR144 hr12 hc12, cl144 hr12 hc12, bnd, p1']
        · refine Gl_fresh (C := C) (R := R) ⟨⟨d1, d2, d3, d4, d5, d6⟩, hc, hr, ?_, ?_, hst⟩ ⟨⟨rfl, rfl, rfl, rfl⟩, rfl, p2, rfl, rfl⟩
          · intro r' c' hr2 hc2
            unfold whA
            show va_up (gT_a (gC_whole w)) r (vp_updL (gT_a (gC_whole w) r) c k.toInt64) r' c' = (upd (gM_coefficients m) (12 * r + c) k (12 * r' + c')).toInt64 ∧ -1000 ≤ (upd (gM_coefficients m) (12 * r + c) k (12 * r' + c')).toInt ∧ (upd (gM_coefficients m) (12 * r + c) k (12 * r' + c')).toInt ≤ 1000
            by_cases e1 : r' = r
            · subst e1
              rw [va_up_self]
              unfold vp_updL upd
              by_cases e2 : c' = c
              · subst e2
                simp only [if_true]
                have := g3.mp q
                exact ⟨trivial, by omega⟩
              · rw [if_neg e2, if_neg (by omega)]
                exact ha r' c' hr2 hc2
            · rw [va_up_ne _ _ e1]
              unfold upd
              rw [if_neg (by omega)]
              exact ha r' c' hr2 hc2
          · intro r' c' hr2 hc2 ho
            show va_up (gT_a (gC_whole w)) r (vp_updL (gT_a (gC_whole w) r) c k.toInt64) r' c' = 0
            by_cases e1 : r' = r
            · subst e1
              rw [va_up_self]
              unfold vp_updL
              rw [if_neg (by omega)]
              exact hz r' c' hr2 hc2 ho
            · rw [va_up_ne _ _ e1]
              exact hz r' c' hr2 hc2 ho
      · refine Or.inl ⟨"java/lang/IllegalArgumentException", 2, w, sM_thrown m 2, ?_, ?_, rfl, Gl_thrown h 2, Or.inr ⟨rfl, rfl⟩⟩
        · simp only [X8_term, cl_nRow hW, hi, if_true, Option.bind_some, Sum.elim_inr, cl_nCol hW, hj, cl_bey, q, if_false, Bool.false_eq_true, i10, Bool.false_eq_true]
        · simp only [X9_term, rf_isRow hW, hi, if_true, Option.bind_some, i10, if_false, Bool.false_eq_true, rf_isCol hW, hj, X9_term_J22, e3, q, X9_term_J41, ps_01, Bool.false_eq_true]
    · exact Or.inl ⟨"java/lang/IndexOutOfBoundsException", 1, w, sM_thrown m 1, by simp only [X8_term, cl_nRow hW, hi, if_true, Option.bind_some, Sum.elim_inr, cl_nCol hW, hj, if_false, Bool.false_eq_true, Sum.elim_inl], by simp only [X9_term, rf_isRow hW, hi, if_true, Option.bind_some, i10, if_false, Bool.false_eq_true, rf_isCol hW, hj, X9_term_J17, jn], rfl, Gl_thrown h 1, Or.inl ⟨rfl, rfl⟩⟩
  · exact Or.inl ⟨"java/lang/IndexOutOfBoundsException", 1, w, sM_thrown m 1, by simp only [X8_term, cl_nRow hW, hi, if_false, Bool.false_eq_true, Option.bind_some, Sum.elim_inl], by simp only [X9_term, rf_isRow hW, hi, if_false, Bool.false_eq_true, Option.bind_some, if_true, X9_term_J17, jn], rfl, Gl_thrown h 1, Or.inl ⟨rfl, rfl⟩⟩
theorem cl_empty (w : CW) : ∃ A, X6_makeEmpty w = some (sC_whole w (sT_a (sT_rows (sT_columns (gC_whole w) 0) 0) A)) ∧ ∀ r c, r < 12 → c < 12 → A r c = 0 := by
  have inner : ∀ (w1 : CW) (i : Nat), i < 12 → ∃ A, iter (X6_makeEmpty_L20 (w1, nI i)) 5000 (w1, 0) = some (sC_whole w1 (sT_a (gC_whole w1) A)) ∧ (∀ c, c < 12 → A i c = 0) ∧ ∀ r, r ≠ i → A r = gT_a (gC_whole w1) r := fun w1 i hi => by
    obtain ⟨e, q1, A, q2, q3, q4⟩ := iter_run (step := X6_makeEmpty_L20 (w1, nI i)) (fun d s => ∃ j A, j + d = 12 ∧ s = (sC_whole w1 (sT_a (gC_whole w1) A), nI j) ∧ (∀ c, c < j → A i c = 0) ∧ ∀ r, r ≠ i → A r = gT_a (gC_whole w1) r) (fun e => ∃ A, e = sC_whole w1 (sT_a (gC_whole w1) A) ∧ (∀ c, c < 12 → A i c = 0) ∧ ∀ r, r ≠ i → A r = gT_a (gC_whole w1) r) (fun d s hs => by
      obtain ⟨j, A, hid, rfl, h1, h2⟩ := hs
      by_cases hj : j < 12
      · refine Or.inl ⟨_, by simp only [X6_makeEmpty_L20, show ¬ (12 : Int32) ≤ nI j from nC_le (C := 12) (by omega) hj, if_false, Bool.false_eq_true, inR12 hi, cl12 hi, inR12 hj, cl12 hj, if_true, bnd, nI_1] <;> rfl, d - 1, by omega, j + 1, va_up A i (vp_updL (A i) j 0), by omega, rfl, fun c hc => ?_, fun r hr => ?_⟩
        · rw [va_up_self]
          unfold vp_updL
          by_cases e : c = j
          · rw [if_pos e]
          · rw [if_neg e]; exact h1 c (by omega)
        · rw [va_up_ne _ _ hr]; exact h2 r hr
      · have : j = 12 := by omega
        subst this
        exact Or.inr ⟨_, by simp only [X6_makeEmpty_L20, show (12 : Int32) ≤ nI 12 from by decide, if_true], A, rfl, h1, h2⟩) 12 5000 (w1, 0) (by omega) ⟨0, gT_a (gC_whole w1), by omega, rfl, fun c hc => by omega, fun _ _ => rfl⟩
    subst q2
    exact ⟨A, q1, q3, q4⟩
  obtain ⟨e, q1, A, q2, q3⟩ := iter_run (step := X6_makeEmpty_L12) (fun d s => ∃ i A, i + d = 12 ∧ s = (sC_whole w (sT_a (sT_rows (sT_columns (gC_whole w) 0) 0) A), nI i) ∧ ∀ r c, r < i → c < 12 → A r c = 0) (fun e => ∃ A, e = sC_whole w (sT_a (sT_rows (sT_columns (gC_whole w) 0) 0) A) ∧ ∀ r c, r < 12 → c < 12 → A r c = 0) (fun d s hs => by
    obtain ⟨i, A, hid, rfl, h1⟩ := hs
    by_cases hi : i < 12
    · obtain ⟨A2, a1, a2, a3⟩ := inner (sC_whole w (sT_a (sT_rows (sT_columns (gC_whole w) 0) 0) A)) i hi
      refine Or.inl ⟨_, by simp only [X6_makeEmpty_L12, show ¬ (12 : Int32) ≤ nI i from nC_le (C := 12) (by omega) hi, if_false, Bool.false_eq_true, a1, Option.bind_some, nI_1] <;> rfl, d - 1, by omega, i + 1, A2, by omega, rfl, fun r c hr hc => ?_⟩
      by_cases e : r = i
      · rw [e]; exact a2 c hc
      · rw [a3 r e]; exact h1 r c (by omega) hc
    · have : i = 12 := by omega
      subst this
      exact Or.inr ⟨_, by simp only [X6_makeEmpty_L12, show (12 : Int32) ≤ nI 12 from by decide, if_true], A, rfl, h1⟩) 12 5000 (sC_whole (sC_whole w (sT_columns (gC_whole w) 0)) (sT_rows (gC_whole (sC_whole w (sT_columns (gC_whole w) 0))) 0), 0) (by omega) ⟨0, gT_a (gC_whole w), by omega, rfl, fun r c hr hc => by omega⟩
  subst q2
  exact ⟨A, by simp only [X6_makeEmpty, bnd, q1, Option.bind_some], q3⟩
theorem o_clear (h : Gl w m) : ∃ v w' m', X8_clear w = some (v, w') ∧ X9_clear m = some (v, m') ∧ Gl w' m' := by
  obtain ⟨C, R, hW, -⟩ := h
  obtain ⟨⟨d1, d2, d3, d4, d5, d6⟩, hc, hr, ha, hz, hst⟩ := hW
  obtain ⟨A, a1, a2⟩ := cl_empty (sC_hasBest (sC_hasTurned (sC_putColumns (sC_hasSmall w 0) 0) 0) 0)
  obtain ⟨p, p1, p2⟩ := rf_endSmall (sM_rows (sM_columns (sM_thrown m 0) 0) 0)
  refine ⟨nI C, _, sM_hasBest (sM_isTurned (sM_isPut (sM_isSmall (sM_rows (sM_columns (sM_thrown m 0) 0) 0) 0) p) 0) 0, by simp only [X8_clear, cl_endSmall, Option.bind_some, a1]; rw [show gT_columns (gC_whole (sC_hasBest (sC_hasTurned (sC_putColumns (sC_hasSmall w 0) 0) 0) 0)) = nI C from d1], ?_, ?_⟩
  · simp only [X9_clear, bnd, p1, Option.bind_some]
    rw [show gM_columns (sM_thrown m 0) = nI C from d3]
  · exact Gl_fresh (C := 0) (R := 0) ⟨⟨rfl, rfl, rfl, rfl, by omega, by omega⟩, fun c hc => by omega, fun r hr => by omega, fun r c hr => by omega, fun r c hr hc _ => a2 r c hr hc, hst⟩ ⟨⟨rfl, rfl, rfl, rfl⟩, rfl, p2, rfl, rfl⟩
end SL
