/-! cliques -/
def am (m : MW) (r c : Nat) : Int64 := if 0 ≤ tm m r c then tm m r c else -(tm m r c)
/-- the same term at a place of both orders -/
def vq (m : MW) (C r : Nat) (O Q : Nat → Int32) (j : Nat) : Prop := ∃ c, c < C ∧ O j = nI c ∧ Q j = nI c ∧ tm m r c ≠ 0
section SV
variable {C R : Nat} {F : FR} {N : Nat} {w : CW} {m : MW}
theorem cl_am (h : Rl C R F N w m) {r c : Nat} (hr : r < R) (hg : gM_gone m r = 0) (hc : c < C) (O : Nat → Int32) : X2_amount (sC_order w O) (nI r) (nI c) = some (am m r c) := by
  have hr12 : r < 12 := by have := h.R12; omega
  have hc12 : c < 12 := by have := h.C12; omega
  have ha : gT_a (gC_tab (sC_order w O)) r c = tm m r c := h.a hr hg hc
  simp only [X2_amount, inR12 hr12, cl12 hr12, inR12 hc12, cl12 hc12, if_true, ha, J9_abs_067f4, am]
  split <;> rfl
theorem rf_am (h : Rl C R F N w m) {r c : Nat} (hr : r < R) (hc : c < C) (ht : tm m r c ≠ 0) (Q : Nat → Int32) : X9_amount (sM_clique m Q) (nI r) (nI c) = some (am m r c) := by
  have hr12 : r < 12 := by have := h.R12; omega
  have hc12 : c < 12 := by have := h.C12; omega
  have ha : gM_coef (sM_clique m Q) (12 * r + c) = tm m r c := tm_coef ht
  simp only [X9_amount, ix144, inR144 hr12 hc12, cl144 hr12 hc12, if_true, ha, am]
  split <;> rfl
theorem s_shift (h : Rl C R F N w m) {r x : Nat} (hr : r < R) (hg : gM_gone m r = 0) (hx : x < C) (tx : tm m r x ≠ 0) {k : Nat} (hk : k < 12) (s1 : CW × Int32 × Int32) (s2 : MW × Int32 × Int32) (e1 : s1.2.2 = nI x) (e2 : s2.2.2 = nI x) : ∀ (p : Nat), p ≤ k → ∀ (O Q : Nat → Int32) (f : Nat), p < f → (∀ j, j ≤ k → j ≠ p → vq m C r O Q j) → ∃ O' Q' p', p' ≤ k ∧ iter (X2_sortBinaryTerms_L45 (nI r) s1) f (sC_order w O, nI p) = some (sC_order w O', nI p') ∧ iter (X9_cliqueOf_L52 (nI r) s2) f (sM_clique m Q, nI p) = some (sM_clique m Q', nI p') ∧ ∀ j, j ≤ k → j ≠ p' → vq m C r O' Q' j
  | 0, _, O, Q, f, hf, hv => ⟨O, Q, 0, by omega, iter_end (by
      have : nI 0 ≤ (0 : Int32) := by decide
      simp only [X2_sortBinaryTerms_L45, this, if_true]) hf, iter_end (by
      have : nI 0 ≤ (0 : Int32) := by decide
      simp only [X9_cliqueOf_L52, this, if_true]) hf, hv⟩
  | p + 1, hp, O, Q, f, hf, hv => by
    obtain ⟨f, rfl⟩ : ∃ g, f = g + 1 := ⟨f - 1, by omega⟩
    have hp12 : p < 12 := by omega
    have hp13 : p + 1 < 12 := by omega
    obtain ⟨c, hc, o1, o2, tc⟩ := hv p (by omega) (by omega)
    have n0 : ¬ nI (p + 1) ≤ (0 : Int32) := nI_nle (by omega) (by omega)
    have so : gC_order (sC_order w O) = O := rfl
    have sq : gM_clique (sM_clique m Q) = Q := rfl
    have am1 : nI (p + 1) + (-1) = nI p := by rw [← Int32.sub_eq_add_neg, nI_m1]
    by_cases hle : am m r x ≤ am m r c
    · refine ⟨O, Q, p + 1, hp, iter_end ?_ (by omega), iter_end ?_ (by omega), hv⟩
      · simp only [X2_sortBinaryTerms_L45, n0, if_false, nI_m1, inR12 hp12, cl12 hp12, if_true, so, o1, cl_am h hr hg hc, e1, cl_am h hr hg hx, Option.bind_some, hle]
      · simp only [X9_cliqueOf_L52, n0, if_false, nI_m1, inR12 hp12, cl12 hp12, if_true, sq, o2, rf_am h hr hc tc, e2, rf_am h hr hx tx, Option.bind_some, hle]
    · obtain ⟨O', Q', p', r1, r2, r3, r4⟩ := s_shift h hr hg hx tx hk s1 s2 e1 e2 p (by omega) (upd O (p + 1) (nI c)) (upd Q (p + 1) (nI c)) f (by omega) (fun j hj hne => by
        by_cases e : j = p + 1
        · subst e
          exact ⟨c, hc, by unfold upd; rw [if_pos rfl], by unfold upd; rw [if_pos rfl], tc⟩
        · obtain ⟨c', hc', x1, x2, x3⟩ := hv j hj e
          exact ⟨c', hc', by unfold upd; rw [if_neg e]; exact x1, by unfold upd; rw [if_neg e]; exact x2, x3⟩)
      refine ⟨O', Q', p', r1, ?_, ?_, r4⟩
      · rw [iter_in (y := (sC_order w (upd O (p + 1) (nI c)), nI p)) (by
          simp only [X2_sortBinaryTerms_L45, n0, if_false, nI_m1, inR12 hp12, cl12 hp12, inR12 hp13, cl12 hp13, if_true, so, o1, cl_am h hr hg hc, e1, cl_am h hr hg hx, Option.bind_some, hle, bnd, am1])]
        exact r2
      · rw [iter_in (y := (sM_clique m (upd Q (p + 1) (nI c)), nI p)) (by
          simp only [X9_cliqueOf_L52, n0, if_false, nI_m1, inR12 hp12, cl12 hp12, inR12 hp13, cl12 hp13, if_true, sq, o2, rf_am h hr hc tc, e2, rf_am h hr hx tx, Option.bind_some, hle, bnd, am1])]
        exact r3
theorem s_sort (h : Rl C R F N w m) {r : Nat} (hr : r < R) (hg : gM_gone m r = 0) : ∃ k O Q, k ≤ C ∧ iter (X2_sortBinaryTerms_L4 (nI r)) 5000 (w, 0, 0) = some (sC_order w O, nI k) ∧ iter (X9_cliqueOf_L4 (nI r)) 5000 (m, 0, 0) = some (sM_clique m Q, nI k) ∧ ∀ j, j < k → vq m C r O Q j := by
  have hC := h.C12
  have hR := h.R12
  have hr12 : r < 12 := by omega
  obtain ⟨ea, eb, q1, q2, k, O, Q, q3, q4, q5, q6⟩ := iter_sim (sa := X2_sortBinaryTerms_L4 (nI r)) (sb := X9_cliqueOf_L4 (nI r)) (fun d x y => ∃ i k O Q, i + d = C ∧ k ≤ i ∧ x = (sC_order w O, nI k, nI i) ∧ y = (sM_clique m Q, nI k, nI i) ∧ ∀ j, j < k → vq m C r O Q j) (fun ea eb => ∃ k O Q, k ≤ C ∧ ea = (sC_order w O, nI k) ∧ eb = (sM_clique m Q, nI k) ∧ ∀ j, j < k → vq m C r O Q j) (fun d x y hI => by
    obtain ⟨i, k, O, Q, hid, hki, rfl, rfl, hv⟩ := hI
    have wc : gT_columns (gC_tab (sC_order w O)) = nI C := h.1.1
    have mc : gM_columns (sM_clique m Q) = nI C := h.1.2.2.1
    have mg : gM_gone (sM_clique m Q) r = 0 := hg
    by_cases hi : i < C
    · have hi12 : i < 12 := by omega
      have wa : gT_a (gC_tab (sC_order w O)) r i = tm m r i := h.a hr hg hi
      have et : tm (sM_clique m Q) r i = tm m r i := rfl
      have bn : X6_isBinary (gC_tab (sC_order w O)) (nI i) = _ := cl_bin h hi
      have ml : gM_low (sM_clique m Q) i = gM_low m i := rfl
      have mh : gM_high (sM_clique m Q) i = gM_high m i := rfl
      have skip : X2_sortBinaryTerms_L4 (nI r) (sC_order w O, nI k, nI i) = some (.inl (sC_order w O, nI k, nI (i + 1))) → X9_cliqueOf_L4 (nI r) (sM_clique m Q, nI k, nI i) = some (.inl (sM_clique m Q, nI k, nI (i + 1))) → (∃ a' b', X2_sortBinaryTerms_L4 (nI r) (sC_order w O, nI k, nI i) = some (.inl a') ∧ X9_cliqueOf_L4 (nI r) (sM_clique m Q, nI k, nI i) = some (.inl b') ∧ ∃ d', d' < d ∧ ∃ i k O Q, i + d' = C ∧ k ≤ i ∧ a' = (sC_order w O, nI k, nI i) ∧ b' = (sM_clique m Q, nI k, nI i) ∧ ∀ j, j < k → vq m C r O Q j) := fun z1 z2 => ⟨_, _, z1, z2, d - 1, by omega, i + 1, k, O, Q, by omega, by omega, rfl, rfl, hv⟩
      refine Or.inl ?_
      by_cases ht : tm m r i = 0
      · refine skip ?_ ?_
        · simp only [X2_sortBinaryTerms_L4, wc, nC_le hC hi, if_false, inR12 hr12, cl12 hr12, inR12 hi12, cl12 hi12, if_true, wa, ht, X2_sortBinaryTerms_J107, nI_1]
        · simp only [X9_cliqueOf_L4, mc, nC_le hC hi, if_false, inR12 hr12, cl12 hr12, if_true, mg, rf_term0 (sM_clique m Q) hr12 hi12, et, ht, Option.bind_some, X9_cliqueOf_J114, nI_1]
      · by_cases hl : gM_low m i = 0
        · by_cases hh : gM_high m i = 1
          · obtain ⟨O', Q', p', s1, s2, s3, s4⟩ := s_shift h hr hg hi ht (k := k) (by omega) (sC_order w O, nI k, nI i) (sM_clique m Q, nI k, nI i) rfl rfl k (Nat.le_refl _) O Q 5000 (by omega) (fun j hj hne => hv j (by omega))
            have hp12 : p' < 12 := by omega
            refine ⟨(sC_order w (upd O' p' (nI i)), nI (k + 1), nI (i + 1)), (sM_clique m (upd Q' p' (nI i)), nI (k + 1), nI (i + 1)), ?_, ?_, d - 1, by omega, i + 1, k + 1, _, _, by omega, by omega, rfl, rfl, fun j hj => ?_⟩
            · simp only [X2_sortBinaryTerms_L4, wc, nC_le hC hi, if_false, inR12 hr12, cl12 hr12, inR12 hi12, cl12 hi12, if_true, wa, ht, bn, hl, hh, Option.bind_some, i10, s2, inR12 hp12, cl12 hp12, bnd, X2_sortBinaryTerms_J107, nI_1]
            · simp only [X9_cliqueOf_L4, mc, nC_le hC hi, if_false, inR12 hr12, cl12 hr12, inR12 hi12, cl12 hi12, if_true, mg, rf_term0 (sM_clique m Q) hr12 hi12, et, ht, Option.bind_some, i10, ml, mh, hl, hh, s3, inR12 hp12, cl12 hp12, bnd, X9_cliqueOf_J114, nI_1]
            · by_cases e : j = p'
              · subst e
                exact ⟨i, hi, by unfold upd; rw [if_pos rfl], by unfold upd; rw [if_pos rfl], ht⟩
              · obtain ⟨c', hc', x1, x2, x3⟩ := s4 j (by omega) e
                exact ⟨c', hc', by unfold upd; rw [if_neg e]; exact x1, by unfold upd; rw [if_neg e]; exact x2, x3⟩
          · refine skip ?_ ?_
            · simp only [X2_sortBinaryTerms_L4, wc, nC_le hC hi, if_false, inR12 hr12, cl12 hr12, inR12 hi12, cl12 hi12, if_true, wa, ht, bn, hl, hh, Option.bind_some, X2_sortBinaryTerms_J107, nI_1]
            · simp only [X9_cliqueOf_L4, mc, nC_le hC hi, if_false, inR12 hr12, cl12 hr12, inR12 hi12, cl12 hi12, if_true, mg, rf_term0 (sM_clique m Q) hr12 hi12, et, ht, Option.bind_some, i10, ml, mh, hl, hh, X9_cliqueOf_J114, nI_1]
        · refine skip ?_ ?_
          · simp only [X2_sortBinaryTerms_L4, wc, nC_le hC hi, if_false, inR12 hr12, cl12 hr12, inR12 hi12, cl12 hi12, if_true, wa, ht, bn, hl, Option.bind_some, X2_sortBinaryTerms_J107, nI_1]
          · simp only [X9_cliqueOf_L4, mc, nC_le hC hi, if_false, inR12 hr12, cl12 hr12, inR12 hi12, cl12 hi12, if_true, mg, rf_term0 (sM_clique m Q) hr12 hi12, et, ht, Option.bind_some, i10, ml, hl, X9_cliqueOf_J114, nI_1]
    · have e : i = C := by omega
      subst e
      exact Or.inr ⟨_, by simp only [X2_sortBinaryTerms_L4, wc, Int32.le_refl, if_true] <;> rfl, fun f hf => ⟨_, iter_end (by simp only [X9_cliqueOf_L4, mc, Int32.le_refl, if_true] <;> rfl) (by omega), k, O, Q, hki, rfl, rfl, hv⟩⟩) C 5000 5000 (w, 0, 0) (m, 0, 0) (by omega) (by omega) ⟨0, 0, gC_order w, gM_clique m, by omega, by omega, rfl, rfl, fun j hj => by omega⟩
  subst q4 q5
  exact ⟨k, O, Q, q3, q1, q2, q6⟩
theorem s_clique (h : Rl C R F N w m) {r : Nat} (hr : r < R) : ∃ z O Q, z ≤ C ∧ X2_findClique w (nI r) = some (nI z, sC_order w O) ∧ X9_cliqueOf m (nI r) = some (nI z, sM_clique m Q) ∧ ∀ j, j < z → gM_gone m r = 0 ∧ vq m C r O Q j := by
  have hC := h.C12
  have hR := h.R12
  have hr12 : r < 12 := by omega
  rcases gone01 h hr with hg | hg
  · obtain ⟨k, O, Q, hk, q1, q2, q3⟩ := s_sort h hr hg
    obtain ⟨F1, h1⟩ := Rl_fr (w' := sC_order w O) (m' := sM_clique m Q) h rfl rfl rfl rfl rfl rfl
    have rc := cl_reach h1 hr hg (-1) 0
    have re := rf_end h1 hr (-1) 0
    have rr := (h1.2.2.2.1 r hr).1.1
    generalize sumN (fR (sM_clique m Q) r (-1) 0) C = S at rc re
    have so : gC_order (sC_order w O) = O := rfl
    have sq : gM_clique (sM_clique m Q) = Q := rfl
    obtain ⟨ea, eb, r1, r2, r3, z, r4, r5⟩ := iter_sim (sa := X2_findClique_L46 (nI r) (nI k, sC_order w O) S) (sb := X9_cliqueOf_L141 (nI r) (sM_clique m Q, nI k) S) (fun d x y => ∃ i z, i + d = k + 1 ∧ 1 ≤ i ∧ x = (nI z, nI i) ∧ y = (nI z, nI (i + 1)) ∧ z ≤ k) (fun ea eb => ea = eb ∧ ∃ z, z ≤ k ∧ ea = nI z) (fun d x y hI => by
      obtain ⟨i, z, hid, hi1, rfl, rfl, hz⟩ := hI
      by_cases hi : i < k
      · have n1 : ¬ nI k ≤ nI i := by rw [nle (by omega) (by omega)]; omega
        have n2 : ¬ nI k < nI (i + 1) := by rw [nlt (by omega) (by omega)]; omega
        obtain ⟨j, rfl⟩ : ∃ j, i = j + 1 := ⟨i - 1, by omega⟩
        have hj12 : j < 12 := by omega
        have hj13 : j + 1 < 12 := by omega
        obtain ⟨c1, hc1, o1, o2, t1⟩ := q3 j (by omega)
        obtain ⟨c2, hc2, o3, o4, t2⟩ := q3 (j + 1) (by omega)
        have m2 : nI (j + 1 + 1) - 2 = nI j := by
          rw [show (2 : Int32) = nI 2 from rfl, ← nI_add j 2]; exact Int32.add_sub_cancel _ _
        have e1 : X2_findClique_L46 (nI r) (nI k, sC_order w O) S (nI z, nI (j + 1)) = if am m r c1 + am m r c2 ≤ gM_right (sM_clique m Q) r - S then some (.inl (nI z, nI (j + 1 + 1))) else some (.inl (nI (j + 1 + 1), nI (j + 1 + 1))) := by
          simp only [X2_findClique_L46, n1, if_false, nI_m1, inR12 hj12, cl12 hj12, inR12 hj13, cl12 hj13, if_true, so, o1, o3, cl_am h hr hg hc1, cl_am h hr hg hc2, Option.bind_some, cl12 hr12, rr, X2_findClique_J90, nI_1]
        have e2 : X9_cliqueOf_L141 (nI r) (sM_clique m Q, nI k) S (nI z, nI (j + 1 + 1)) = if am m r c1 + am m r c2 ≤ gM_right (sM_clique m Q) r - S then some (.inl (nI z, nI (j + 1 + 1 + 1))) else some (.inl (nI (j + 1 + 1), nI (j + 1 + 1 + 1))) := by
          simp only [X9_cliqueOf_L141, n2, if_false, m2, nI_m1, inR12 hj12, cl12 hj12, inR12 hj13, cl12 hj13, if_true, sq, o2, o4, rf_am h hr hc1 t1, rf_am h hr hc2 t2, Option.bind_some, cl12 hr12, X9_cliqueOf_J188, nI_1]
        by_cases hle : am m r c1 + am m r c2 ≤ gM_right (sM_clique m Q) r - S
        · exact Or.inl ⟨_, _, by rw [e1, if_pos hle], by rw [e2, if_pos hle], d - 1, by omega, j + 1 + 1, z, by omega, by omega, rfl, rfl, hz⟩
        · exact Or.inl ⟨_, _, by rw [e1, if_neg hle], by rw [e2, if_neg hle], d - 1, by omega, j + 1 + 1, j + 1 + 1, by omega, by omega, rfl, rfl, by omega⟩
      · have n1 : nI k ≤ nI i := by rw [nle (by omega) (by omega)]; omega
        have n2 : nI k < nI (i + 1) := by rw [nlt (by omega) (by omega)]; omega
        exact Or.inr ⟨nI z, by simp only [X2_findClique_L46, n1, if_true], fun f hf => ⟨nI z, iter_end (by simp only [X9_cliqueOf_L141, n2, if_true]) (by omega), rfl, z, hz, rfl⟩⟩) k 5000 5000 (0, 1) (0, 2) (by omega) (by omega) ⟨1, 0, by omega, by omega, rfl, rfl, by omega⟩
    subst r5
    refine ⟨z, O, Q, by omega, ?_, ?_, fun j hj => ⟨hg, q3 j (by omega)⟩⟩
    · simp only [X2_findClique, cl_gone h hr, hg, if_true, Option.bind_some, X2_sortBinaryTerms, q1, inR12 hr12, rc, r1]
    · simp only [X9_cliqueOf, q2, Option.bind_some, inR12 hr12, if_true, re, r2, ← r3]
  · have hg0 : ¬ gM_gone m r = 0 := by rw [hg]; decide
    refine ⟨0, gC_order w, gM_clique m, by omega, ?_, ?_, fun j hj => by omega⟩
    · simp only [X2_findClique, cl_gone h hr, hg0, if_false, Option.bind_some, i10] <;> rfl
    · have e1 : iter (X9_cliqueOf_L4 (nI r)) 5000 (m, 0, 0) = some (m, 0) := iter_end (by
        simp only [X9_cliqueOf_L4, inR12 hr12, cl12 hr12, if_true, hg0, if_false, ite_self]) (by omega)
      have re := rf_end h hr (-1) 0
      have e2 : ∀ S, iter (X9_cliqueOf_L141 (nI r) (m, 0) S) 5000 (0, 2) = some 0 := fun S => iter_end (by
        have : (0 : Int32) < 2 := by decide
        simp only [X9_cliqueOf_L141, this, if_true]) (by omega)
      simp only [X9_cliqueOf, e1, Option.bind_some, inR12 hr12, if_true, re, e2] <;> rfl
end SV
theorem Gl_order {w : CW} {m : MW} (h : Gl w m) (O Q : Nat → Int32) : Gl (sC_order w O) (sM_clique m Q) := by
  obtain ⟨C, R, hW, hS, hP, hT, hB⟩ := h
  refine ⟨C, R, hW, ⟨hS.1, ?_⟩, hP, hT, hB⟩
  rcases hS.2 with e | ⟨e, F, hF⟩
  · exact Or.inl e
  · exact Or.inr ⟨e, Rl_fr hF rfl rfl rfl rfl rfl rfl⟩
theorem o_clique {w : CW} {m : MW} (h : Gl w m) (a : Int32) : OpW (X8_clique w a) (X9_clique m a) Ksi := by
  have h' := h
  obtain ⟨C, R, hW, hS, hP, hT, hB⟩ := h'
  have hR12 := hW.1.2.2.2.2.2
  by_cases hs : gM_isSmall m = 0
  · refine Or.inl ⟨"java/lang/IllegalStateException", 1, 0, w, sM_thrown m 1, by simp only [X8_clique, cl_nSm0 hS hs, Option.bind_some, Sum.elim_inl], ?_, rfl, Gl_thrown h 1, Or.inl ⟨rfl, rfl⟩⟩
    simp only [X9_clique, hs, if_true, X9_clique_J13, rf_isRow hW, Option.bind_some, X9_clique_J26, ps_1, ite_self]
  · obtain ⟨F, hR⟩ := hS.rl hs
    by_cases hi : ins R a
    · obtain ⟨r, hr, rfl⟩ := ins_get hi (by omega)
      obtain ⟨F0, hR0⟩ := Rl_fr (w' := w) (m' := sM_thrown m 0) hR rfl rfl rfl rfl rfl rfl
      obtain ⟨z, O, Q, z1, z2, z3, -⟩ := s_clique hR0 hr
      exact Or.inr ⟨nI z, sC_order w O, sM_clique (sM_thrown m 0) Q, by simp only [X8_clique, cl_nSm1 hS hs, Option.bind_some, Sum.elim_inr, cl_nRow hW, hi, if_true, z2], by simp only [X9_clique, hs, if_false, X9_clique_J13, rf_isRow hW, hi, if_true, Option.bind_some, i10, X9_clique_J26, ps_00, z3], rfl, Gl_order (Gl_thrown h 0) O Q⟩
    · exact Or.inl ⟨"java/lang/IndexOutOfBoundsException", 2, 0, w, sM_thrown m 2, by simp only [X8_clique, cl_nSm1 hS hs, Option.bind_some, Sum.elim_inr, cl_nRow hW, hi, if_false, Bool.false_eq_true, Sum.elim_inl], by simp only [X9_clique, hs, if_false, Bool.false_eq_true, X9_clique_J13, rf_isRow hW, hi, Option.bind_some, if_true, X9_clique_J26, ps_01], rfl, Gl_thrown h 2, Or.inr ⟨rfl, rfl⟩⟩
theorem o_cliqueAt {w : CW} {m : MW} (h : Gl w m) (a b : Int32) : OpW (X8_cliqueAt w a b) (X9_cliqueAt m a b) Ksi := by
  have h' := h
  obtain ⟨C, R, hW, hS, hP, hT, hB⟩ := h'
  have hR12 := hW.1.2.2.2.2.2
  by_cases hs : gM_isSmall m = 0
  · refine Or.inl ⟨"java/lang/IllegalStateException", 1, 0, w, sM_thrown m 1, by simp only [X8_cliqueAt, cl_nSm0 hS hs, Option.bind_some, Sum.elim_inl], ?_, rfl, Gl_thrown h 1, Or.inl ⟨rfl, rfl⟩⟩
    simp only [X9_cliqueAt, hs, if_true, X9_cliqueAt_J13, rf_isRow hW, Option.bind_some, X9_cliqueAt_J26, ps_1, ite_self]
  · obtain ⟨F, hR⟩ := hS.rl hs
    by_cases hi : ins R a
    · obtain ⟨r, hr, rfl⟩ := ins_get hi (by omega)
      have hr12 : r < 12 := by omega
      obtain ⟨F0, hR0⟩ := Rl_fr (w' := w) (m' := sM_thrown m 0) hR rfl rfl rfl rfl rfl rfl
      obtain ⟨z, O, Q, z1, z2, z3, z4⟩ := s_clique hR0 hr
      have hC12 := hR.C12
      have pre : X9_cliqueAt m (nI r) b = if ins z b then X9_cliqueAt_J60 (nI r) b (sM_clique (sM_thrown m 0) Q) 0 0 else X9_cliqueAt_J60 (nI r) b (sM_clique (sM_thrown m 0) Q) 0 1 := by
        simp only [X9_cliqueAt, hs, if_false, X9_cliqueAt_J13, rf_isRow hW, hi, if_true, Option.bind_some, i10, X9_cliqueAt_J26, ps_00, z3, rf_in (C := z) (show z ≤ 5000 by omega)]
        by_cases q : ins z b = true
        · simp only [q, if_true, i10, if_false]
        · simp only [q, if_true, if_false, Bool.false_eq_true]
      rw [pre]
      by_cases hz : ins z b = true
      · rw [if_pos hz]
        obtain ⟨j, hj, rfl⟩ := ins_get hz (by omega)
        have hj12 : j < 12 := by omega
        obtain ⟨hg, c, hc, o1, o2, tc⟩ := z4 j hj
        have hc12 : c < 12 := by omega
        have njneg : ¬ nI j < (0 : Int32) := nI_pos (by omega)
        have njz : nI j < nI z := by rw [nlt (by omega) (by omega)]; exact hj
        have so : gC_order (sC_order w O) = O := rfl
        have sq : gM_clique (sM_thrown (sM_clique (sM_thrown m 0) Q) 0) = Q := rfl
        have wa : gT_a (gC_tab (sC_order w O)) r c = tm m r c := hR.a hr hg hc
        have ma : gM_coef (sM_thrown (sM_clique (sM_thrown m 0) Q) 0) (12 * r + c) = tm m r c := tm_coef (m := m) tc
        have gl : Gl (sC_order w O) (sM_thrown (sM_clique (sM_thrown m 0) Q) 0) := Gl_thrown (Gl_order (Gl_thrown h 0) O Q) 0
        by_cases hle : tm m r c ≤ 0
        · refine Or.inr ⟨nI c * 2 + 0, sC_order w O, sM_thrown (sM_clique (sM_thrown m 0) Q) 0, ?_, ?_, rfl, gl⟩
          · simp only [X8_cliqueAt, cl_nSm1 hS hs, Option.bind_some, Sum.elim_inr, cl_nRow hW, hi, if_true, njneg, if_false, z2, njz, inR12 hj12, cl12 hj12, inR12 hr12, cl12 hr12, so, o1, inR12 hc12, cl12 hc12, wa, hle, X8_cliqueAt_J72]
          · simp only [X9_cliqueAt_J60, ps_00, Option.bind_some, i10, if_false, inR12 hj12, cl12 hj12, if_true, sq, o2, ix144, inR144 hr12 hc12, cl144 hr12 hc12, ma, hle, X9_cliqueAt_J102, Int32.mul_comm 2 (nI c)]
        · refine Or.inr ⟨nI c * 2 + 1, sC_order w O, sM_thrown (sM_clique (sM_thrown m 0) Q) 0, ?_, ?_, rfl, gl⟩
          · simp only [X8_cliqueAt, cl_nSm1 hS hs, Option.bind_some, Sum.elim_inr, cl_nRow hW, hi, if_true, njneg, if_false, z2, njz, inR12 hj12, cl12 hj12, inR12 hr12, cl12 hr12, so, o1, inR12 hc12, cl12 hc12, wa, hle, X8_cliqueAt_J72]
          · simp only [X9_cliqueAt_J60, ps_00, Option.bind_some, i10, if_false, inR12 hj12, cl12 hj12, if_true, sq, o2, ix144, inR144 hr12 hc12, cl144 hr12 hc12, ma, hle, X9_cliqueAt_J102, Int32.mul_comm 2 (nI c)]
      · rw [if_neg hz]
        have e9 : X9_cliqueAt_J60 (nI r) b (sM_clique (sM_thrown m 0) Q) 0 1 = some (0, sM_thrown (sM_clique (sM_thrown m 0) Q) 2) := by
          simp only [X9_cliqueAt_J60, ps_01, Option.bind_some, if_true]
        rw [e9]
        by_cases hneg : b < 0
        · exact Or.inl ⟨"java/lang/IndexOutOfBoundsException", 2, 0, w, _, by simp only [X8_cliqueAt, cl_nSm1 hS hs, Option.bind_some, Sum.elim_inr, cl_nRow hW, hi, if_true, hneg, X8_cliqueAt_J25], rfl, rfl, Gl_thrown (Gl_order (w := w) (Gl_thrown h 0) (gC_order w) Q) 2, Or.inr ⟨rfl, rfl⟩⟩
        · have hge : ¬ b < nI z := fun q => by
            have q' := Int32.lt_iff_toInt_lt.mp q
            have n' : ¬ b.toInt < (0 : Int32).toInt := fun y => hneg (Int32.lt_iff_toInt_lt.mpr y)
            rw [nI_toInt (by omega)] at q'
            have z0 : (0 : Int32).toInt = 0 := rfl
            exact hz (ins_iff.mpr ⟨by omega, q'⟩)
          exact Or.inl ⟨"java/lang/IndexOutOfBoundsException", 2, 0, sC_order w O, _, by simp only [X8_cliqueAt, cl_nSm1 hS hs, Option.bind_some, Sum.elim_inr, cl_nRow hW, hi, if_true, hneg, if_false, z2, hge, X8_cliqueAt_J25], rfl, rfl, Gl_thrown (Gl_order (Gl_thrown h 0) O Q) 2, Or.inr ⟨rfl, rfl⟩⟩
    · exact Or.inl ⟨"java/lang/IndexOutOfBoundsException", 2, 0, w, sM_thrown m 2, by simp only [X8_cliqueAt, cl_nSm1 hS hs, Option.bind_some, Sum.elim_inr, cl_nRow hW, hi, if_false, Bool.false_eq_true, Sum.elim_inl], by simp only [X9_cliqueAt, hs, if_false, Bool.false_eq_true, X9_cliqueAt_J13, rf_isRow hW, hi, Option.bind_some, if_true, X9_cliqueAt_J26, ps_01], rfl, Gl_thrown h 2, Or.inr ⟨rfl, rfl⟩⟩
