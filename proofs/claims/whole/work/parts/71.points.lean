/-! same, put, at, value, best's numbers -/
theorem i64inj {x y : Int32} : x.toInt64 = y.toInt64 ↔ x = y := ⟨fun h => by rw [← i32s x, ← i32s y, h], fun h => by rw [h]⟩
def pSame (m : MW) (a b r : Nat) : Bool := !(decide (gM_gone m r = 0)) || decide (gM_coef m (12 * r + a) = gM_coef m (12 * r + b))
theorem shr_or (x y k : Int32) : ((x ||| y) >>> k) &&& 1 = ((x >>> k) &&& 1) ||| ((y >>> k) &&& 1) := by
  apply Int32.toBitVec_inj.mp
  simp only [Int32.toBitVec_and, Int32.toBitVec_or, Int32.toBitVec_shiftRight, BitVec.sshiftRight_eq', BitVec.sshiftRight_or_distrib, BitVec.and_or_distrib_right]
theorem bit_tab : ∀ c : Fin 12, ∀ c' : Fin 12, (((1 : Int32) <<< (nI c.val &&& 31)) >>> (nI c'.val &&& 31)) &&& 1 = if c'.val = c.val then 1 else 0 := by decide
theorem bit_at {c c' : Nat} (h : c < 12) (h' : c' < 12) : (((1 : Int32) <<< (nI c &&& 31)) >>> (nI c' &&& 31)) &&& 1 = if c' = c then 1 else 0 := bit_tab ⟨c, h⟩ ⟨c', h'⟩
section SN
variable {w : CW} {m : MW}
theorem o_same (h : Gl w m) (a b : Int32) : OpR w (X8_same w a b) (X9_same m a b) (fun x y => x = y) Ksi := by
  have h' := h
  obtain ⟨C, R, hW, hS, hP, hT, hB⟩ := h'
  have hC12 := hW.1.2.2.2.2.1
  have hR12 := hW.1.2.2.2.2.2
  by_cases hs : gM_isSmall m = 0
  · refine Or.inl ⟨_, 1, 0, sM_thrown m 1, by simp only [X8_same, cl_nSm0 hS hs, Option.bind_some, Sum.elim_inl] <;> rfl, ?_, rfl, Gl_thrown h 1, Or.inl ⟨rfl, rfl⟩⟩
    simp only [X9_same, hs, if_true, X9_same_J13, rf_isCol hW, Option.bind_some, X9_same_J29, X9_same_J34, ps_1, ite_self]
  · obtain ⟨F, hR⟩ := hS.rl hs
    by_cases hi : ins C a
    · by_cases hj : ins C b
      · obtain ⟨a, ha, rfl⟩ := ins_get hi (by omega)
        obtain ⟨b, hb, rfl⟩ := ins_get hj (by omega)
        have ha12 : a < 12 := by omega
        have hb12 : b < 12 := by omega
        obtain ⟨⟨a1, a2, a3, a4, -⟩, -⟩ := hR.2.2.1 a ha
        obtain ⟨⟨b1, b2, b3, b4, -⟩, -⟩ := hR.2.2.1 b hb
        have lp : ∀ f : Bool, X9_same_J111 (nI a) (nI b) (sM_thrown m 0) (if f = true then 1 else 0) = some ((if (f && allN (pSame m a b) R) = true then 1 else 0), sM_thrown m 0) := fun f => by
          have e := iter_to (step := X9_same_L115 (nI a) (nI b) (sM_thrown m 0)) R (fun i => ((if (f && allN (pSame m a b) i) = true then (1 : Int32) else 0), nI i)) (if (f && allN (pSame m a b) R) = true then 1 else 0) (fun i hi => by
            have hi12 : i < 12 := by omega
            have q : (f && (allN (pSame m a b) i && pSame m a b i)) = ((f && allN (pSame m a b) i) && pSame m a b i) := (Bool.and_assoc _ _ _).symm
            simp only [X9_same_L115, show gM_rows (sM_thrown m 0) = nI R from hW.1.2.2.2.1, nC_le hR12 hi, if_false, inR12 hi12, cl12 hi12, if_true, ix144, inR144 hi12 ha12, cl144 hi12 ha12, inR144 hi12 hb12, cl144 hi12 hb12, X9_same_J171, X9_same_J170, X9_same_J166, nI_1, allN_s, q, show gM_gone (sM_thrown m 0) = gM_gone m from rfl, show gM_coef (sM_thrown m 0) = gM_coef m from rfl]
            cases f && allN (pSame m a b) i
            · simp
            · by_cases hg : gM_gone m i = 0
              · by_cases he : gM_coef m (12 * i + a) = gM_coef m (12 * i + b)
                · simp [pSame, hg, he]
                · simp [pSame, hg, he]
              · simp [pSame, hg]) (by
            simp only [X9_same_L115, show gM_rows (sM_thrown m 0) = nI R from hW.1.2.2.2.1, Int32.le_refl, if_true]) (f := 5000) (by omega)
          have e2 : iter (X9_same_L115 (nI a) (nI b) (sM_thrown m 0)) 5000 ((if f = true then 1 else 0), 0) = some (if (f && allN (pSame m a b) R) = true then 1 else 0) := by
            have e3 : (if (f && allN (pSame m a b) 0) = true then (1 : Int32) else 0) = if f = true then 1 else 0 := by simp [allN]
            rw [← e3]
            exact e
          simp only [X9_same_J111, e2, Option.bind_some]
          split <;> rfl
        have l1 : X9_same_J111 (nI a) (nI b) (sM_thrown m 0) 1 = some ((if allN (pSame m a b) R = true then 1 else 0), sM_thrown m 0) := by
          have := lp true
          simpa only [if_true, Bool.true_and] using this
        have l0 : X9_same_J110 (nI a) (nI b) (sM_thrown m 0) = some (0, sM_thrown m 0) := by
          have := lp false
          simpa only [X9_same_J110, Bool.false_and, if_false, Bool.false_eq_true] using this
        have e9 : X9_same m (nI a) (nI b) = if gM_state m a = 0 then (if gM_state m b = 0 then (if gM_low m a = gM_low m b then (if gM_high m a = gM_high m b then (if gM_cost m a = gM_cost m b then some ((if allN (pSame m a b) R = true then 1 else 0), sM_thrown m 0) else some (0, sM_thrown m 0)) else some (0, sM_thrown m 0)) else some (0, sM_thrown m 0)) else some (0, sM_thrown m 0)) else some (0, sM_thrown m 0) := by
          simp only [X9_same, hs, if_false, X9_same_J13, rf_isCol hW, hi, hj, if_true, Option.bind_some, i10, X9_same_J34, ps_00, inR12 ha12, cl12 ha12, inR12 hb12, cl12 hb12, l1, l0]
        have e8 : X8_same w (nI a) (nI b) = if gM_state m a = 0 then (if gM_state m b = 0 then (if gM_low m a = gM_low m b then (if gM_high m a = gM_high m b then (if gM_cost m a = gM_cost m b then some (.inr (if allN (pSame m a b) R = true then 1 else 0)) else some (.inr 0)) else some (.inr 0)) else some (.inr 0)) else some (.inr 0)) else some (.inr 0) := by
          by_cases sa : gM_state m a = 0
          · by_cases sb : gM_state m b = 0
            · have lpc := all_loop (step := X2_areSame_L94 w (nI a) (nI b)) (pSame m a b) R hR12 (fun i hi => by
                have hi12 : i < 12 := by omega
                simp only [X2_areSame_L94, hR.1.2.1, nC_le hR12 hi, if_false, cl_gone hR hi, Option.bind_some, inR12 hi12, cl12 hi12, inR12 ha12, cl12 ha12, inR12 hb12, cl12 hb12, if_true, X2_areSame_J144, nI_1]
                by_cases hg : gM_gone m i = 0
                · rw [hR.a hi hg ha, hR.a hi hg hb, tm_is sa, tm_is sb]
                  by_cases he : gM_coef m (12 * i + a) = gM_coef m (12 * i + b)
                  · simp [pSame, hg, he]
                  · simp [pSame, hg, he]
                · simp [pSame, hg]) (by
                simp only [X2_areSame_L94, hR.1.2.1, Int32.le_refl, if_true])
              simp only [X8_same, cl_nSm1 hS hs, Option.bind_some, Sum.elim_inr, cl_nCol hW, hi, hj, if_true, X2_areSame, X6_isThere, inR12 ha12, cl12 ha12, inR12 hb12, cl12 hb12, a1, b1, sa, sb, i10, if_false, a2, a3, a4, b2, b3, b4, i64inj, lpc]
              split
              · split
                · split
                  · split <;> rfl
                  · rfl
                · rfl
              · rfl
            · simp only [X8_same, cl_nSm1 hS hs, Option.bind_some, Sum.elim_inr, cl_nCol hW, hi, hj, if_true, X2_areSame, X6_isThere, inR12 ha12, cl12 ha12, inR12 hb12, cl12 hb12, a1, b1, sa, sb, i10, if_false, isB0]
          · simp only [X8_same, cl_nSm1 hS hs, Option.bind_some, Sum.elim_inr, cl_nCol hW, hi, hj, if_true, X2_areSame, X6_isThere, inR12 ha12, cl12 ha12, a1, sa, if_false, isB0]
        rw [e8, e9]
        by_cases sa : gM_state m a = 0
        · rw [if_pos sa, if_pos sa]
          by_cases sb : gM_state m b = 0
          · rw [if_pos sb, if_pos sb]
            by_cases sl : gM_low m a = gM_low m b
            · rw [if_pos sl, if_pos sl]
              by_cases sh : gM_high m a = gM_high m b
              · rw [if_pos sh, if_pos sh]
                by_cases sc : gM_cost m a = gM_cost m b
                · rw [if_pos sc, if_pos sc]
                  exact Or.inr ⟨_, _, sM_thrown m 0, rfl, rfl, rfl, rfl, Gl_thrown h 0⟩
                · rw [if_neg sc, if_neg sc]
                  exact Or.inr ⟨_, _, sM_thrown m 0, rfl, rfl, rfl, rfl, Gl_thrown h 0⟩
              · rw [if_neg sh, if_neg sh]
                exact Or.inr ⟨_, _, sM_thrown m 0, rfl, rfl, rfl, rfl, Gl_thrown h 0⟩
            · rw [if_neg sl, if_neg sl]
              exact Or.inr ⟨_, _, sM_thrown m 0, rfl, rfl, rfl, rfl, Gl_thrown h 0⟩
          · rw [if_neg sb, if_neg sb]
            exact Or.inr ⟨_, _, sM_thrown m 0, rfl, rfl, rfl, rfl, Gl_thrown h 0⟩
        · rw [if_neg sa, if_neg sa]
          exact Or.inr ⟨_, _, sM_thrown m 0, rfl, rfl, rfl, rfl, Gl_thrown h 0⟩
      · exact Or.inl ⟨_, 2, 0, sM_thrown m 2, by simp only [X8_same, cl_nSm1 hS hs, Option.bind_some, Sum.elim_inr, cl_nCol hW, hi, if_true, hj, if_false, Bool.false_eq_true, Sum.elim_inl] <;> rfl, by simp only [X9_same, hs, if_false, Bool.false_eq_true, X9_same_J13, rf_isCol hW, hi, hj, i10, Option.bind_some, if_true, X9_same_J29, X9_same_J34, ps_01], rfl, Gl_thrown h 2, Or.inr ⟨rfl, rfl⟩⟩
    · exact Or.inl ⟨_, 2, 0, sM_thrown m 2, by simp only [X8_same, cl_nSm1 hS hs, Option.bind_some, Sum.elim_inr, cl_nCol hW, hi, if_false, Bool.false_eq_true, Sum.elim_inl] <;> rfl, by simp only [X9_same, hs, if_false, Bool.false_eq_true, X9_same_J13, rf_isCol hW, hi, Option.bind_some, if_true, X9_same_J29, X9_same_J34, ps_01], rfl, Gl_thrown h 2, Or.inr ⟨rfl, rfl⟩⟩
/-- a small that is not impossible -/
theorem cl_possible {C R : Nat} (hS : Sm C R w m) : (¬ gM_isSmall m = 0 ∧ gM_certificate m = -1 ∧ X8_needPossibleSmall w = some (.inr ())) ∨ ((gM_isSmall m = 0 ∨ ¬ gM_certificate m = -1) ∧ X8_needPossibleSmall w = some (.inl ("java/lang/IllegalStateException", w))) := by
  by_cases hs : gM_isSmall m = 0
  · exact Or.inr ⟨Or.inl hs, by simp only [X8_needPossibleSmall, hS.1, hs, if_true, X8_needPossibleSmall_J17]⟩
  · obtain ⟨F, hR⟩ := hS.rl hs
    have ce := hR.2.2.2.2.2.2.2
    by_cases hc : gM_certificate m = -1
    · exact Or.inl ⟨hs, hc, by simp only [X8_needPossibleSmall, hS.1, hs, if_false, X5_isImpossible, ce, hc, if_true, Option.bind_some]⟩
    · exact Or.inr ⟨Or.inr hc, by simp only [X8_needPossibleSmall, hS.1, hs, if_false, X5_isImpossible, ce, hc, Option.bind_some, i10, X8_needPossibleSmall_J17]⟩
theorem o_put (h : Gl w m) (a k : Int32) : OpU (X8_put w a k) (X9_put m a k) Ksia := by
  have h' := h
  obtain ⟨C, R, hW, hS, hP, hT, hB⟩ := h'
  have hC12 := hW.1.2.2.2.2.1
  rcases cl_possible hS with ⟨hs, hc, np⟩ | ⟨hno, np⟩
  · obtain ⟨F, hR⟩ := hS.rl hs
    by_cases hi : ins C a
    · obtain ⟨c, hc', rfl⟩ := ins_get hi (by omega)
      have hc12 : c < 12 := by omega
      obtain ⟨⟨c1, c2, c3, -⟩, -⟩ := hR.2.2.1 c hc'
      have pre : X9_put m (nI c) k = X9_put_J44 (nI c) k m 1 0 0 := by
        simp only [X9_put, hs, hc, if_true, if_false, X9_put_J20, i10, X9_put_J31, rf_isCol hW, hi, Option.bind_some]
      by_cases hst : gM_state m c = 0
      · by_cases k1 : k.toInt64 < lo m c
        · refine Or.inl ⟨"java/lang/IllegalArgumentException", 3, w, sM_thrown m 3, ?_, ?_, rfl, Gl_thrown h 3, Or.inr (Or.inr ⟨rfl, rfl⟩)⟩
          · simp only [X8_put, np, Option.bind_some, Sum.elim_inr, cl_nCol hW, hi, if_true, X6_isThere, inR12 hc12, cl12 hc12, c1, hst, i10, if_false, c2, k1, X8_put_J49]
          · rw [pre]
            simp only [X9_put_J44, i10, if_false, rf_isCol hW, hi, if_true, Option.bind_some, inR12 hc12, cl12 hc12, hst, X9_within, k1, X9_put_J87, X9_put_J92, qs_001]
        · by_cases k2 : k.toInt64 ≤ (gM_high m c).toInt64
          · have k2' : ¬ (gM_high m c).toInt64 < k.toInt64 := Int64.not_lt.mpr k2
            refine Or.inr ⟨sC_putColumns (sC_putNumbers w (vp_updL (gC_putNumbers w) c k.toInt64)) (gC_putColumns w ||| (1 <<< (nI c &&& 31))), sM_isPut (sM_number (sM_thrown m 0) (upd (gM_number m) c k)) (upd (gM_isPut m) c 1), ?_, ?_, rfl, ?_⟩
            · simp only [X8_put, np, Option.bind_some, Sum.elim_inr, cl_nCol hW, hi, if_true, X6_isThere, inR12 hc12, cl12 hc12, c1, hst, i10, if_false, c2, c3, k1, k2, bnd]
            · rw [pre]
              simp only [X9_put_J44, i10, if_false, rf_isCol hW, hi, if_true, Option.bind_some, inR12 hc12, cl12 hc12, hst, X9_within, k1, k2', X9_put_J91, X9_put_J92, qs_000, bnd, show vp_nar .boolean 1 = 1 from rfl]
            · refine ⟨C, R, hW, ⟨hS.1, ?_⟩, fun c' hc2 => ?_, hT, hB⟩
              · rcases hS.2 with e | ⟨e, F, hF⟩
                · exact Or.inl e
                · exact Or.inr ⟨e, Rl_fr hF rfl rfl rfl rfl rfl rfl⟩
              · have hp := hP c' hc2
                show (((gC_putColumns w ||| (1 <<< (nI c &&& 31))) >>> (nI c' &&& 31)) &&& 1) = upd (gM_isPut m) c 1 c' ∧ (upd (gM_isPut m) c 1 c' = 0 ∨ (upd (gM_isPut m) c 1 c' = 1 ∧ c' < C ∧ gM_state m c' = 0 ∧ vp_updL (gC_putNumbers w) c k.toInt64 c' = (upd (gM_number m) c k c').toInt64 ∧ lo m c' ≤ (upd (gM_number m) c k c').toInt64 ∧ (upd (gM_number m) c k c').toInt64 ≤ (gM_high m c').toInt64))
                rw [shr_or, bit_at hc12 hc2]
                unfold upd vp_updL
                by_cases e : c' = c
                · subst e
                  simp only [if_true]
                  refine ⟨?_, Or.inr ⟨trivial, hc', hst, trivial, Int64.not_lt.mp k1, k2⟩⟩
                  rw [hp.1]
                  rcases hp.2 with e1 | ⟨e1, -⟩
                  · rw [e1] <;> rfl
                  · rw [e1] <;> rfl
                · simp only [e, if_false]
                  rw [Int32.or_zero]
                  exact hp
          · have k2' : (gM_high m c).toInt64 < k.toInt64 := Int64.not_le.mp k2
            refine Or.inl ⟨"java/lang/IllegalArgumentException", 3, w, sM_thrown m 3, ?_, ?_, rfl, Gl_thrown h 3, Or.inr (Or.inr ⟨rfl, rfl⟩)⟩
            · simp only [X8_put, np, Option.bind_some, Sum.elim_inr, cl_nCol hW, hi, if_true, X6_isThere, inR12 hc12, cl12 hc12, c1, hst, i10, if_false, c2, c3, k1, k2, X8_put_J49]
            · rw [pre]
              simp only [X9_put_J44, i10, if_false, rf_isCol hW, hi, if_true, Option.bind_some, inR12 hc12, cl12 hc12, hst, X9_within, k1, k2', X9_put_J87, X9_put_J92, qs_001]
      · refine Or.inl ⟨"java/lang/IllegalArgumentException", 3, w, sM_thrown m 3, ?_, ?_, rfl, Gl_thrown h 3, Or.inr (Or.inr ⟨rfl, rfl⟩)⟩
        · simp only [X8_put, np, Option.bind_some, Sum.elim_inr, cl_nCol hW, hi, if_true, X6_isThere, inR12 hc12, cl12 hc12, c1, hst, if_false, X8_put_J49]
        · rw [pre]
          simp only [X9_put_J44, i10, if_false, rf_isCol hW, hi, if_true, Option.bind_some, inR12 hc12, cl12 hc12, hst, X9_put_J87, X9_put_J92, qs_001]
    · refine Or.inl ⟨"java/lang/IndexOutOfBoundsException", 2, w, sM_thrown m 2, ?_, ?_, rfl, Gl_thrown h 2, Or.inr (Or.inl ⟨rfl, rfl⟩)⟩
      · simp only [X8_put, np, Option.bind_some, Sum.elim_inr, cl_nCol hW, hi, if_false, Bool.false_eq_true, Sum.elim_inl]
      · simp only [X9_put, hs, hc, if_true, if_false, Bool.false_eq_true, X9_put_J20, i10, X9_put_J31, rf_isCol hW, hi, Option.bind_some, X9_put_J44, X9_put_J91, X9_put_J92, qs_01]
  · refine Or.inl ⟨"java/lang/IllegalStateException", 1, w, sM_thrown m 1, by simp only [X8_put, np, Option.bind_some, Sum.elim_inl], ?_, rfl, Gl_thrown h 1, Or.inl ⟨rfl, rfl⟩⟩
    have pre : X9_put m a k = X9_put_J19 a k m := by
      simp only [X9_put]
      rcases hno with e | e
      · rw [if_pos e]
      · rw [if_neg e]
        split <;> rfl
    rw [pre]
    simp only [X9_put_J19, X9_put_J20, if_true, X9_put_J31, rf_isCol hW, Option.bind_some, X9_put_J44, X9_put_J91, X9_put_J92, qs_1, ite_self]
theorem o_at (h : Gl w m) (a : Int32) : OpR w (X8_at w a) (X9_at m a) (fun x y => x = y) Ksi := by
  have h' := h
  obtain ⟨C, R, hW, hS, hP, hT, hB⟩ := h'
  have hC12 := hW.1.2.2.2.2.1
  rcases hT.2 with e | ⟨e, e2, e3⟩
  · refine Or.inl ⟨_, 1, 0, sM_thrown m 1, by simp only [X8_at, X8_needTurned, hT.1, e, if_true, Option.bind_some, Sum.elim_inl] <;> rfl, ?_, rfl, Gl_thrown h 1, Or.inl ⟨rfl, rfl⟩⟩
    simp only [X9_at, e, if_true, X9_at_J15, X9_at_J20, rf_isCol hW, Option.bind_some, X9_at_J33, ps_1, ite_self]
  · have hs : ¬ gM_isSmall m = 0 := by rw [e2]; decide
    have ht : ¬ gM_isTurned m = 0 := by rw [e]; decide
    by_cases hi : ins C a
    · obtain ⟨c, hc, rfl⟩ := ins_get hi (by omega)
      have hc12 : c < 12 := by omega
      exact Or.inr ⟨gM_turned m c, gM_turned m c, sM_thrown m 0, by simp only [X8_at, X8_needTurned, hT.1, ht, if_false, Option.bind_some, Sum.elim_inr, cl_nCol hW, hi, if_true, inR12 hc12, cl12 hc12, e3 c hc, i32s], by simp only [X9_at, hs, ht, if_false, X9_at_J20, rf_isCol hW, hi, if_true, Option.bind_some, i10, X9_at_J33, ps_00, inR12 hc12, cl12 hc12], rfl, rfl, Gl_thrown h 0⟩
    · exact Or.inl ⟨_, 2, 0, sM_thrown m 2, by simp only [X8_at, X8_needTurned, hT.1, ht, if_false, Option.bind_some, Sum.elim_inr, cl_nCol hW, hi, Bool.false_eq_true, Sum.elim_inl] <;> rfl, by simp only [X9_at, hs, ht, if_false, Bool.false_eq_true, X9_at_J20, rf_isCol hW, hi, Option.bind_some, if_true, X9_at_J33, ps_01], rfl, Gl_thrown h 2, Or.inr ⟨rfl, rfl⟩⟩
theorem o_value (h : Gl w m) : OpR w (X8_value w) (X9_value m) (fun x y => x = y) Ks := by
  have h' := h
  obtain ⟨C, R, hW, hS, hP, hT, hB⟩ := h'
  have hC12 := hW.1.2.2.2.2.1
  rcases hT.2 with e | ⟨e, e2, e3⟩
  · refine Or.inl ⟨_, 1, 0, sM_thrown m 1, by simp only [X8_value, X8_needTurned, hT.1, e, if_true, Option.bind_some, Sum.elim_inl] <;> rfl, ?_, rfl, Gl_thrown h 1, ⟨rfl, rfl⟩⟩
    simp only [X9_value, e, if_true, X9_value_J17, X9_value_J22, ps_1, Option.bind_some, ite_self]
  · have hs : ¬ gM_isSmall m = 0 := by rw [e2]; decide
    have ht : ¬ gM_isTurned m = 0 := by rw [e]; decide
    have s8 := iter_to (step := X8_value_L8 w) C (fun i => (sumN (fun c => (gM_costs m c).toInt64 * (gM_turned m c).toInt64) i, nI i)) (sumN (fun c => (gM_costs m c).toInt64 * (gM_turned m c).toInt64) C) (fun i hi => by
      have hi12 : i < 12 := by omega
      simp only [X8_value_L8, hW.1.1, nC_le hC12 hi, if_false, inR12 hi12, cl12 hi12, if_true, e3 i hi, (hW.2.1 i hi).1.2.2, nI_1, sumN]
      rw [Int64.mul_comm]) (by
      simp only [X8_value_L8, hW.1.1, Int32.le_refl, if_true]) (f := 5000) (by omega)
    have s9 := iter_to (step := X9_value_L31 (1, sM_thrown m 0)) C (fun i => (sumN (fun c => (gM_costs m c).toInt64 * (gM_turned m c).toInt64) i, nI i)) (sumN (fun c => (gM_costs m c).toInt64 * (gM_turned m c).toInt64) C) (fun i hi => by
      have hi12 : i < 12 := by omega
      simp only [X9_value_L31, show gM_columns (sM_thrown m 0) = nI C from hW.1.2.2.1, nC_le hC12 hi, if_false, inR12 hi12, cl12 hi12, if_true, nI_1, sumN]) (by
      simp only [X9_value_L31, show gM_columns (sM_thrown m 0) = nI C from hW.1.2.2.1, Int32.le_refl, if_true]) (f := 5000) (by omega)
    have s8' : iter (X8_value_L8 w) 5000 (0, 0) = _ := s8
    have s9' : iter (X9_value_L31 (1, sM_thrown m 0)) 5000 (0, 0) = _ := s9
    exact Or.inr ⟨_, _, sM_thrown m 0, by simp only [X8_value, X8_needTurned, hT.1, ht, if_false, Option.bind_some, Sum.elim_inr, s8'] <;> rfl, by simp only [X9_value, hs, ht, if_false, X9_value_J22, ps_00, Option.bind_some, i10, s9'] <;> rfl, rfl, rfl, Gl_thrown h 0⟩
theorem o_bestValue (h : Gl w m) : OpR w (X8_bestValue w) (X9_bestValue m) (fun x y => x = y) Ks := by
  have h' := h
  obtain ⟨C, R, hW, hS, hP, hT, hB⟩ := h'
  rcases hB.2 with e | ⟨e, e2, e3⟩
  · exact Or.inl ⟨_, 1, 0, sM_thrown m 1, by simp only [X8_bestValue, X8_needBest, hB.1, e, if_true, Option.bind_some, Sum.elim_inl] <;> rfl, by simp only [X9_bestValue, e, if_true, X9_bestValue_J13, ps_1, Option.bind_some], rfl, Gl_thrown h 1, ⟨rfl, rfl⟩⟩
  · have ht : ¬ gM_hasBest m = 0 := by rw [e]; decide
    exact Or.inr ⟨gC_leastValue w, gM_bestValue m, sM_thrown m 0, by simp only [X8_bestValue, X8_needBest, hB.1, ht, if_false, Option.bind_some, Sum.elim_inr], by simp only [X9_bestValue, ht, if_false, X9_bestValue_J13, ps_00, Option.bind_some, i10], e2, rfl, Gl_thrown h 0⟩
theorem o_bestAt (h : Gl w m) (a : Int32) : OpR w (X8_bestAt w a) (X9_bestAt m a) (fun x y => x = y) Ksi := by
  have h' := h
  obtain ⟨C, R, hW, hS, hP, hT, hB⟩ := h'
  have hC12 := hW.1.2.2.2.2.1
  rcases hB.2 with e | ⟨e, e2, e3⟩
  · refine Or.inl ⟨_, 1, 0, sM_thrown m 1, by simp only [X8_bestAt, X8_needBest, hB.1, e, if_true, Option.bind_some, Sum.elim_inl] <;> rfl, ?_, rfl, Gl_thrown h 1, Or.inl ⟨rfl, rfl⟩⟩
    simp only [X9_bestAt, e, if_true, X9_bestAt_J13, rf_isCol hW, Option.bind_some, X9_bestAt_J26, ps_1]
    split <;> rfl
  · have ht : ¬ gM_hasBest m = 0 := by rw [e]; decide
    by_cases hi : ins C a
    · obtain ⟨c, hc, rfl⟩ := ins_get hi (by omega)
      have hc12 : c < 12 := by omega
      exact Or.inr ⟨gM_best m c, gM_best m c, sM_thrown m 0, by simp only [X8_bestAt, X8_needBest, hB.1, ht, if_false, Option.bind_some, Sum.elim_inr, cl_nCol hW, hi, if_true, inR12 hc12, cl12 hc12, e3 c hc, i32s], by simp only [X9_bestAt, ht, if_false, X9_bestAt_J13, rf_isCol hW, hi, if_true, Option.bind_some, i10, X9_bestAt_J26, ps_00, inR12 hc12, cl12 hc12], rfl, rfl, Gl_thrown h 0⟩
    · exact Or.inl ⟨_, 2, 0, sM_thrown m 2, by simp only [X8_bestAt, X8_needBest, hB.1, ht, if_false, Option.bind_some, Sum.elim_inr, cl_nCol hW, hi, Bool.false_eq_true, Sum.elim_inl] <;> rfl, by simp only [X9_bestAt, ht, if_false, Bool.false_eq_true, X9_bestAt_J13, rf_isCol hW, hi, Option.bind_some, if_true, X9_bestAt_J26, ps_01], rfl, Gl_thrown h 2, Or.inr ⟨rfl, rfl⟩⟩
end SN
