/-! rest, act; columns and rows told -/
theorem cl_inle {α : Type} {C : Nat} (hC : C ≤ 4000) (a : Int32) (x y : α) : (if a < 0 then x else if a ≤ nI C then y else x) = if ins (C + 1) a then y else x := by
  have z : (0 : Int32).toInt = 0 := rfl
  simp only [ins_d]
  by_cases h1 : a < 0
  · have := Int32.lt_iff_toInt_lt.mp h1
    rw [if_pos h1, if_neg (by omega)]
  · have h1' : ¬ a.toInt < (0 : Int32).toInt := fun q => h1 (Int32.lt_iff_toInt_lt.mpr q)
    rw [if_neg h1]
    by_cases h2 : a ≤ nI C
    · have h2' := Int32.le_iff_toInt_le.mp h2
      rw [nI_toInt (by omega)] at h2'
      rw [if_pos h2, if_pos (by omega)]
    · have h2' : ¬ a.toInt ≤ (nI C).toInt := fun q => h2 (Int32.le_iff_toInt_le.mpr q)
      rw [nI_toInt (by omega)] at h2'
      rw [if_neg h2, if_neg (by omega)]
section SJ
variable {w : CW} {m : MW}
theorem o_rest (h : Gl w m) (a b : Int32) : OpR w (X8_rest w a b) (X9_rest m a b) (fun x y => x = y) Ksai := by
  have h' := h
  obtain ⟨C, R, hW, hS, hP, hT, hB⟩ := h'
  have hC12 := hW.1.2.2.2.2.1
  have hR12 := hW.1.2.2.2.2.2
  have w3 : X9_within a.toInt64 0 2 = some (if ins 3 a then 1 else 0) := rf_in (C := 3) (by omega) a
  by_cases hs : gM_isSmall m = 0
  · refine Or.inl ⟨_, 1, 0, sM_thrown m 1, by simp only [X8_rest, cl_nSm0 hS hs, Option.bind_some, Sum.elim_inl] <;> rfl, ?_, rfl, Gl_thrown h 1, Or.inl ⟨rfl, rfl⟩⟩
    simp only [X9_rest, hs, if_true, X9_rest_J13, w3, Option.bind_some, X9_rest_J30, rf_isRow hW, rf_isCol hW, X9_rest_J63, qs_1, ite_self]
  · obtain ⟨F, hR⟩ := hS.rl hs
    have e8 : X8_rest w a b = if ins 3 a then (if a = 0 then ((X8_needRow w b).bind (fun r29 : (String × CW) ⊕ (Unit) => Sum.elim (fun x29 : String × CW => some (.inl x29)) (fun r29 : Unit => (if inR b 12 = true then (some (.inr ((gC_rowRest w) b.toNatClampNeg))) else none)) r29)) else ((X8_needColumn w b).bind (fun r44 : (String × CW) ⊕ (Unit) => Sum.elim (fun x44 : String × CW => some (.inl x44)) (fun r44 : Unit => (if a = 1 then (if inR b 12 = true then (some (.inr ((gC_lowRest w) b.toNatClampNeg))) else none) else (if inR b 12 = true then (some (.inr ((gC_highRest w) b.toNatClampNeg))) else none))) r44))) else some (.inl ("java/lang/IllegalArgumentException", w)) := by
      simp only [X8_rest, cl_nSm1 hS hs, Option.bind_some, Sum.elim_inr, X8_rest_J13]
      exact cl_inle (C := 2) (by omega) a _ _
    rw [e8]
    by_cases h3 : ins 3 a
    · rw [if_pos h3]
      by_cases ha : a = 0
      · subst ha
        rw [if_pos rfl]
        by_cases hi : ins R b
        · obtain ⟨c, hc, rfl⟩ := ins_get hi (by omega)
          have hc12 : c < 12 := by omega
          exact Or.inr ⟨gC_rowRest w c, gM_rest m c, sM_thrown m 0, by simp only [cl_nRow hW, hi, if_true, Option.bind_some, Sum.elim_inr, inR12 hc12, cl12 hc12], by simp only [X9_rest, hs, if_false, Bool.false_eq_true, X9_rest_J13, w3, h3, if_true, Option.bind_some, i10, X9_rest_J30, rf_isRow hW, hi, X9_rest_J63, qs_000, inR12 hc12, cl12 hc12], (hR.2.2.2.1 c hc).1.2, rfl, Gl_thrown h 0⟩
        · exact Or.inl ⟨_, 3, 0, sM_thrown m 3, by simp only [cl_nRow hW, hi, if_false, Bool.false_eq_true, Option.bind_some, Sum.elim_inl] <;> rfl, by simp only [X9_rest, hs, if_false, Bool.false_eq_true, X9_rest_J13, w3, h3, if_true, Option.bind_some, i10, X9_rest_J30, rf_isRow hW, hi, X9_rest_J63, qs_001], rfl, Gl_thrown h 3, Or.inr (Or.inr ⟨rfl, rfl⟩)⟩
      · rw [if_neg ha]
        by_cases hi : ins C b
        · obtain ⟨c, hc, rfl⟩ := ins_get hi (by omega)
          have hc12 : c < 12 := by omega
          obtain ⟨⟨c1, c2, c3, c4, c5, c6⟩, -⟩ := hR.2.2.1 c hc
          by_cases h1 : a = 1
          · subst h1
            exact Or.inr ⟨gC_lowRest w c, gM_lowRest m c, sM_thrown m 0, by simp only [cl_nCol hW, hi, if_true, Option.bind_some, Sum.elim_inr, inR12 hc12, cl12 hc12], by simp only [X9_rest, hs, if_false, Bool.false_eq_true, X9_rest_J13, w3, h3, if_true, Option.bind_some, i10, X9_rest_J30, rf_isCol hW, hi, X9_rest_J63, qs_000, inR12 hc12, cl12 hc12], c5, rfl, Gl_thrown h 0⟩
          · exact Or.inr ⟨gC_highRest w c, gM_highRest m c, sM_thrown m 0, by simp only [cl_nCol hW, hi, if_true, Option.bind_some, Sum.elim_inr, inR12 hc12, cl12 hc12, h1, if_false, Bool.false_eq_true], by simp only [X9_rest, hs, if_false, Bool.false_eq_true, X9_rest_J13, w3, h3, if_true, Option.bind_some, i10, X9_rest_J30, ha, rf_isCol hW, hi, X9_rest_J63, qs_000, h1, inR12 hc12, cl12 hc12], c6, rfl, Gl_thrown h 0⟩
        · exact Or.inl ⟨_, 3, 0, sM_thrown m 3, by simp only [cl_nCol hW, hi, if_false, Bool.false_eq_true, Option.bind_some, Sum.elim_inl] <;> rfl, by simp only [X9_rest, hs, if_false, Bool.false_eq_true, X9_rest_J13, w3, h3, if_true, Option.bind_some, i10, X9_rest_J30, ha, rf_isCol hW, hi, X9_rest_J63, qs_001], rfl, Gl_thrown h 3, Or.inr (Or.inr ⟨rfl, rfl⟩)⟩
    · rw [if_neg h3]
      refine Or.inl ⟨_, 2, 0, sM_thrown m 2, rfl, ?_, rfl, Gl_thrown h 2, Or.inr (Or.inl ⟨rfl, rfl⟩)⟩
      simp only [X9_rest, hs, if_false, Bool.false_eq_true, X9_rest_J13, w3, h3, if_true, Option.bind_some, X9_rest_J30, rf_isRow hW, rf_isCol hW, X9_rest_J63, qs_01, ite_self]
theorem o_act (h : Gl w m) (a b : Int32) : OpR w (X8_act w a b) (X9_act_ m a b) (fun x y => x = y) Ksia := by
  have h' := h
  obtain ⟨C, R, hW, hS, hP, hT, hB⟩ := h'
  have w5 : X9_within b.toInt64 0 4 = some (if ins 5 b then 1 else 0) := rf_in (C := 5) (by omega) b
  by_cases hs : gM_isSmall m = 0
  · refine Or.inl ⟨_, 1, 0, sM_thrown m 1, by simp only [X8_act, cl_nSm0 hS hs, Option.bind_some, Sum.elim_inl] <;> rfl, ?_, rfl, Gl_thrown h 1, Or.inl ⟨rfl, rfl⟩⟩
    have tot : ∀ j, X9_act__J20 a b m j = some (0, sM_thrown m 1) := fun j => by
      have q : ∃ v, X9_within a.toInt64 0 ((j - 1).toInt64) = some v := by
        unfold X9_within
        split
        · exact ⟨_, rfl⟩
        · split <;> exact ⟨_, rfl⟩
      obtain ⟨v, hv⟩ := q
      simp only [X9_act__J20, hs, if_true, X9_act__J34, hv, Option.bind_some, X9_act__J52, w5, X9_act__J69, qs_1, ite_self]
    simp only [X9_act_, tot, ite_self]
  · obtain ⟨F, hR⟩ := hS.rl hs
    obtain ⟨k, k1, k2, k3, k4⟩ := hR.2.2.2.2.1
    obtain ⟨K, hK, hK400⟩ : ∃ K, K = min k 400 ∧ K ≤ 400 := ⟨_, rfl, by omega⟩
    have kc : X0_countKept w = some (nI K) := by
      simp only [X0_countKept, k2]
      by_cases e : 400 ≤ k
      · rw [if_pos (show (400 : Int32) ≤ nI k from nI_le (a := 400) e (by omega)), show K = 400 by omega] <;> rfl
      · rw [if_neg (show ¬ (400 : Int32) ≤ nI k from nI_ge (b := 400) (by omega) (by omega)), show K = k by omega]
    have km : X9_act_ m a b = X9_act__J34 a b m (nI K) 0 := by
      simp only [X9_act_, k3]
      by_cases e : 400 ≤ k
      · rw [if_pos (show (400 : Int32) ≤ nI k from nI_le (a := 400) e (by omega)), show K = 400 by omega]
        simp only [X9_act__J20, hs, if_false, Bool.false_eq_true] <;> rfl
      · rw [if_neg (show ¬ (400 : Int32) ≤ nI k from nI_ge (b := 400) (by omega) (by omega)), show K = k by omega]
        simp only [X9_act__J20, hs, if_false, Bool.false_eq_true]
    have e8 : X8_act w a b = if ins K a then (if ins 5 b then (if inR ((a * 5) + b) 2000 = true then (some (.inr ((gC_numbers w) ((a * 5) + b).toNatClampNeg))) else none) else some (.inl ("java/lang/IllegalArgumentException", w))) else some (.inl ("java/lang/IndexOutOfBoundsException", w)) := by
      simp only [X8_act, cl_nSm1 hS hs, Option.bind_some, Sum.elim_inr, X8_act_J22, X8_act_J41, kc]
      rw [show (5 : Int32) = nI 5 from rfl, cl_in (C := 5) (by omega) b, cl_in (C := K) (by omega) a]
    rw [e8, km]
    by_cases hi : ins K a
    · rw [if_pos hi]
      by_cases hj : ins 5 b
      · rw [if_pos hj]
        obtain ⟨i, hi2, rfl⟩ := ins_get hi (by omega)
        obtain ⟨j, hj2, rfl⟩ := ins_get hj (by omega)
        have ei : nI i * 5 + nI j = nI (5 * i + j) := by
          rw [show (5 : Int32) = nI 5 from rfl, nI_mul, nI_add, Nat.mul_comm]
        have r1 : inR (nI (5 * i + j)) 2000 = true := inRn (by omega) (by omega)
        have r2 : (nI (5 * i + j)).toNatClampNeg = 5 * i + j := nI_clamp (by omega)
        have r3 : inR (nI i) 400 = true := inRn (by omega) (by omega)
        have r4 : (nI i).toNatClampNeg = i := nI_clamp (by omega)
        rw [ei, if_pos r1, r2]
        obtain ⟨a1, a2, a3, a4, a5⟩ := k4 i (by omega) (by omega)
        have pre : X9_act__J34 (nI i) (nI j) m (nI K) 0 = X9_act__J69 (nI i) (nI j) m 0 0 0 := by
          simp only [X9_act__J34, rf_in (C := K) (by omega), hi, if_true, Option.bind_some, i10, if_false, Bool.false_eq_true, X9_act__J52, w5, hj]
        rw [pre]
        have : j = 0 ∨ j = 1 ∨ j = 2 ∨ j = 3 ∨ j = 4 := by omega
        rcases this with rfl | rfl | rfl | rfl | rfl
        · exact Or.inr ⟨_, (gM_actRule m i).toInt64, sM_thrown m 0, rfl, by simp only [X9_act__J69, qs_000, Option.bind_some, i10, if_false, Bool.false_eq_true, show nI 0 = 0 from rfl, if_true, r3, r4], a1, rfl, Gl_thrown h 0⟩
        · exact Or.inr ⟨_, (gM_actRow m i).toInt64, sM_thrown m 0, rfl, by simp only [X9_act__J69, qs_000, Option.bind_some, i10, if_false, Bool.false_eq_true, show nI 1 = 1 from rfl, if_true, r3, r4], a2, rfl, Gl_thrown h 0⟩
        · exact Or.inr ⟨_, (gM_actColumn m i).toInt64, sM_thrown m 0, rfl, by simp only [X9_act__J69, qs_000, Option.bind_some, i10, if_false, Bool.false_eq_true, show (nI 2 = 0) = False from by decide, show (nI 2 = 1) = False from by decide, show (nI 2 = 2) = True from by decide, if_true, r3, r4], a3, rfl, Gl_thrown h 0⟩
        · exact Or.inr ⟨_, (gM_actWhat m i).toInt64, sM_thrown m 0, rfl, by simp only [X9_act__J69, qs_000, Option.bind_some, i10, if_false, Bool.false_eq_true, show (nI 3 = 0) = False from by decide, show (nI 3 = 1) = False from by decide, show (nI 3 = 2) = False from by decide, show (nI 3 = 3) = True from by decide, if_true, r3, r4], a4, rfl, Gl_thrown h 0⟩
        · exact Or.inr ⟨_, gM_actValue m i, sM_thrown m 0, rfl, by simp only [X9_act__J69, qs_000, Option.bind_some, i10, if_false, Bool.false_eq_true, show (nI 4 = 0) = False from by decide, show (nI 4 = 1) = False from by decide, show (nI 4 = 2) = False from by decide, show (nI 4 = 3) = False from by decide, if_true, r3, r4], a5, rfl, Gl_thrown h 0⟩
      · rw [if_neg hj]
        exact Or.inl ⟨_, 3, 0, sM_thrown m 3, rfl, by simp only [X9_act__J34, rf_in (C := K) (by omega), hi, if_true, Option.bind_some, i10, if_false, Bool.false_eq_true, X9_act__J52, w5, hj, X9_act__J69, qs_001], rfl, Gl_thrown h 3, Or.inr (Or.inr ⟨rfl, rfl⟩)⟩
    · rw [if_neg hi]
      refine Or.inl ⟨_, 2, 0, sM_thrown m 2, rfl, ?_, rfl, Gl_thrown h 2, Or.inr (Or.inl ⟨rfl, rfl⟩)⟩
      simp only [X9_act__J34, rf_in (C := K) (by omega), hi, if_true, Option.bind_some, if_false, Bool.false_eq_true, X9_act__J52, w5, X9_act__J69, qs_01, ite_self]
end SJ
/-- a small that ends -/
def fresh (w : CW) (m : MW) : Prop := (gC_hasSmall w = 0 ∧ gC_putColumns w = 0 ∧ gC_hasTurned w = 0 ∧ gC_hasBest w = 0) ∧ gM_isSmall m = 0 ∧ (∀ c, c < 12 → gM_isPut m c = 0) ∧ gM_isTurned m = 0 ∧ gM_hasBest m = 0
theorem sh0 (x : Int32) : ((0 : Int32) >>> x) &&& 1 = 0 := by
  have : (0 : Int32) >>> x = 0 := Int32.toBitVec_inj.mp (by rw [Int32.toBitVec_shiftRight]; show BitVec.sshiftRight (0#32) _ = 0#32; simp)
  rw [this] <;> rfl
theorem Gl_fresh {C R : Nat} {w : CW} {m : MW} (h : Wh C R w m) (hf : fresh w m) : Gl w m := by
  obtain ⟨⟨f1, f2, f3, f4⟩, f5, f6, f7, f8⟩ := hf
  exact ⟨C, R, h, ⟨f1.trans f5.symm, Or.inl f5⟩, fun c hc => ⟨by rw [f2, sh0, f6 c hc], Or.inl (f6 c hc)⟩, ⟨f3.trans f7.symm, Or.inl f7⟩, ⟨f4.trans f8.symm, Or.inl f8⟩⟩
theorem rf_endPoints (m : MW) : ∃ f, X9_endPoints m = some (sM_hasBest (sM_isTurned (sM_isPut m f) 0) 0) ∧ ∀ c, c < 12 → f c = 0 := by
  obtain ⟨e, q1, f, q2, q3⟩ := iter_run (step := X9_endPoints_L2) (fun d s => ∃ i f, i + d = 12 ∧ s = (sM_isPut m f, nI i) ∧ ∀ c, c < i → f c = 0) (fun e => ∃ f, e = sM_isPut m f ∧ ∀ c, c < 12 → f c = 0) (fun d s hs => by
    obtain ⟨i, f, hid, rfl, hf⟩ := hs
    by_cases hi : i < 12
    · refine Or.inl ⟨_, by simp only [X9_endPoints_L2, show ¬ (12 : Int32) ≤ nI i from nC_le (C := 12) (by omega) hi, if_false, Bool.false_eq_true, inR12 hi, cl12 hi, if_true, bnd, nI_1] <;> rfl, d - 1, by omega, i + 1, upd f i 0, by omega, rfl, fun c hc => ?_⟩
      unfold upd
      by_cases e : c = i
      · rw [if_pos e]
      · rw [if_neg e]; exact hf c (by omega)
    · have : i = 12 := by omega
      subst this
      exact Or.inr ⟨_, by simp only [X9_endPoints_L2, show (12 : Int32) ≤ nI 12 from by decide, if_true], f, rfl, hf⟩) 12 5000 (m, 0) (by omega) ⟨0, gM_isPut m, by omega, rfl, fun c hc => by omega⟩
  subst q2
  exact ⟨f, by simp only [X9_endPoints, q1, Option.bind_some, bnd], q3⟩
theorem rf_endSmall (m : MW) : ∃ f, X9_endSmall m = some (sM_hasBest (sM_isTurned (sM_isPut (sM_isSmall m 0) f) 0) 0) ∧ ∀ c, c < 12 → f c = 0 := by
  obtain ⟨f, f1, f2⟩ := rf_endPoints (sM_isSmall m 0)
  exact ⟨f, by simp only [X9_endSmall, bnd, f1, Option.bind_some], f2⟩
theorem cl_endSmall (w : CW) : X8_endSmall w = some (sC_hasBest (sC_hasTurned (sC_putColumns (sC_hasSmall w 0) 0) 0) 0) := by
  simp only [X8_endSmall, X8_endPoints, bnd, Option.bind_some]
theorem rf_colLoop (m : MW) {C : Nat} (hC : C < 12) (hm : gM_columns m = nI C) : ∃ f, iter (X9_column_L114) 5000 (m, 0) = some (sM_coefficients m f) ∧ (∀ r, r < 12 → f (12 * r + C) = 0) ∧ ∀ r c, r < 12 → c < 12 → c ≠ C → f (12 * r + c) = gM_coefficients m (12 * r + c) := by
  obtain ⟨e, q1, f, q2, q3, q4⟩ := iter_run (step := X9_column_L114) (fun d s => ∃ i f, i + d = 12 ∧ s = (sM_coefficients m f, nI i) ∧ (∀ r, r < i → f (12 * r + C) = 0) ∧ ∀ r c, r < 12 → c < 12 → c ≠ C → f (12 * r + c) = gM_coefficients m (12 * r + c)) (fun e => ∃ f, e = sM_coefficients m f ∧ (∀ r, r < 12 → f (12 * r + C) = 0) ∧ ∀ r c, r < 12 → c < 12 → c ≠ C → f (12 * r + c) = gM_coefficients m (12 * r + c)) (fun d s hs => by
    obtain ⟨i, f, hid, rfl, h1, h2⟩ := hs
    have hw : gM_columns (sM_coefficients m f) = nI C := hm
    by_cases hi : i < 12
    · refine Or.inl ⟨_, by simp only [X9_column_L114, show ¬ (12 : Int32) ≤ nI i from nC_le (C := 12) (by omega) hi, if_false, Bool.false_eq_true, hw, ix144, inR144 hi hC, cl144 hi hC, if_true, bnd, nI_1] <;> rfl, d - 1, by omega, i + 1, upd f (12 * i + C) 0, by omega, rfl, fun r hr => ?_, fun r c hr hc hne => ?_⟩
      · unfold upd
        by_cases e : r = i
        · rw [if_pos (by rw [e])]
        · rw [if_neg (by omega)]; exact h1 r (by omega)
      · unfold upd; rw [if_neg (by omega)]; exact h2 r c hr hc hne
    · have : i = 12 := by omega
      subst this
      exact Or.inr ⟨_, by simp only [X9_column_L114, show (12 : Int32) ≤ nI 12 from by decide, if_true], f, rfl, h1, h2⟩) 12 5000 (m, 0) (by omega) ⟨0, gM_coefficients m, by omega, rfl, fun r hr => by omega, fun _ _ _ _ _ => rfl⟩
  subst q2
  exact ⟨f, q1, q3, q4⟩
theorem rf_rowLoop (m : MW) {R : Nat} (hR : R < 12) (hm : gM_rows m = nI R) : ∃ f, iter (X9_row_L74) 5000 (m, 0) = some (sM_coefficients m f) ∧ (∀ c, c < 12 → f (12 * R + c) = 0) ∧ ∀ r c, r < 12 → c < 12 → r ≠ R → f (12 * r + c) = gM_coefficients m (12 * r + c) := by
  obtain ⟨e, q1, f, q2, q3, q4⟩ := iter_run (step := X9_row_L74) (fun d s => ∃ i f, i + d = 12 ∧ s = (sM_coefficients m f, nI i) ∧ (∀ c, c < i → f (12 * R + c) = 0) ∧ ∀ r c, r < 12 → c < 12 → r ≠ R → f (12 * r + c) = gM_coefficients m (12 * r + c)) (fun e => ∃ f, e = sM_coefficients m f ∧ (∀ c, c < 12 → f (12 * R + c) = 0) ∧ ∀ r c, r < 12 → c < 12 → r ≠ R → f (12 * r + c) = gM_coefficients m (12 * r + c)) (fun d s hs => by
    obtain ⟨i, f, hid, rfl, h1, h2⟩ := hs
    have hw : gM_rows (sM_coefficients m f) = nI R := hm
    by_cases hi : i < 12
    · refine Or.inl ⟨_, by simp only [X9_row_L74, show ¬ (12 : Int32) ≤ nI i from nC_le (C := 12) (by omega) hi, if_false, Bool.false_eq_true, hw, ix144, inR144 hR hi, cl144 hR hi, if_true, bnd, nI_1] <;> rfl, d - 1, by omega, i + 1, upd f (12 * R + i) 0, by omega, rfl, fun c hc => ?_, fun r c hr hc hne => ?_⟩
      · unfold upd
        by_cases e : c = i
        · rw [if_pos (by rw [e])]
        · rw [if_neg (by omega)]; exact h1 c (by omega)
      · unfold upd; rw [if_neg (by omega)]; exact h2 r c hr hc hne
    · have : i = 12 := by omega
      subst this
      exact Or.inr ⟨_, by simp only [X9_row_L74, show (12 : Int32) ≤ nI 12 from by decide, if_true], f, rfl, h1, h2⟩) 12 5000 (m, 0) (by omega) ⟨0, gM_coefficients m, by omega, rfl, fun r hr => by omega, fun _ _ _ _ _ => rfl⟩
  subst q2
  exact ⟨f, q1, q3, q4⟩
/-- how an operation that writes ends on both sides -/
def OpW {α : Type} (x : Option ((String × CW) ⊕ (α × CW))) (y : Option (α × MW)) (K : String → Int32 → Prop) : Prop := (∃ e k v w' m', x = some (.inl (e, w')) ∧ y = some (v, m') ∧ gM_thrown m' = k ∧ Gl w' m' ∧ K e k) ∨ (∃ a w' m', x = some (.inr (a, w')) ∧ y = some (a, m') ∧ gM_thrown m' = 0 ∧ Gl w' m')
def OpU (x : Option ((String × CW) ⊕ CW)) (y : Option MW) (K : String → Int32 → Prop) : Prop := (∃ e k w' m', x = some (.inl (e, w')) ∧ y = some m' ∧ gM_thrown m' = k ∧ Gl w' m' ∧ K e k) ∨ (∃ w' m', x = some (.inr w') ∧ y = some m' ∧ gM_thrown m' = 0 ∧ Gl w' m')
def Ksa (e : String) (k : Int32) : Prop := (e = "java/lang/IllegalStateException" ∧ k = 1) ∨ (e = "java/lang/IllegalArgumentException" ∧ k = 2)
def Kia (e : String) (k : Int32) : Prop := (e = "java/lang/IndexOutOfBoundsException" ∧ k = 1) ∨ (e = "java/lang/IllegalArgumentException" ∧ k = 2)
def Ka (e : String) (k : Int32) : Prop := e = "java/lang/IllegalArgumentException" ∧ k = 1
theorem wi_iff {L : Nat} (hL : L ≤ 1000000000) {a : Int32} : wi (Int64.ofNat L) a.toInt64 = true ↔ -(L : Int) ≤ a.toInt ∧ a.toInt ≤ L := by
  have e1 : a.toInt64.toInt = a.toInt := Int32.toInt_toInt64 a
  have e2 : (Int64.ofNat L).toInt = L := Int64.toInt_ofNat_of_lt (by omega)
  have e3 : (-(Int64.ofNat L)).toInt = -(L : Int) := by rw [neg_ex (by omega), e2]
  unfold wi
  simp only [Bool.and_eq_true, Bool.not_eq_true', decide_eq_false_iff_not, decide_eq_true_eq]
  rw [Int64.lt_iff_toInt_lt, Int64.le_iff_toInt_le, e1, e2, e3]
  omega
section SK
variable {w : CW} {m : MW}
theorem o_column (h : Gl w m) (a b k : Int32) : OpW (X8_column w a b k) (X9_column m a b k) Ksa := by
  have h' := h
  obtain ⟨C, R, hW, -⟩ := h'
  obtain ⟨⟨d1, d2, d3, d4, d5, d6⟩, hc, hr, ha, hz, hst⟩ := hW
  have g1 := wi_iff (L := 10000) (by omega) (a := a)
  have g2 := wi_iff (L := 10000) (by omega) (a := b)
  have g3 := wi_iff (L := 1000) (by omega) (a := k)
  rw [show Int64.ofNat 10000 = 10000 from rfl] at g1 g2
  rw [show Int64.ofNat 1000 = 1000 from rfl] at g3
  -- the reference: what is asked
  have good : ∃ G : Int32, (G = 0 ∨ G = 1) ∧ X9_column m a b k = X9_column_J46 a b k m G ∧ (G = 1 ↔ (wi 10000 a.toInt64 = true ∧ wi 10000 b.toInt64 = true ∧ ¬ b < a ∧ wi 1000 k.toInt64 = true)) := by
    have e1 : X9_within a.toInt64 (-10000) 10000 = some (if wi 10000 a.toInt64 = true then 1 else 0) := rf_wi a.toInt64 10000
    have e3 : X9_within k.toInt64 (-1000) 1000 = some (if wi 1000 k.toInt64 = true then 1 else 0) := rf_wi k.toInt64 1000
    by_cases q1 : wi 10000 a.toInt64 = true
    · by_cases q2 : b < a
      · have e2 : X9_within b.toInt64 a.toInt64 10000 = some 0 := by
          unfold X9_within
          rw [if_pos (by rw [Int64.lt_iff_toInt_lt, Int32.toInt_toInt64, Int32.toInt_toInt64]; exact Int32.lt_iff_toInt_lt.mp q2)]
        exact ⟨0, Or.inl rfl, by simp only [X9_column, e1, q1, if_true, Option.bind_some, i10, if_false, Bool.false_eq_true, e2, X9_column_J45], by simp [q2]⟩
      · have q2' : ¬ b.toInt < a.toInt := fun z => q2 (Int32.lt_iff_toInt_lt.mpr z)
        have e2 : X9_within b.toInt64 a.toInt64 10000 = some (if wi 10000 b.toInt64 = true then 1 else 0) := by
          unfold X9_within
          rw [if_neg (by rw [Int64.lt_iff_toInt_lt, Int32.toInt_toInt64, Int32.toInt_toInt64]; exact q2')]
          by_cases q3 : wi 10000 b.toInt64 = true
          · rw [if_pos q3, if_neg]
            rw [Int64.lt_iff_toInt_lt, Int32.toInt_toInt64, show (10000 : Int64).toInt = 10000 from rfl]
            have := g2.mp q3; omega
          · rw [if_neg q3, if_pos]
            rw [Int64.lt_iff_toInt_lt, Int32.toInt_toInt64, show (10000 : Int64).toInt = 10000 from rfl]
            have h1 := g1.mp q1
            have h2 : ¬ _ := fun z => q3 (g2.mpr z)
            omega
        by_cases q3 : wi 10000 b.toInt64 = true
        · by_cases q4 : wi 1000 k.toInt64 = true
          · exact ⟨1, Or.inr rfl, by simp only [X9_column, e1, q1, if_true, Option.bind_some, i10, if_false, Bool.false_eq_true, e2, q3, e3, q4], by simp [q1, q2, q3, q4]⟩
          · exact ⟨0, Or.inl rfl, by simp only [X9_column, e1, q1, if_true, Option.bind_some, i10, if_false, Bool.false_eq_true, e2, q3, e3, q4, X9_column_J45, Bool.false_eq_true], by simp [q4]⟩
        · exact ⟨0, Or.inl rfl, by simp only [X9_column, e1, q1, if_true, Option.bind_some, i10, if_false, Bool.false_eq_true, e2, q3, X9_column_J45, Bool.false_eq_true], by simp [q3]⟩
    · exact ⟨0, Or.inl rfl, by simp only [X9_column, e1, q1, if_false, Bool.false_eq_true, Option.bind_some, if_true, X9_column_J45, Bool.false_eq_true], by simp [q1]⟩
  obtain ⟨G, hG, eG, iG⟩ := good
  rw [eG]
  by_cases hC : C < 12
  · have c12 : ¬ gM_columns m = 12 := by rw [d3, show (12 : Int32) = nI 12 from rfl, neq (by omega) (by omega)]; omega
    have cl12' : gT_columns (gC_whole w) < 12 := by rw [d1, show (12 : Int32) = nI 12 from rfl, nlt (by omega) (by omega)]; omega
    by_cases hg : G = 1
    · obtain ⟨q1, q3, q2, q4⟩ := iG.mp hg
      obtain ⟨f, f1, f2, f3⟩ := rf_colLoop (sM_costs (sM_highs (sM_lows (sM_thrown m 0) (upd (gM_lows m) C a)) (upd (gM_highs m) C b)) (upd (gM_costs m) C k)) hC d3
      obtain ⟨p, p1, p2⟩ := rf_endSmall (sM_columns (sM_coefficients (sM_costs (sM_highs (sM_lows (sM_thrown m 0) (upd (gM_lows m) C a)) (upd (gM_highs m) C b)) (upd (gM_costs m) C k)) f) (nI (C + 1)))
      have x3 : gM_columns (sM_thrown m 0) = nI C := d3
      have x4 : gM_columns (sM_lows (sM_thrown m 0) (upd (gM_lows (sM_thrown m 0)) C a)) = nI C := d3
      have x5 : gM_columns (sM_highs (sM_lows (sM_thrown m 0) (upd (gM_lows (sM_thrown m 0)) C a)) (upd (gM_highs (sM_lows (sM_thrown m 0) (upd (gM_lows (sM_thrown m 0)) C a))) C b)) = nI C := d3
      have x6 : gM_columns (sM_coefficients (sM_costs (sM_highs (sM_lows (sM_thrown m 0) (upd (gM_lows m) C a)) (upd (gM_highs m) C b)) (upd (gM_costs m) C k)) f) = nI C := d3
      refine Or.inr ⟨nI C, (sC_whole (sC_hasBest (sC_hasTurned (sC_putColumns (sC_hasSmall w 0) 0) 0) 0) (sT_columns (sT_cost (sT_high (sT_low (gC_whole w) (vp_updL (gT_low (gC_whole w)) C a.toInt64)) (vp_updL (gT_high (gC_whole w)) C b.toInt64)) (vp_updL (gT_cost (gC_whole w)) C k.toInt64)) (nI (C + 1)))), sM_hasBest (sM_isTurned (sM_isPut (sM_isSmall (sM_columns (sM_coefficients (sM_costs (sM_highs (sM_lows (sM_thrown m 0) (upd (gM_lows m) C a)) (upd (gM_highs m) C b)) (upd (gM_costs m) C k)) f) (nI (C + 1))) 0) p) 0) 0, ?_, ?_, ?_, ?_⟩
      · have y1 : gT_columns (gC_whole (sC_hasBest (sC_hasTurned (sC_putColumns (sC_hasSmall w 0) 0) 0) 0)) = nI C := d1
        simp only [X8_column, cl12', if_true, cl_bey, q1, q2, q3, q4, Option.bind_some, if_false, Bool.false_eq_true, cl_endSmall, y1, inR12 hC, cl12 hC, bnd, nI_1]
      · have y2 : gM_columns (sM_hasBest (sM_isTurned (sM_isPut (sM_isSmall (sM_columns (sM_coefficients (sM_costs (sM_highs (sM_lows (sM_thrown m 0) (upd (gM_lows m) C a)) (upd (gM_highs m) C b)) (upd (gM_costs m) C k)) f) (nI (C + 1))) 0) p) 0) 0) = nI (C + 1) := rfl
        have y3 : nI (C + 1) - 1 = nI C := by rw [← nI_1]; exact Int32.add_sub_cancel _ _
        have f1' : iter (X9_column_L114) 5000 (sM_costs (sM_highs (sM_lows (sM_thrown m 0) (upd (gM_lows (sM_thrown m 0)) C a)) (upd (gM_highs (sM_lows (sM_thrown m 0) (upd (gM_lows (sM_thrown m 0)) C a))) C b)) (upd (gM_costs (sM_highs (sM_lows (sM_thrown m 0) (upd (gM_lows (sM_thrown m 0)) C a)) (upd (gM_highs (sM_lows (sM_thrown m 0) (upd (gM_lows (sM_thrown m 0)) C a))) C b))) C k), 0) = _ := f1
        simp only [X9_column_J46, c12, if_false, Bool.false_eq_true, X9_column_J63, hg, i10, X9_column_J73, ps_00, Option.bind_some, x3, inR12 hC, cl12 hC, if_true, bnd, x4, x5, f1', x6, nI_1, p1, y2, y3]
      · rfl
      · refine Gl_fresh (C := C + 1) (R := R) ⟨⟨rfl, d2, rfl, d4, by omega, d6⟩, ?_, hr, ?_, ?_, hst⟩ ⟨⟨rfl, rfl, rfl, rfl⟩, rfl, p2, rfl, rfl⟩
        · intro c hc'
          unfold whC
          show (vp_updL (gT_low (gC_whole w)) C a.toInt64 c = (upd (gM_lows m) C a c).toInt64 ∧ vp_updL (gT_high (gC_whole w)) C b.toInt64 c = (upd (gM_highs m) C b c).toInt64 ∧ vp_updL (gT_cost (gC_whole w)) C k.toInt64 c = (upd (gM_costs m) C k c).toInt64) ∧ -10000 ≤ (upd (gM_lows m) C a c).toInt ∧ (upd (gM_lows m) C a c).toInt ≤ (upd (gM_highs m) C b c).toInt ∧ (upd (gM_highs m) C b c).toInt ≤ 10000 ∧ -1000 ≤ (upd (gM_costs m) C k c).toInt ∧ (upd (gM_costs m) C k c).toInt ≤ 1000
          unfold vp_updL upd
          by_cases e : c = C
          · simp only [e, if_true]
            have h1 := g1.mp q1
            have h2 := g2.mp q3
            have h3 := g3.mp q4
            have h4 : ¬ b.toInt < a.toInt := fun z => q2 (Int32.lt_iff_toInt_lt.mpr z)
            exact ⟨⟨trivial, trivial, trivial⟩, by omega⟩
          · simp only [e, if_false, Bool.false_eq_true]
            exact hc c (by omega)
        · intro r c hr' hc'
          unfold whA
          show gT_a (gC_whole w) r c = (f (12 * r + c)).toInt64 ∧ -1000 ≤ (f (12 * r + c)).toInt ∧ (f (12 * r + c)).toInt ≤ 1000
          by_cases e : c = C
          · rw [e, f2 r (by omega), hz r C (by omega) (by omega) (Or.inr (Nat.le_refl _))]
            exact ⟨rfl, by decide, by decide⟩
          · rw [f3 r c (by omega) (by omega) e]
            exact ha r c hr' (by omega)
        · intro r c hr' hc' ho
          exact hz r c hr' hc' (by omega)
    · have hg0 : G = 0 := by rcases hG with e | e
                             · exact e
                             · exact absurd e hg
      refine Or.inl ⟨"java/lang/IllegalArgumentException", 2, 0, w, sM_thrown m 2, ?_, ?_, rfl, Gl_thrown h 2, Or.inr ⟨rfl, rfl⟩⟩
      · simp only [X8_column, cl12', if_true, cl_bey, Option.bind_some, X8_column_J60]
        by_cases q1 : wi 10000 a.toInt64 = true
        · by_cases q3 : wi 10000 b.toInt64 = true
          · by_cases q2 : b < a
            · simp only [q1, q3, q2, if_true]
            · by_cases q4 : wi 1000 k.toInt64 = true
              · exact absurd (iG.mpr ⟨q1, q3, q2, q4⟩) hg
              · simp only [q1, q3, q2, q4, if_true, if_false, Bool.false_eq_true, i10, Bool.false_eq_true]
          · simp only [q1, q3, if_true, if_false, Bool.false_eq_true, i10, Bool.false_eq_true]
        · simp only [q1, if_false, Bool.false_eq_true, i10, Bool.false_eq_true]
      · simp only [X9_column_J46, c12, if_false, Bool.false_eq_true, X9_column_J63, hg0, if_true, X9_column_J73, ps_01, Option.bind_some]
  · have e : C = 12 := by omega
    subst e
    have c12 : gM_columns m = 12 := d3
    have cl12' : ¬ gT_columns (gC_whole w) < 12 := by rw [d1]; decide
    refine Or.inl ⟨"java/lang/IllegalStateException", 1, 0, w, sM_thrown m 1, by simp only [X8_column, cl12', if_false, Bool.false_eq_true], ?_, rfl, Gl_thrown h 1, Or.inl ⟨rfl, rfl⟩⟩
    simp only [X9_column_J46, c12, if_true, X9_column_J63, X9_column_J73, ps_1, Option.bind_some, ite_self]
end SK
