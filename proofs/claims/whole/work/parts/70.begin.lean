/-! a small begins; shrink -/
theorem cpy12 {α : Type} (f g : Nat → α) {c : Nat} (hc : c < 12) : va_cpy f g 0 0 12 c = f c := by
  unfold va_cpy
  rw [if_pos ⟨Nat.zero_le _, by omega⟩]
  simp
/-- what a copied table holds -/
def tabOf (t t' : cT) : Prop := gT_columns t' = gT_columns t ∧ gT_rows t' = gT_rows t ∧ (∀ c, c < 12 → gT_low t' c = gT_low t c ∧ gT_high t' c = gT_high t c ∧ gT_cost t' c = gT_cost t c ∧ gT_state t' c = gT_state t c ∧ gT_kind t' c = gT_kind t c ∧ gT_right t' c = gT_right t c) ∧ ∀ r c, r < 12 → c < 12 → gT_a t' r c = gT_a t r c
theorem cl_copy (w : CW) : ∃ t', X6_copyFrom w = some (sC_tab w t') ∧ tabOf (gC_whole w) t' := by
  have lp : ∀ w1 : CW, ∃ A, iter (X6_copyFrom_L108) 5000 (w1, 0) = some (sC_tab w1 (sT_a (gC_tab w1) A)) ∧ ∀ r c, r < 12 → c < 12 → A r c = gT_a (gC_whole w1) r c := fun w1 => by
    obtain ⟨e, q1, A, q2, q3⟩ := iter_run (step := X6_copyFrom_L108) (fun d s => ∃ i A, i + d = 12 ∧ s = (sC_tab w1 (sT_a (gC_tab w1) A), nI i) ∧ ∀ r c, r < i → c < 12 → A r c = gT_a (gC_whole w1) r c) (fun e => ∃ A, e = sC_tab w1 (sT_a (gC_tab w1) A) ∧ ∀ r c, r < 12 → c < 12 → A r c = gT_a (gC_whole w1) r c) (fun d s hs => by
      obtain ⟨i, A, hid, rfl, h1⟩ := hs
      by_cases hi : i < 12
      · refine Or.inl ⟨_, by simp only [X6_copyFrom_L108, show ¬ (12 : Int32) ≤ nI i from nC_le (C := 12) (by omega) hi, if_false, Bool.false_eq_true, inR12 hi, cl12 hi, if_true, bnd, nI_1] <;> rfl, d - 1, by omega, i + 1, va_up A i (va_cpy (gT_a (gC_whole w1) i) (A i) 0 0 12), by omega, rfl, fun r c hr hc => ?_⟩
        by_cases e : r = i
        · rw [e, va_up_self, cpy12 _ _ hc]
        · rw [va_up_ne _ _ e]; exact h1 r c (by omega) hc
      · have : i = 12 := by omega
        subst this
        exact Or.inr ⟨_, by simp only [X6_copyFrom_L108, show (12 : Int32) ≤ nI 12 from by decide, if_true], A, rfl, h1⟩) 12 5000 (w1, 0) (by omega) ⟨0, gT_a (gC_tab w1), by omega, rfl, fun r c hr hc => by omega⟩
    subst q2
    exact ⟨A, q1, q3⟩
  obtain ⟨A, a1, a2⟩ := lp (sC_tab w (va_cpy (gT_low (gC_whole w)) (gT_low (gC_tab w)) 0 0 12, va_cpy (gT_high (gC_whole w)) (gT_high (gC_tab w)) 0 0 12, va_cpy (gT_cost (gC_whole w)) (gT_cost (gC_tab w)) 0 0 12, va_cpy (gT_state (gC_whole w)) (gT_state (gC_tab w)) 0 0 12, va_cpy (gT_kind (gC_whole w)) (gT_kind (gC_tab w)) 0 0 12, va_cpy (gT_right (gC_whole w)) (gT_right (gC_tab w)) 0 0 12, gT_a (gC_tab w), gT_columns (gC_whole w), gT_rows (gC_whole w)))
  refine ⟨(va_cpy (gT_low (gC_whole w)) (gT_low (gC_tab w)) 0 0 12, va_cpy (gT_high (gC_whole w)) (gT_high (gC_tab w)) 0 0 12, va_cpy (gT_cost (gC_whole w)) (gT_cost (gC_tab w)) 0 0 12, va_cpy (gT_state (gC_whole w)) (gT_state (gC_tab w)) 0 0 12, va_cpy (gT_kind (gC_whole w)) (gT_kind (gC_tab w)) 0 0 12, va_cpy (gT_right (gC_whole w)) (gT_right (gC_tab w)) 0 0 12, A, gT_columns (gC_whole w), gT_rows (gC_whole w)), ?_, rfl, rfl, fun c hc => ⟨cpy12 _ _ hc, cpy12 _ _ hc, cpy12 _ _ hc, cpy12 _ _ hc, cpy12 _ _ hc, cpy12 _ _ hc⟩, a2⟩
  simp only [X6_copyFrom, bnd]
  exact (congrArg (fun z => Option.bind z (fun z108 : CW => some z108)) a1)
theorem cl_begin (w : CW) : ∃ t' rr lr hr nn, X5_beginAs w = some (w.1, t', (rr, lr, hr, gC_numbers w, 0, 0, -1, gC_rule w, gC_putInColumn w, gC_putInShift w, nn, 0), w.2.2.2) ∧ tabOf (gC_whole w) t' ∧ ∀ c, c < 12 → rr c = 1 <<< (nI c &&& 31) ∧ lr c = 0 ∧ hr c = 0 := by
  obtain ⟨t', t1, t2⟩ := cl_copy w
  obtain ⟨e, q1, rr, lr, hr, q2, q3⟩ := iter_run (step := X5_beginAs_L10) (fun d s => ∃ i rr lr hr, i + d = 12 ∧ s = (sC_highRest (sC_lowRest (sC_rowRest (sC_tab w t') rr) lr) hr, nI i) ∧ ∀ c, c < i → rr c = 1 <<< (nI c &&& 31) ∧ lr c = 0 ∧ hr c = 0) (fun e => ∃ rr lr hr, e = sC_highRest (sC_lowRest (sC_rowRest (sC_tab w t') rr) lr) hr ∧ ∀ c, c < 12 → rr c = 1 <<< (nI c &&& 31) ∧ lr c = 0 ∧ hr c = 0) (fun d s hs => by
    obtain ⟨i, rr, lr, hr, hid, rfl, h1⟩ := hs
    by_cases hi : i < 12
    · refine Or.inl ⟨_, by simp only [X5_beginAs_L10, show ¬ (12 : Int32) ≤ nI i from nC_le (C := 12) (by omega) hi, if_false, Bool.false_eq_true, inR12 hi, cl12 hi, if_true, bnd, nI_1] <;> rfl, d - 1, by omega, i + 1, upd rr i (1 <<< (nI i &&& 31)), upd lr i 0, upd hr i 0, by omega, rfl, fun c hc => ?_⟩
      unfold upd
      by_cases e : c = i
      · simp only [e, if_true]; exact ⟨trivial, trivial, trivial⟩
      · simp only [e, if_false, Bool.false_eq_true]; exact h1 c (by omega)
    · have : i = 12 := by omega
      subst this
      exact Or.inr ⟨_, by simp only [X5_beginAs_L10, show (12 : Int32) ≤ nI 12 from by decide, if_true], rr, lr, hr, rfl, h1⟩) 12 5000 (sC_tab w t', 0) (by omega) ⟨0, gC_rowRest w, gC_lowRest w, gC_highRest w, by omega, rfl, fun c hc => by omega⟩
  subst q2
  exact ⟨t', rr, lr, hr, gC_putInFactors w, by simp only [X5_beginAs, t1, Option.bind_some, q1, bnd], t2, q3⟩
/-- what of a small stays when its columns and rows are made -/
def keep (m m1 : MW) : Prop := m1.1 = m.1 ∧ m1.2.2 = m.2.2 ∧ gM_isSmall m1 = gM_isSmall m ∧ gM_offset m1 = gM_offset m ∧ gM_certificate m1 = gM_certificate m ∧ gM_acts m1 = gM_acts m
def colMade (m1 : MW) (c : Nat) : Prop := gM_state m1 c = 0 ∧ gM_low m1 c = gM_lows m1 c ∧ gM_high m1 c = gM_highs m1 c ∧ gM_cost m1 c = (gM_costs m1 c).toInt64 ∧ gM_lowRest m1 c = 0 ∧ gM_highRest m1 c = 0
def rowMade (C : Nat) (m1 : MW) (r : Nat) : Prop := gM_gone m1 r = 0 ∧ gM_kind m1 r = gM_kinds m1 r ∧ gM_right m1 r = (gM_rights m1 r).toInt64 ∧ gM_rest m1 r = 1 <<< (nI r &&& 31) ∧ ∀ c, c < C → gM_coef m1 (12 * r + c) = (gM_coefficients m1 (12 * r + c)).toInt64
theorem rf_cols (m : MW) {C : Nat} (hC : C ≤ 12) (hm : gM_columns m = nI C) : ∃ m1, iter (X9_makeSmall_L31) 5000 (m, 0) = some m1 ∧ keep m m1 ∧ ∀ c, c < C → colMade m1 c := by
  obtain ⟨e, q1, q2, q3⟩ := iter_run (step := X9_makeSmall_L31) (fun d s => ∃ i m1, i + d = C ∧ s = (m1, nI i) ∧ keep m m1 ∧ ∀ c, c < i → colMade m1 c) (fun e => keep m e ∧ ∀ c, c < C → colMade e c) (fun d s hs => by
    obtain ⟨i, m1, hid, rfl, h1, h2⟩ := hs
    have hw : gM_columns m1 = nI C := by rw [show gM_columns m1 = m1.1.1 from rfl, h1.1]; exact hm
    by_cases hi : i < C
    · have hi12 : i < 12 := by omega
      refine Or.inl ⟨(sM_highRest (sM_lowRest (sM_cost (sM_high (sM_low (sM_state m1 (upd (gM_state m1) i 0)) (upd (gM_low m1) i (gM_lows m1 i))) (upd (gM_high m1) i (gM_highs m1 i))) (vp_updL (gM_cost m1) i (gM_costs m1 i).toInt64)) (upd (gM_lowRest m1) i 0)) (upd (gM_highRest m1) i 0), nI (i + 1)), by simp only [X9_makeSmall_L31, hw, nC_le hC hi, if_false, Bool.false_eq_true, inR12 hi12, cl12 hi12, if_true, bnd, nI_1] <;> rfl, d - 1, by omega, i + 1, _, by omega, rfl, ⟨h1.1, h1.2.1, h1.2.2.1, h1.2.2.2.1, h1.2.2.2.2.1, h1.2.2.2.2.2⟩, fun c hc => ?_⟩
      unfold colMade
      show upd (gM_state m1) i 0 c = 0 ∧ upd (gM_low m1) i (gM_lows m1 i) c = gM_lows m1 c ∧ upd (gM_high m1) i (gM_highs m1 i) c = gM_highs m1 c ∧ vp_updL (gM_cost m1) i ((gM_costs m1 i).toInt64) c = (gM_costs m1 c).toInt64 ∧ upd (gM_lowRest m1) i 0 c = 0 ∧ upd (gM_highRest m1) i 0 c = 0
      unfold upd vp_updL
      by_cases e : c = i
      · subst e; simp only [if_true]; exact ⟨trivial, trivial, trivial, trivial, trivial, trivial⟩
      · simp only [e, if_false, Bool.false_eq_true]; exact h2 c (by omega)
    · have : i = C := by omega
      subst this
      exact Or.inr ⟨_, by simp only [X9_makeSmall_L31, hw, Int32.le_refl, if_true], h1, h2⟩) C 5000 (m, 0) (by omega) ⟨0, m, by omega, rfl, ⟨rfl, rfl, rfl, rfl, rfl, rfl⟩, fun c hc => by omega⟩
  exact ⟨e, q1, q2, q3⟩
theorem rf_rows (m : MW) {C R : Nat} (hC : C ≤ 12) (hR : R ≤ 12) (hm : gM_columns m = nI C) (hm2 : gM_rows m = nI R) (hc : ∀ c, c < C → colMade m c) : ∃ m1, iter (X9_makeSmall_L105) 5000 (m, 0) = some m1 ∧ keep m m1 ∧ (∀ c, c < C → colMade m1 c) ∧ ∀ r, r < R → rowMade C m1 r := by
  have inner : ∀ (s : MW × Int32) (m1 : MW) (i : Nat), i < 12 → s.2 = nI i → gM_columns m1 = nI C → ∃ K, iter (X9_makeSmall_L156 s) 5000 (m1, 0) = some (sM_coef m1 K) ∧ (∀ c, c < C → K (12 * i + c) = (gM_coefficients m1 (12 * i + c)).toInt64) ∧ ∀ r c, r ≠ i → c < 12 → K (12 * r + c) = gM_coef m1 (12 * r + c) := fun s m1 i hi hs hw1 => by
    obtain ⟨e, q1, K, q2, q3, q4⟩ := iter_run (step := X9_makeSmall_L156 s) (fun d z => ∃ j K, j + d = C ∧ z = (sM_coef m1 K, nI j) ∧ (∀ c, c < j → K (12 * i + c) = (gM_coefficients m1 (12 * i + c)).toInt64) ∧ ∀ r c, r ≠ i → c < 12 → K (12 * r + c) = gM_coef m1 (12 * r + c)) (fun e => ∃ K, e = sM_coef m1 K ∧ (∀ c, c < C → K (12 * i + c) = (gM_coefficients m1 (12 * i + c)).toInt64) ∧ ∀ r c, r ≠ i → c < 12 → K (12 * r + c) = gM_coef m1 (12 * r + c)) (fun d z hz => by
      obtain ⟨j, K, hid, rfl, h1, h2⟩ := hz
      have hw : gM_columns (sM_coef m1 K) = nI C := hw1
      by_cases hj : j < C
      · have hj12 : j < 12 := by omega
        refine Or.inl ⟨_, by simp only [X9_makeSmall_L156, hw, nC_le hC hj, if_false, Bool.false_eq_true, hs, ix144, inR144 hi hj12, cl144 hi hj12, if_true, bnd, nI_1] <;> rfl, d - 1, by omega, j + 1, vp_updL K (12 * i + j) ((gM_coefficients m1 (12 * i + j)).toInt64), by omega, rfl, fun c hc => ?_, fun r c hr hc => ?_⟩
        · unfold vp_updL
          by_cases e : c = j
          · subst e; rw [if_pos rfl]
          · rw [if_neg (by omega)]; exact h1 c (by omega)
        · unfold vp_updL; rw [if_neg (by omega)]; exact h2 r c hr hc
      · have : j = C := by omega
        subst this
        exact Or.inr ⟨_, by simp only [X9_makeSmall_L156, hw, Int32.le_refl, if_true], K, rfl, h1, h2⟩) C 5000 (m1, 0) (by omega) ⟨0, gM_coef m1, by omega, rfl, fun c hc => by omega, fun _ _ _ _ => rfl⟩
    subst q2
    exact ⟨K, q1, q3, q4⟩
  obtain ⟨e, q1, q2, q3, q4⟩ := iter_run (step := X9_makeSmall_L105) (fun d s => ∃ i m1, i + d = R ∧ s = (m1, nI i) ∧ keep m m1 ∧ (∀ c, c < C → colMade m1 c) ∧ ∀ r, r < i → rowMade C m1 r) (fun e => keep m e ∧ (∀ c, c < C → colMade e c) ∧ ∀ r, r < R → rowMade C e r) (fun d s hs => by
    obtain ⟨i, m1, hid, rfl, h1, hcm, h2⟩ := hs
    have hw : gM_rows m1 = nI R := by rw [show gM_rows m1 = m1.1.2.1 from rfl, h1.1]; exact hm2
    have hw3 : gM_columns m1 = nI C := by rw [show gM_columns m1 = m1.1.1 from rfl, h1.1]; exact hm
    by_cases hi : i < R
    · have hi12 : i < 12 := by omega
      obtain ⟨K, k1, k2, k3⟩ := inner (m1, nI i) (sM_rest (sM_right (sM_kind (sM_gone m1 (upd (gM_gone m1) i 0)) (upd (gM_kind m1) i (gM_kinds m1 i))) (vp_updL (gM_right m1) i ((gM_rights m1 i).toInt64))) (upd (gM_rest m1) i (1 <<< (nI i &&& 31)))) i hi12 rfl hw3
      have k1' : iter (X9_makeSmall_L156 (m1, nI i)) 5000 (sM_rest (sM_right (sM_kind (sM_gone m1 (upd (gM_gone m1) i (vp_nar .boolean 0))) (upd (gM_kind (sM_gone m1 (upd (gM_gone m1) i (vp_nar .boolean 0)))) i (gM_kinds (sM_gone m1 (upd (gM_gone m1) i (vp_nar .boolean 0))) i))) (vp_updL (gM_right (sM_kind (sM_gone m1 (upd (gM_gone m1) i (vp_nar .boolean 0))) (upd (gM_kind (sM_gone m1 (upd (gM_gone m1) i (vp_nar .boolean 0)))) i (gM_kinds (sM_gone m1 (upd (gM_gone m1) i (vp_nar .boolean 0))) i)))) i ((gM_rights (sM_kind (sM_gone m1 (upd (gM_gone m1) i (vp_nar .boolean 0))) (upd (gM_kind (sM_gone m1 (upd (gM_gone m1) i (vp_nar .boolean 0)))) i (gM_kinds (sM_gone m1 (upd (gM_gone m1) i (vp_nar .boolean 0))) i))) i).toInt64))) (upd (gM_rest (sM_right (sM_kind (sM_gone m1 (upd (gM_gone m1) i (vp_nar .boolean 0))) (upd (gM_kind (sM_gone m1 (upd (gM_gone m1) i (vp_nar .boolean 0)))) i (gM_kinds (sM_gone m1 (upd (gM_gone m1) i (vp_nar .boolean 0))) i))) (vp_updL (gM_right (sM_kind (sM_gone m1 (upd (gM_gone m1) i (vp_nar .boolean 0))) (upd (gM_kind (sM_gone m1 (upd (gM_gone m1) i (vp_nar .boolean 0)))) i (gM_kinds (sM_gone m1 (upd (gM_gone m1) i (vp_nar .boolean 0))) i)))) i ((gM_rights (sM_kind (sM_gone m1 (upd (gM_gone m1) i (vp_nar .boolean 0))) (upd (gM_kind (sM_gone m1 (upd (gM_gone m1) i (vp_nar .boolean 0)))) i (gM_kinds (sM_gone m1 (upd (gM_gone m1) i (vp_nar .boolean 0))) i))) i).toInt64)))) i (1 <<< (nI i &&& 31))), 0) = some (sM_coef (sM_rest (sM_right (sM_kind (sM_gone m1 (upd (gM_gone m1) i 0)) (upd (gM_kind m1) i (gM_kinds m1 i))) (vp_updL (gM_right m1) i ((gM_rights m1 i).toInt64))) (upd (gM_rest m1) i (1 <<< (nI i &&& 31)))) K) := k1
      refine Or.inl ⟨(sM_coef (sM_rest (sM_right (sM_kind (sM_gone m1 (upd (gM_gone m1) i 0)) (upd (gM_kind m1) i (gM_kinds m1 i))) (vp_updL (gM_right m1) i ((gM_rights m1 i).toInt64))) (upd (gM_rest m1) i (1 <<< (nI i &&& 31)))) K, nI (i + 1)), by simp only [X9_makeSmall_L105, hw, nC_le hR hi, if_false, Bool.false_eq_true, inR12 hi12, cl12 hi12, if_true, bnd, k1', Option.bind_some, nI_1], d - 1, by omega, i + 1, _, by omega, rfl, ⟨h1.1, h1.2.1, h1.2.2.1, h1.2.2.2.1, h1.2.2.2.2.1, h1.2.2.2.2.2⟩, hcm, fun r hr => ?_⟩
      unfold rowMade
      show upd (gM_gone m1) i 0 r = 0 ∧ upd (gM_kind m1) i (gM_kinds m1 i) r = gM_kinds m1 r ∧ vp_updL (gM_right m1) i ((gM_rights m1 i).toInt64) r = (gM_rights m1 r).toInt64 ∧ upd (gM_rest m1) i (1 <<< (nI i &&& 31)) r = 1 <<< (nI r &&& 31) ∧ ∀ c, c < C → K (12 * r + c) = (gM_coefficients m1 (12 * r + c)).toInt64
      by_cases e : r = i
      · subst e
        unfold upd vp_updL
        simp only [if_true]
        exact ⟨trivial, trivial, trivial, trivial, k2⟩
      · obtain ⟨y1, y2, y3, y4, y5⟩ := h2 r (by omega)
        unfold upd vp_updL
        simp only [e, if_false, Bool.false_eq_true]
        exact ⟨y1, y2, y3, y4, fun c hc => by rw [k3 r c e (by omega)]; exact y5 c hc⟩
    · have : i = R := by omega
      subst this
      exact Or.inr ⟨_, by simp only [X9_makeSmall_L105, hw, Int32.le_refl, if_true], h1, hcm, h2⟩) R 5000 (m, 0) (by omega) ⟨0, m, by omega, rfl, ⟨rfl, rfl, rfl, rfl, rfl, rfl⟩, hc, fun r hr => by omega⟩
  exact ⟨e, q1, q2, q3, q4⟩
theorem mk_bit {r : Nat} (h : r < 12) : mk (1 <<< (nI r &&& 31)) := by
  have : r = 0 ∨ r = 1 ∨ r = 2 ∨ r = 3 ∨ r = 4 ∨ r = 5 ∨ r = 6 ∨ r = 7 ∨ r = 8 ∨ r = 9 ∨ r = 10 ∨ r = 11 := by omega
  unfold mk
  rcases this with rfl | rfl | rfl | rfl | rfl | rfl | rfl | rfl | rfl | rfl | rfl | rfl <;> decide
section SM2
variable {C R : Nat} {w : CW} {m : MW}
theorem Wh_eq (h : Wh C R w m) {w' : CW} {m' : MW} (e1 : w'.1 = w.1) (e2 : m'.1 = m.1) : Wh C R w' m' := by
  obtain ⟨a, b⟩ := w
  obtain ⟨a', b'⟩ := w'
  obtain ⟨p, q⟩ := m
  obtain ⟨p', q'⟩ := m'
  dsimp only at e1 e2
  subst e1 e2
  exact h
theorem rf_make (h : Wh C R w m) : ∃ m', X9_makeSmall m = some m' ∧ m'.1 = m.1 ∧ gM_thrown m' = gM_thrown m ∧ (gM_isSmall m' = 1 ∧ (∀ c, c < 12 → gM_isPut m' c = 0) ∧ gM_isTurned m' = 0 ∧ gM_hasBest m' = 0) ∧ (gM_offset m' = 0 ∧ gM_certificate m' = -1 ∧ gM_acts m' = 0 ∧ gM_putIns m' = 0) ∧ (∀ c, c < C → colMade m' c) ∧ ∀ r, r < R → rowMade C m' r := by
  obtain ⟨⟨d1, d2, d3, d4, d5, d6⟩, -⟩ := h
  obtain ⟨p, p1, p2⟩ := rf_endPoints (sM_isSmall m 1)
  obtain ⟨m1, a1, a2, a3⟩ := rf_cols (sM_putIns (sM_acts (sM_certificate (sM_offset (sM_hasBest (sM_isTurned (sM_isPut (sM_isSmall m 1) p) 0) 0) 0) (-1)) 0) 0) d5 d3
  have hm1 : gM_columns m1 = nI C := by rw [show gM_columns m1 = m1.1.1 from rfl, a2.1]; exact d3
  have hm2 : gM_rows m1 = nI R := by rw [show gM_rows m1 = m1.1.2.1 from rfl, a2.1]; exact d4
  obtain ⟨m2, b1, b2, b3, b4⟩ := rf_rows m1 d5 d6 hm1 hm2 a3
  have k2 : m2.2.2 = (sM_putIns (sM_acts (sM_certificate (sM_offset (sM_hasBest (sM_isTurned (sM_isPut (sM_isSmall m 1) p) 0) 0) 0) (-1)) 0) 0).2.2 := b2.2.1.trans a2.2.1
  refine ⟨m2, by simp only [X9_makeSmall, bnd, p1, Option.bind_some, a1, b1], b2.1.trans a2.1, ?_, ⟨b2.2.2.1.trans a2.2.2.1, fun c hc => ?_, ?_, ?_⟩, ⟨b2.2.2.2.1.trans a2.2.2.2.1, b2.2.2.2.2.1.trans a2.2.2.2.2.1, b2.2.2.2.2.2.trans a2.2.2.2.2.2, ?_⟩, b3, b4⟩
  · show m2.2.2.2.1 = _; rw [k2]
  · show m2.2.2.2.2.1 c = 0; rw [k2]; exact p2 c hc
  · show m2.2.2.2.2.2.2.1 = 0; rw [k2]
  · show m2.2.2.2.2.2.2.2.2.1 = 0; rw [k2]
  · show m2.2.2.1.2.2.2.2.2.1 = 0; rw [k2]
theorem Rl_begin (h : Wh C R w m) {t' : cT} {rr lr hr : Nat → Int32} {nu : Nat → Int64} {ru : Int32} {pc : Nat → Int32} {ps : Nat → Int64} {nn : Nat → Nat → Int64} {cm : cM} (ht : tabOf (gC_whole w) t') (hrest : ∀ c, c < 12 → rr c = 1 <<< (nI c &&& 31) ∧ lr c = 0 ∧ hr c = 0) {m' : MW} (e1 : m'.1 = m.1) (e2 : gM_offset m' = 0 ∧ gM_certificate m' = -1 ∧ gM_acts m' = 0 ∧ gM_putIns m' = 0) (hc : ∀ c, c < C → colMade m' c) (hrw : ∀ r, r < R → rowMade C m' r) : Rl C R (w.1, cm, m'.1, m'.2.2.2, gM_isSmall m', ru) 0 (w.1, t', (rr, lr, hr, nu, 0, 0, -1, ru, pc, ps, nn, 0), cm) m' := by
  have h' : Wh C R w m' := Wh_eq h rfl e1
  obtain ⟨⟨d1, d2, d3, d4, d5, d6⟩, wc, wr, wa, wz, ws⟩ := h'
  obtain ⟨t1, t2, t3, t4⟩ := ht
  obtain ⟨o1, o2, o3, o4⟩ := e2
  refine ⟨⟨t1.trans d1, t2.trans d2, d3, d4, d5, d6⟩, ⟨rfl, rfl, rfl, rfl, rfl, rfl⟩, fun c hc' => ?_, fun r hr' => ?_, ⟨0, by omega, rfl, o3, fun i hi => by omega⟩, ⟨0, ?_, rfl, o4, fun i hi => by omega⟩, o1.symm, o2.symm⟩
  · obtain ⟨c1, c2, c3, c4, c5, c6⟩ := hc c hc'
    obtain ⟨⟨u1, u2, u3⟩, u4, u5, u6, u7, u8⟩ := wc c hc'
    obtain ⟨v1, v2, v3, v4, v5, v6⟩ := t3 c (by omega)
    obtain ⟨r1, r2, r3⟩ := hrest c (by omega)
    refine ⟨⟨?_, ?_, ?_, ?_, ?_, ?_⟩, ?_, ?_, ?_, ?_, ?_, ?_⟩
    · exact (v4.trans (ws c)).trans c1.symm
    · show gT_low t' c = (gM_low m' c).toInt64
      rw [v1, c2]; exact u1
    · show gT_high t' c = (gM_high m' c).toInt64
      rw [v2, c3]; exact u2
    · show gT_cost t' c = gM_cost m' c
      rw [v3, c4]; exact u3
    · exact r2.trans c5.symm
    · exact r3.trans c6.symm
    · rw [c5]; exact mk_0
    · rw [c6]; exact mk_0
    · rw [c2]; exact u4
    · rw [c2, c3]; exact u5
    · rw [c3]; exact u6
    · rw [c4]; unfold big; rw [Int32.toInt_toInt64]; omega
  · obtain ⟨c1, c2, c3, c4, c5⟩ := hrw r hr'
    obtain ⟨⟨u1, u2⟩, u3, u4, u5⟩ := wr r hr'
    obtain ⟨v1, v2, v3, v4, v5, v6⟩ := t3 r (by omega)
    obtain ⟨r1, r2, r3⟩ := hrest r (by omega)
    refine ⟨⟨?_, ?_⟩, ?_, ?_, ?_, Or.inl ⟨c1, ?_, fun c hc' => ?_⟩⟩
    · show gT_right t' r = gM_right m' r
      rw [v6, c3]; exact u2
    · exact r1.trans c4.symm
    · rw [c4]; exact mk_bit (by omega)
    · rw [c2]; exact u3
    · rw [c3]; unfold big; rw [Int32.toInt_toInt64]; omega
    · show gT_kind t' r = gM_kind m' r
      rw [v5, c2]; exact u1
    · obtain ⟨y1, y2, y3⟩ := wa r c hr' hc'
      have st := (hc c hc').1
      have et : tm m' r c = (gM_coefficients m' (12 * r + c)).toInt64 := by rw [tm_is st, c5 c hc']
      rw [et]
      refine ⟨?_, ?_⟩
      · show gT_a t' r c = _
        rw [t4 r c (by omega) (by omega)]; exact y1
      · unfold big; rw [Int32.toInt_toInt64]; omega
  · symm
    rw [cntN_zero]
    intro i hi
    rw [(hc i hi).1] <;> rfl
end SM2
theorem o_shrink {w : CW} {m : MW} (h : Gl w m) (a b : Int32) : OpW (X8_shrink w a b) (X9_shrink m a b) Ka := by
  have h' := h
  obtain ⟨C, R, hW, -⟩ := h'
  have w1 : X9_within a.toInt64 0 2047 = some (if ins 2048 a then 1 else 0) := rf_in (C := 2048) (by omega) a
  have w2 : X9_within b.toInt64 1 50 = some (if 1 ≤ b.toInt ∧ b.toInt ≤ 50 then 1 else 0) := by
    unfold X9_within
    have e : b.toInt64.toInt = b.toInt := Int32.toInt_toInt64 b
    by_cases q1 : b.toInt64 < 1
    · have := Int64.lt_iff_toInt_lt.mp q1
      rw [e, show (1 : Int64).toInt = 1 from rfl] at this
      rw [if_pos q1, if_neg (by omega)]
    · have q1' : ¬ b.toInt64.toInt < (1 : Int64).toInt := fun z => q1 (Int64.lt_iff_toInt_lt.mpr z)
      rw [e, show (1 : Int64).toInt = 1 from rfl] at q1'
      rw [if_neg q1]
      by_cases q2 : 50 < b.toInt64
      · have := Int64.lt_iff_toInt_lt.mp q2
        rw [e, show (50 : Int64).toInt = 50 from rfl] at this
        rw [if_pos q2, if_neg (by omega)]
      · have q2' : ¬ (50 : Int64).toInt < b.toInt64.toInt := fun z => q2 (Int64.lt_iff_toInt_lt.mpr z)
        rw [e, show (50 : Int64).toInt = 50 from rfl] at q2'
        rw [if_neg q2, if_pos (by omega)]
  have z0 : (0 : Int32).toInt = 0 := rfl
  have z1 : (1 : Int32).toInt = 1 := rfl
  have z50 : (50 : Int32).toInt = 50 := rfl
  have z2047 : (2047 : Int32).toInt = 2047 := rfl
  by_cases hi : ins 2048 a
  · have hi' := ins_iff.mp hi
    have n1 : ¬ a < 0 := fun z => by have := Int32.lt_iff_toInt_lt.mp z; omega
    have n2 : ¬ 2047 < a := fun z => by have := Int32.lt_iff_toInt_lt.mp z; omega
    by_cases hj : 1 ≤ b.toInt ∧ b.toInt ≤ 50
    · have n3 : ¬ b < 1 := fun z => by have := Int32.lt_iff_toInt_lt.mp z; omega
      have n4 : b ≤ 50 := Int32.le_iff_toInt_le.mpr (by omega)
      obtain ⟨n, hn, rfl⟩ := ins_get (C := 51) (a := b) (ins_iff.mpr ⟨by omega, by omega⟩) (by omega)
      obtain ⟨t', rr, lr, hr, nn, b1, b2, b3⟩ := cl_begin (sC_hasSmall (sC_hasBest (sC_hasTurned (sC_putColumns w 0) 0) 0) 1)
      obtain ⟨m', c1, c2, c3, ⟨c4, c5, c6, c7⟩, c8, c9, c10⟩ := rf_make (w := w) (m := sM_thrown m 0) hW
      have hB := Rl_begin (w := w) (m := sM_thrown m 0) (nu := gC_numbers w) (ru := gC_rule w) (pc := gC_putInColumn w) (ps := gC_putInShift w) (nn := nn) (cm := (sC_hasSmall (sC_hasBest (sC_hasTurned (sC_putColumns w 0) 0) 0) 1).2.2.2) hW b2 b3 c2 c8 c9 c10
      obtain ⟨ea, em, q1, q2, ru, w', q3, q4⟩ := s_rounds hB c8.2.1 a (n := n) (by omega)
      obtain ⟨f1, f2, f3, f4, f5, f6⟩ := q3.2.1
      have f1' : w'.1 = w.1 := f1
      have f2' : w'.2.2.2 = (sC_hasSmall (sC_hasBest (sC_hasTurned (sC_putColumns w 0) 0) 0) 1).2.2.2 := f2
      have f3' : em.1.1 = m'.1 := f3
      have f4' : em.1.2.2.2 = m'.2.2.2 := f4
      have f5' : gM_isSmall em.1 = gM_isSmall m' := f5
      have gl : Gl w' em.1 := by
        refine ⟨C, R, Wh_eq (w := w) (m := sM_thrown m 0) hW f1' (f3'.trans c2), ⟨?_, Or.inr ⟨f5'.trans c4, _, q3⟩⟩, fun c hc => ⟨?_, Or.inl ?_⟩, ⟨?_, Or.inl ?_⟩, ⟨?_, Or.inl ?_⟩⟩
        · rw [f5', c4]; show w'.2.2.2.2.2.2.2.2.1 = 1; rw [f2']
        · have e1 : gC_putColumns w' = 0 := by show w'.2.2.2.2.2.2.2.2.2.2.1 = 0; rw [f2']
          have e2 : gM_isPut em.1 c = 0 := by show em.1.2.2.2.2.1 c = 0; rw [f4']; exact c5 c hc
          rw [e1, e2, sh0]
        · show em.1.2.2.2.2.1 c = 0; rw [f4']; exact c5 c hc
        · have e1 : gC_hasTurned w' = 0 := by show w'.2.2.2.2.2.2.2.2.2.2.2.2.1 = 0; rw [f2']
          have e2 : gM_isTurned em.1 = 0 := by show em.1.2.2.2.2.2.2.1 = 0; rw [f4']; exact c6
          rw [e1, e2]
        · show em.1.2.2.2.2.2.2.1 = 0; rw [f4']; exact c6
        · have e1 : gC_hasBest w' = 0 := by show w'.2.2.2.2.2.2.2.2.2.2.2.2.2.2.2 = 0; rw [f2']
          have e2 : gM_hasBest em.1 = 0 := by show em.1.2.2.2.2.2.2.2.2.1 = 0; rw [f4']; exact c7
          rw [e1, e2]
        · show em.1.2.2.2.2.2.2.2.2.1 = 0; rw [f4']; exact c7
      have thr : gM_thrown em.1 = 0 := by show em.1.2.2.2.1 = 0; rw [f4']; exact c3
      have hj1 : (1 ≤ (nI n).toInt ∧ (nI n).toInt ≤ 50) = True := eq_true hj
      have cl : X8_shrink w a (nI n) = Sum.elim (fun z57_0 : CW => (some (.inr (0, z57_0)))) (fun z57_r0 : (CW × Int32) => (some (.inr (z57_r0.2, z57_r0.1)))) ea := by
        have b1' : X5_beginAs (sC_hasSmall (sC_hasBest (sC_hasTurned (sC_putColumns w 0) 0) 0) 1) = some ((w.1, t', (rr, lr, hr, gC_numbers w, 0, 0, -1, gC_rule w, gC_putInColumn w, gC_putInShift w, nn, 0), (sC_hasSmall (sC_hasBest (sC_hasTurned (sC_putColumns w 0) 0) 0) 1).2.2.2) : CW) := b1
        simp only [X8_shrink, n1, n2, n3, n4, if_false, if_true, X8_endPoints, bnd, Option.bind_some, b1', q1]
      rcases q4 with ⟨rfl, k1⟩ | ⟨rfl, k1⟩
      · refine Or.inr ⟨0, w', em.1, cl, ?_, thr, gl⟩
        simp only [X9_shrink, w1, hi, if_true, Option.bind_some, i10, if_false, Bool.false_eq_true, w2, hj1, X9_shrink_J30, ps_00, c1, q2, rf_no k1]
      · refine Or.inr ⟨em.2, w', em.1, cl, ?_, thr, gl⟩
        simp only [X9_shrink, w1, hi, if_true, Option.bind_some, i10, if_false, Bool.false_eq_true, w2, hj1, X9_shrink_J30, ps_00, c1, q2, rf_go k1]
    · refine Or.inl ⟨"java/lang/IllegalArgumentException", 1, 0, w, sM_thrown m 1, ?_, ?_, rfl, Gl_thrown h 1, ⟨rfl, rfl⟩⟩
      · simp only [X8_shrink, n1, n2, if_false, Bool.false_eq_true, X8_shrink_J22]
        by_cases q : b < 1
        · rw [if_pos q]
        · have q' : ¬ b.toInt < (1 : Int32).toInt := fun z => q (Int32.lt_iff_toInt_lt.mpr z)
          have n4 : ¬ b ≤ 50 := fun z => by have := Int32.le_iff_toInt_le.mp z; omega
          rw [if_neg q, if_neg n4]
      · simp only [X9_shrink, w1, hi, if_true, Option.bind_some, i10, if_false, Bool.false_eq_true, w2, hj, X9_shrink_J25, X9_shrink_J30, ps_1]
  · refine Or.inl ⟨"java/lang/IllegalArgumentException", 1, 0, w, sM_thrown m 1, ?_, ?_, rfl, Gl_thrown h 1, ⟨rfl, rfl⟩⟩
    · simp only [X8_shrink, X8_shrink_J22]
      by_cases q : a < 0
      · rw [if_pos q]
      · have q' : ¬ a.toInt < (0 : Int32).toInt := fun z => q (Int32.lt_iff_toInt_lt.mpr z)
        have q2 : 2047 < a := Int32.lt_iff_toInt_lt.mpr (by have := mt ins_iff.mpr hi; omega)
        rw [if_neg q, if_pos q2]
    · simp only [X9_shrink, w1, hi, if_true, Option.bind_some, if_false, Bool.false_eq_true, X9_shrink_J25, X9_shrink_J30, ps_1]
