/-! turned back -/
def wsum (m : MW) (C r : Nat) (p : Nat → Int64) : Int64 := sumN (fun c => (gM_coefficients m (12 * r + c)).toInt64 * p c) C
def whold (m : MW) (r : Nat) (v : Int64) : Bool := if gM_kinds m r = 0 then !(decide ((gM_rights m r).toInt64 < v)) else decide (v = (gM_rights m r).toInt64)
def pp (m : MW) (c : Nat) : Int64 := (gM_point m c).toInt64
def pBox (m : MW) (p : Nat → Int64) (c : Nat) : Bool := !(decide (p c < (gM_lows m c).toInt64)) && decide (p c ≤ (gM_highs m c).toInt64)
section SO
variable {C R : Nat} {w : CW} {m : MW}
theorem rf_holds (h : Wh C R w m) {r : Nat} (hr : r < R) : X9_holds m (nI r) = some (if whold m r (wsum m C r (pp m)) = true then 1 else 0) := by
  obtain ⟨d1, d2, d3, d4, d5, d6⟩ := h.1
  have hr12 : r < 12 := by omega
  have e := iter_to (step := X9_holds_L5 m (nI r)) C (fun i => (sumN (fun c => (gM_coefficients m (12 * r + c)).toInt64 * pp m c) i, nI i)) (wsum m C r (pp m)) (fun i hi => by
    have hi12 : i < 12 := by omega
    simp only [X9_holds_L5, d3, nC_le d5 hi, if_false, ix144, inR144 hr12 hi12, cl144 hr12 hi12, inR12 hi12, cl12 hi12, if_true, nI_1, sumN, pp]) (by
    simp only [X9_holds_L5, d3, Int32.le_refl, if_true] <;> rfl) (f := 5000) (by omega)
  have e2 : iter (X9_holds_L5 m (nI r)) 5000 (0, 0) = some (wsum m C r (pp m)) := e
  simp only [X9_holds, e2, Option.bind_some, inR12 hr12, cl12 hr12, if_true, whold]
  by_cases k0 : gM_kinds m r = 0
  · by_cases hlt : (gM_rights m r).toInt64 < wsum m C r (pp m)
    · simp [k0, hlt]
    · simp [k0, hlt]
  · by_cases he : wsum m C r (pp m) = (gM_rights m r).toInt64
    · simp [k0, he]
    · simp [k0, he]
theorem cl_wholds (h : Wh C R w m) {r : Nat} (hr : r < R) (v : Int64) : X6_isHolding (gC_whole w) (nI r) v = some (if whold m r v = true then 1 else 0) := by
  obtain ⟨d1, d2, d3, d4, d5, d6⟩ := h.1
  have hr12 : r < 12 := by omega
  obtain ⟨⟨u1, u2⟩, u3, -⟩ := h.2.2.1 r hr
  have k1 : ¬ gM_kinds m r = -1 := by rcases u3 with e | e <;> rw [e] <;> decide
  simp only [X6_isHolding, X6_isGone, X6_isHolding_J39, inR12 hr12, cl12 hr12, if_true, u1, k1, if_false, Option.bind_some, u2, whold]
  by_cases e : v = (gM_rights m r).toInt64
  · subst e
    simp [Int64.lt_irrefl]
  · by_cases k0 : gM_kinds m r = 0
    · by_cases hlt : (gM_rights m r).toInt64 < v
      · simp [e, k0, hlt, Int64.le_of_lt hlt]
      · have : ¬ (gM_rights m r).toInt64 ≤ v := fun q => by
          have a1 := Int64.le_iff_toInt_le.mp q
          have a2 : ¬ ((gM_rights m r).toInt64).toInt < v.toInt := fun z => hlt (Int64.lt_iff_toInt_lt.mpr z)
          exact e (Int64.toInt_inj.mp (by omega))
        simp [e, k0, hlt, this]
    · simp [e, k0]
theorem cl_fit (h : Wh C R w m) (p : Nat → Int64) : X6_isFitting (gC_whole w) p = some (if (allN (pBox m p) C && allN (fun r => whold m r (wsum m C r p)) R) = true then 1 else 0) := by
  obtain ⟨d1, d2, d3, d4, d5, d6⟩ := h.1
  have l1 := all_loop (step := X6_isFitting_L2 (gC_whole w) p) (pBox m p) C d5 (fun i hi => by
    have hi12 : i < 12 := by omega
    obtain ⟨⟨u1, u2, u3⟩, -⟩ := h.2.1 i hi
    simp only [X6_isFitting_L2, d1, nC_le d5 hi, if_false, inR12 hi12, cl12 hi12, if_true, u1, u2, nI_1, pBox]
    by_cases q1 : p i < (gM_lows m i).toInt64
    · simp [q1]
    · by_cases q2 : p i ≤ (gM_highs m i).toInt64
      · simp [q1, q2]
      · simp [q1, q2]) (by
    simp only [X6_isFitting_L2, d1, Int32.le_refl, if_true])
  have l2 := all_loop (step := X6_isFitting_L46 (gC_whole w) p) (fun r => whold m r (wsum m C r p)) R d6 (fun r hr => by
    have hr12 : r < 12 := by omega
    have e := iter_to (step := X6_isFitting_L59 (gC_whole w) p (nI r)) C (fun i => (sumN (fun c => (gM_coefficients m (12 * r + c)).toInt64 * p c) i, nI i)) (wsum m C r p) (fun i hi => by
      have hi12 : i < 12 := by omega
      simp only [X6_isFitting_L59, d1, nC_le d5 hi, if_false, inR12 hr12, cl12 hr12, inR12 hi12, cl12 hi12, if_true, (h.2.2.2.1 r i hr hi).1, nI_1, sumN]) (by
      simp only [X6_isFitting_L59, d1, Int32.le_refl, if_true] <;> rfl) (f := 5000) (by omega)
    have e2 : iter (X6_isFitting_L59 (gC_whole w) p (nI r)) 5000 (0, 0) = some (wsum m C r p) := e
    simp only [X6_isFitting_L46, d2, nC_le d6 hr, if_false, e2, Option.bind_some, cl_wholds h hr, nI_1]
    by_cases q : whold m r (wsum m C r p) = true
    · simp only [q, if_true, i10, if_false]
    · simp only [q, if_false, if_true, Bool.false_eq_true]) (by
    simp only [X6_isFitting_L46, d2, Int32.le_refl, if_true])
  simp only [X6_isFitting, l1, l2, Option.bind_some]
  by_cases q1 : allN (pBox m p) C = true
  · by_cases q2 : allN (fun r => whold m r (wsum m C r p)) R = true
    · simp [q1, q2]
    · simp [q1, q2]
  · simp [q1]
theorem cl_turn1 {F : FR} {N : Nat} (hR : Rl C R F N w m) : ∃ T, iter (X5_turnBack_L2) 5000 (w, 0) = some (sC_turned w T) ∧ ∀ c, c < C → T c = if gM_state m c = 0 then gC_putNumbers w c else lo m c := by
  have hC := hR.C12
  obtain ⟨e, q1, T, q2, q3⟩ := iter_run (step := X5_turnBack_L2) (fun d s => ∃ i T, i + d = C ∧ s = (sC_turned w T, nI i) ∧ ∀ c, c < i → T c = if gM_state m c = 0 then gC_putNumbers w c else lo m c) (fun e => ∃ T, e = sC_turned w T ∧ ∀ c, c < C → T c = if gM_state m c = 0 then gC_putNumbers w c else lo m c) (fun d s hs => by
    obtain ⟨i, T, hid, rfl, h1⟩ := hs
    have hw : gT_columns (gC_tab (sC_turned w T)) = nI C := hR.1.1
    by_cases hi : i < C
    · have hi12 : i < 12 := by omega
      have st : gT_state (gC_tab (sC_turned w T)) i = gM_state m i := (hR.2.2.1 i hi).1.1
      have sl : gT_low (gC_tab (sC_turned w T)) i = lo m i := (hR.2.2.1 i hi).1.2.1
      refine Or.inl ⟨(sC_turned w (vp_updL T i (if gM_state m i = 0 then gC_putNumbers w i else lo m i)), nI (i + 1)), ?_, d - 1, by omega, i + 1, _, by omega, rfl, fun c hc => ?_⟩
      · simp only [X5_turnBack_L2, hw, nC_le hC hi, if_false, X6_isThere, inR12 hi12, cl12 hi12, if_true, st, sl, X5_turnBack_J41, bnd, nI_1]
        by_cases e : gM_state m i = 0
        · simp only [e, if_true, Option.bind_some, i10, if_false]
        · simp only [e, if_false, Option.bind_some, if_true]
      · unfold vp_updL
        by_cases e : c = i
        · subst e; rw [if_pos rfl]
        · rw [if_neg e]; exact h1 c (by omega)
    · have : i = C := by omega
      subst this
      exact Or.inr ⟨_, by simp only [X5_turnBack_L2, hw, Int32.le_refl, if_true] <;> rfl, T, rfl, h1⟩) C 5000 (w, 0) (by omega) ⟨0, gC_turned w, by omega, rfl, fun c hc => by omega⟩
  subst q2
  exact ⟨T, q1, q3⟩
theorem rf_turn1 {m : MW} (hC : C ≤ 12) (hm : gM_columns m = nI C) : ∃ P, iter (X9_back_L86) 5000 (m, 0) = some (sM_point m P) ∧ ∀ c, c < C → P c = if gM_state m c = 0 then gM_number m c else gM_low m c := by
  obtain ⟨e, q1, T, q2, q3⟩ := iter_run (step := X9_back_L86) (fun d s => ∃ i T, i + d = C ∧ s = (sM_point m T, nI i) ∧ ∀ c, c < i → T c = if gM_state m c = 0 then gM_number m c else gM_low m c) (fun e => ∃ T, e = sM_point m T ∧ ∀ c, c < C → T c = if gM_state m c = 0 then gM_number m c else gM_low m c) (fun d s hs => by
    obtain ⟨i, T, hid, rfl, h1⟩ := hs
    have hw : gM_columns (sM_point m T) = nI C := hm
    by_cases hi : i < C
    · have hi12 : i < 12 := by omega
      refine Or.inl ⟨(sM_point m (upd T i (if gM_state m i = 0 then gM_number m i else gM_low m i)), nI (i + 1)), ?_, d - 1, by omega, i + 1, _, by omega, rfl, fun c hc => ?_⟩
      · have st : gM_state (sM_point m T) = gM_state m := rfl
        have sn : gM_number (sM_point m T) = gM_number m := rfl
        have sl : gM_low (sM_point m T) = gM_low m := rfl
        simp only [X9_back_L86, hw, nC_le hC hi, if_false, inR12 hi12, cl12 hi12, if_true, st, sn, sl, X9_back_J123, bnd, nI_1]
        by_cases e : gM_state m i = 0
        · simp only [e, if_true]
        · simp only [e, if_false]
      · unfold upd
        by_cases e : c = i
        · subst e; rw [if_pos rfl]
        · rw [if_neg e]; exact h1 c (by omega)
    · have : i = C := by omega
      subst this
      exact Or.inr ⟨_, by simp only [X9_back_L86, hw, Int32.le_refl, if_true] <;> rfl, T, rfl, h1⟩) C 5000 (m, 0) (by omega) ⟨0, gM_point m, by omega, rfl, fun c hc => by omega⟩
  subst q2
  exact ⟨T, q1, q3⟩
theorem nI_m1 (n : Nat) : nI (n + 1) - 1 = nI n := by rw [← nI_1]; exact Int32.add_sub_cancel _ _
theorem s_turn (hC : C ≤ 12) (d1 : gT_columns (gC_tab w) = nI C) (d3 : gM_columns m = nI C) (hb : ∀ c, c < C → -10000 ≤ (lo m c).toInt ∧ (hi m c).toInt ≤ 10000) : ∀ (n : Nat), n ≤ 12 → (∀ i, i < n → putOK C w m i) → ∀ (T : Nat → Int64) (P : Nat → Int32) (f : Nat), n < f → (∀ c, c < C → T c = (P c).toInt64 ∧ lo m c ≤ T c ∧ T c ≤ hi m c) → ∃ T' P', iter (X5_turnBack_L55) f (sC_turned w T, nI n - 1) = some (sC_turned w T') ∧ iter (X9_back_L137) f (sM_point m P, nI n - 1) = some (sM_point m P') ∧ ∀ c, c < C → T' c = (P' c).toInt64 ∧ lo m c ≤ T' c ∧ T' c ≤ hi m c
  | 0, _, _, T, P, f, hf, h0 => ⟨T, P, iter_end (by
      have : nI 0 - 1 < (0 : Int32) := by decide
      simp only [X5_turnBack_L55, this, if_true]) hf, iter_end (by
      have : nI 0 - 1 < (0 : Int32) := by decide
      simp only [X9_back_L137, this, if_true]) hf, h0⟩
  | n + 1, hn, hput, T, P, f, hf, h0 => by
    obtain ⟨f, rfl⟩ : ∃ g, f = g + 1 := ⟨f - 1, by omega⟩
    have hn12 : n < 12 := by omega
    obtain ⟨x, x1, x2, x3, x4, x5, x6, x7⟩ := hput n (by omega)
    have hx12 : x < 12 := by omega
    have J := x7 T (fun c hc => (h0 c hc).2)
    have sg : sumN (fun c => gC_putInFactors w n c * T c) C = sumN (fun c => gM_often m (12 * x + c) * T c) C := sumN_congr (fun c hc => by rw [x6 c hc])
    have e1 := iter_to (step := X5_turnBack_L70 (sC_turned w T, nI n)) C (fun i => (gC_putInShift w n + sumN (fun c => gC_putInFactors w n c * T c) i, nI i)) (gC_putInShift w n + sumN (fun c => gC_putInFactors w n c * T c) C) (fun i hi => by
      have hi12 : i < 12 := by omega
      have hw : gT_columns (gC_tab (sC_turned w T)) = nI C := d1
      simp only [X5_turnBack_L70, hw, nC_le hC hi, if_false, inR12 hn12, cl12 hn12, inR12 hi12, cl12 hi12, if_true, nI_1, sumN]
      rw [Int64.add_assoc]) (by
      have hw : gT_columns (gC_tab (sC_turned w T)) = nI C := d1
      simp only [X5_turnBack_L70, hw, Int32.le_refl, if_true]) (f := 5000) (by omega)
    have e2 := iter_to (step := X9_back_L159 (sM_point m P, nI n)) C (fun i => (gM_base m x + sumN (fun c => gM_often m (12 * x + c) * T c) i, nI i)) (gM_base m x + sumN (fun c => gM_often m (12 * x + c) * T c) C) (fun i hi => by
      have hi12 : i < 12 := by omega
      have hw : gM_columns (sM_point m P) = nI C := d3
      have hx : gM_putIn (sM_point m P) n = nI x := x2
      have ho : gM_often (sM_point m P) = gM_often m := rfl
      have hpt : gM_point (sM_point m P) = P := rfl
      simp only [X9_back_L159, hw, nC_le hC hi, if_false, cl12 hn12, hx, ix144, inR144 hx12 hi12, cl144 hx12 hi12, inR12 hi12, cl12 hi12, if_true, nI_1, sumN, ho, hpt, ← (h0 i hi).1]
      rw [Int64.add_assoc]) (by
      have hw : gM_columns (sM_point m P) = nI C := d3
      simp only [X9_back_L159, hw, Int32.le_refl, if_true]) (f := 5000) (by omega)
    have z64 : ∀ a : Int64, a + sumN (fun c => gC_putInFactors w n c * T c) 0 = a := fun a => Int64.add_zero a
    have z65 : ∀ a : Int64, a + sumN (fun c => gM_often m (12 * x + c) * T c) 0 = a := fun a => Int64.add_zero a
    have e1' : iter (X5_turnBack_L70 (sC_turned w T, nI n)) 5000 (gC_putInShift w n, 0) = some (gM_base m x + sumN (fun c => gM_often m (12 * x + c) * T c) C) := by
      rw [← sg, ← x5]
      have := e1
      rw [z64] at this
      exact this
    have e2' : iter (X9_back_L159 (sM_point m P, nI n)) 5000 (gM_base m x, 0) = some (gM_base m x + sumN (fun c => gM_often m (12 * x + c) * T c) C) := by
      have := e2
      rw [z65] at this
      exact this
    generalize gM_base m x + sumN (fun c => gM_often m (12 * x + c) * T c) C = V at *
    have vb : -10000 ≤ V.toInt ∧ V.toInt ≤ 10000 := by
      have a1 := Int64.le_iff_toInt_le.mp J.1
      have a2 := Int64.le_iff_toInt_le.mp J.2
      have a3 := hb x x1
      omega
    have vv := (i32_back vb).1
    have nneg : ¬ nI n < (0 : Int32) := nI_pos (by omega)
    have am1 : nI n + (-1) = nI n - 1 := (Int32.sub_eq_add_neg (nI n) 1).symm
    have s1 : X5_turnBack_L55 (sC_turned w T, nI (n + 1) - 1) = some (.inl (sC_turned w (vp_updL T x V), nI n - 1)) := by
      have hp : gC_putInColumn (sC_turned w T) n = nI x := x3
      have hsf : gC_putInShift (sC_turned w T) = gC_putInShift w := rfl
      rw [nI_m1]
      simp only [X5_turnBack_L55, nneg, if_false, inR12 hn12, cl12 hn12, if_true, hsf, e1', Option.bind_some, hp, inR12 hx12, cl12 hx12, bnd, am1]
    have s2 : X9_back_L137 (sM_point m P, nI (n + 1) - 1) = some (.inl (sM_point m (upd P x V.toInt32), nI n - 1)) := by
      have hp : gM_putIn (sM_point m P) n = nI x := x2
      have hbs : gM_base (sM_point m P) = gM_base m := rfl
      rw [nI_m1]
      simp only [X9_back_L137, nneg, if_false, inR12 hn12, cl12 hn12, if_true, hp, inR12 hx12, cl12 hx12, hbs, e2', Option.bind_some, bnd, am1]
    obtain ⟨T', P', r1, r2, r3⟩ := s_turn hC d1 d3 hb n (by omega) (fun i hi => hput i (by omega)) (vp_updL T x V) (upd P x V.toInt32) f (by omega) (fun c hc => by
      unfold vp_updL upd
      by_cases e : c = x
      · rw [if_pos e, if_pos e, e]
        exact ⟨vv.symm, J.1, J.2⟩
      · rw [if_neg e, if_neg e]
        exact h0 c hc)
    exact ⟨T', P', by rw [iter_in s1]; exact r1, by rw [iter_in s2]; exact r2, r3⟩
theorem rf_turn3 {m : MW} (h : Wh C R w m) : ∃ T, iter (X9_back_L219) 5000 (m, 1, 0) = some (sM_turned m T, (if allN (pBox m (pp m)) C = true then 1 else 0)) ∧ ∀ c, c < C → T c = gM_point m c := by
  obtain ⟨d1, d2, d3, d4, d5, d6⟩ := h.1
  obtain ⟨e, q1, T, q2, q3⟩ := iter_run (step := X9_back_L219) (fun d s => ∃ i T, i + d = C ∧ s = (sM_turned m T, (if allN (pBox m (pp m)) i = true then (1 : Int32) else 0), nI i) ∧ ∀ c, c < i → T c = gM_point m c) (fun e => ∃ T, e = (sM_turned m T, (if allN (pBox m (pp m)) C = true then (1 : Int32) else 0)) ∧ ∀ c, c < C → T c = gM_point m c) (fun d s hs => by
    obtain ⟨i, T, hid, rfl, h1⟩ := hs
    have hw : gM_columns (sM_turned m T) = nI C := d3
    by_cases hi : i < C
    · have hi12 : i < 12 := by omega
      refine Or.inl ⟨(sM_turned m (upd T i (gM_point m i)), (if allN (pBox m (pp m)) (i + 1) = true then (1 : Int32) else 0), nI (i + 1)), ?_, d - 1, by omega, i + 1, _, by omega, rfl, fun c hc => ?_⟩
      · have s1 : gM_point (sM_turned m T) = gM_point m := rfl
        have s2 : gM_turned (sM_turned m T) = T := rfl
        have s3 : gM_point (sM_turned (sM_turned m T) (upd T i (gM_point m i))) = gM_point m := rfl
        have s4 : gM_lows (sM_turned (sM_turned m T) (upd T i (gM_point m i))) = gM_lows m := rfl
        have s5 : gM_highs (sM_turned (sM_turned m T) (upd T i (gM_point m i))) = gM_highs m := rfl
        simp only [X9_back_L219, hw, nC_le d5 hi, if_false, inR12 hi12, cl12 hi12, if_true, bnd, s1, s2, s3, s4, s5, X9_within, X9_back_J271, nI_1, allN_s, pBox, pp]
        by_cases b1 : (gM_point m i).toInt64 < (gM_lows m i).toInt64
        · simp [b1]
        · by_cases b2 : (gM_highs m i).toInt64 < (gM_point m i).toInt64
          · have b3 : ¬ (gM_point m i).toInt64 ≤ (gM_highs m i).toInt64 := Int64.not_le.mpr b2
            simp [b1, b2, b3]
          · have b3 : (gM_point m i).toInt64 ≤ (gM_highs m i).toInt64 := Int64.not_lt.mp b2
            simp [b1, b2, b3]
      · unfold upd
        by_cases e : c = i
        · subst e; rw [if_pos rfl]
        · rw [if_neg e]; exact h1 c (by omega)
    · have : i = C := by omega
      subst this
      exact Or.inr ⟨_, by simp only [X9_back_L219, hw, Int32.le_refl, if_true] <;> rfl, T, rfl, h1⟩) C 5000 (m, 1, 0) (by omega) ⟨0, gM_turned m, by omega, rfl, fun c hc => by omega⟩
  subst q2
  exact ⟨T, q1, q3⟩
theorem rf_turn4 {m : MW} (h : Wh C R w m) (b0 : Bool) (z : MW × Int32) (hz : z.1 = m) : iter (X9_back_L280 z) 5000 ((if b0 = true then 1 else 0), 0) = some (if (b0 && allN (fun r => whold m r (wsum m C r (pp m))) R) = true then 1 else 0) := by
  obtain ⟨d1, d2, d3, d4, d5, d6⟩ := h.1
  have e := iter_to (step := X9_back_L280 z) R (fun i => ((if (b0 && allN (fun r => whold m r (wsum m C r (pp m))) i) = true then (1 : Int32) else 0), nI i)) (if (b0 && allN (fun r => whold m r (wsum m C r (pp m))) R) = true then 1 else 0) (fun i hi => by
    have q : (b0 && (allN (fun r => whold m r (wsum m C r (pp m))) i && whold m i (wsum m C i (pp m)))) = ((b0 && allN (fun r => whold m r (wsum m C r (pp m))) i) && whold m i (wsum m C i (pp m))) := (Bool.and_assoc _ _ _).symm
    simp only [X9_back_L280, hz, d4, nC_le d6 hi, if_false, rf_holds h hi, Option.bind_some, X9_back_J301, nI_1, allN_s, q]
    by_cases q1 : whold m i (wsum m C i (pp m)) = true
    · simp [q1]
    · simp [q1]) (by
    simp only [X9_back_L280, hz, d4, Int32.le_refl, if_true]) (f := 5000) (by omega)
  have e3 : (if (b0 && allN (fun r => whold m r (wsum m C r (pp m))) 0) = true then (1 : Int32) else 0) = if b0 = true then 1 else 0 := by simp [allN]
  rw [← e3]
  exact e
def pPut (m : MW) (c : Nat) : Bool := !(decide (gM_state m c = 0)) || !(decide (gM_isPut m c = 0))
theorem rf_put (hC : C ≤ 12) (hm : gM_columns m = nI C) (b0 : Bool) : iter (X9_back_L23 m) 5000 ((if b0 = true then 1 else 0), 0) = some (if (b0 && allN (pPut m) C) = true then 1 else 0) := by
  have e := iter_to (step := X9_back_L23 m) C (fun i => ((if (b0 && allN (pPut m) i) = true then (1 : Int32) else 0), nI i)) (if (b0 && allN (pPut m) C) = true then 1 else 0) (fun i hi => by
    have hi12 : i < 12 := by omega
    have q : (b0 && (allN (pPut m) i && pPut m i)) = ((b0 && allN (pPut m) i) && pPut m i) := (Bool.and_assoc _ _ _).symm
    simp only [X9_back_L23, hm, nC_le hC hi, if_false, inR12 hi12, cl12 hi12, if_true, X9_back_J58, X9_back_J57, X9_back_J53, nI_1, allN_s, q]
    cases b0 && allN (pPut m) i
    · simp
    · by_cases q1 : gM_state m i = 0
      · by_cases q2 : gM_isPut m i = 0
        · simp [pPut, q1, q2]
        · simp [pPut, q1, q2]
      · simp [pPut, q1]) (by
    simp only [X9_back_L23, hm, Int32.le_refl, if_true]) (f := 5000) (by omega)
  have e3 : (if (b0 && allN (pPut m) 0) = true then (1 : Int32) else 0) = if b0 = true then 1 else 0 := by simp [allN]
  rw [← e3]
  exact e
end SO
theorem o_back {w : CW} {m : MW} (h : Gl w m) : OpW (X8_back w) (X9_back m) Ks := by
  have h' := h
  obtain ⟨C, R, hW, hS, hP, hT, hB⟩ := h'
  obtain ⟨d1, d2, d3, d4, d5, d6⟩ := hW.1
  have no : iter (X9_back_L23 m) 5000 (0, 0) = some 0 := by
    have := rf_put (m := m) d5 d3 false
    simpa only [Bool.false_and, if_false, Bool.false_eq_true] using this
  have yes : iter (X9_back_L23 m) 5000 (1, 0) = some (if allN (pPut m) C = true then 1 else 0) := by
    have := rf_put (m := m) d5 d3 true
    simpa only [Bool.true_and, if_true] using this
  have bad : X9_back_J75 m 1 = some (0, sM_thrown m 1) := by
    simp only [X9_back_J75, ps_1, Option.bind_some, if_true]
  rcases cl_possible hS with ⟨hs, hc, np⟩ | ⟨hno, np⟩
  · obtain ⟨F, hR⟩ := hS.rl hs
    have pre : X9_back m = X9_back_J20 m 1 := by simp only [X9_back, hs, hc, if_true, if_false]
    have lc := all_loop (step := X8_back_L6 w) (pPut m) C d5 (fun i hi => by
      have hi12 : i < 12 := by omega
      simp only [X8_back_L6, d1, nC_le d5 hi, if_false, X6_isThere, inR12 hi12, cl12 hi12, if_true, (hR.2.2.1 i hi).1.1, (hP i hi12).1, X8_back_J52, nI_1]
      by_cases q1 : gM_state m i = 0
      · by_cases q2 : gM_isPut m i = 0
        · simp [pPut, q1, q2]
        · simp [pPut, q1, q2]
      · simp [pPut, q1]) (by
      simp only [X8_back_L6, d1, Int32.le_refl, if_true])
    by_cases ha : allN (pPut m) C = true
    · rw [ha] at yes lc
      simp only [if_true] at yes lc
      obtain ⟨T, t1, t2⟩ := cl_turn1 hR
      obtain ⟨P, p1, p2⟩ := rf_turn1 (C := C) (m := sM_thrown m 0) d5 d3
      obtain ⟨n, n1, n2, n3, n4⟩ := hR.2.2.2.2.2.1
      have n12 : n ≤ 12 := by have := cntN_le (fun c => gM_state m c == 2) C; omega
      obtain ⟨T', P', u1, u2, u3⟩ := s_turn (w := w) (m := sM_thrown m 0) d5 hR.1.1 d3 (fun c hc => ⟨(colb hR hc).2.2.1, (colb hR hc).2.2.2⟩) n n12 n4 T P 5000 (by omega) (fun c hc => by
        rw [t2 c hc, p2 c hc]
        show (if gM_state m c = 0 then gC_putNumbers w c else lo m c) = (if gM_state m c = 0 then gM_number m c else gM_low m c).toInt64 ∧ lo m c ≤ (if gM_state m c = 0 then gC_putNumbers w c else lo m c) ∧ (if gM_state m c = 0 then gC_putNumbers w c else lo m c) ≤ hi m c
        by_cases q1 : gM_state m c = 0
        · have q2 := allN_iff.mp ha c hc
          rcases (hP c (by omega)).2 with e | ⟨-, -, -, e1, e2, e3⟩
          · simp [pPut, q1, e] at q2
          · rw [if_pos q1, if_pos q1, e1]
            exact ⟨rfl, e2, e3⟩
        · rw [if_neg q1, if_neg q1]
          refine ⟨rfl, Int64.le_refl _, ?_⟩
          obtain ⟨-, -, -, c9, c10, c11, -⟩ := hR.2.2.1 c hc
          rw [Int64.le_iff_toInt_le, (toI c).1, (toI c).2]
          exact c10)
      have hW2 : Wh C R w (sM_point (sM_thrown m 0) P') := hW
      obtain ⟨T2, v1, v2⟩ := rf_turn3 hW2
      have hW3 : Wh C R w (sM_turned (sM_point (sM_thrown m 0) P') T2) := hW
      have f4 := rf_turn4 hW3 (allN (pBox (sM_point (sM_thrown m 0) P') (pp (sM_point (sM_thrown m 0) P'))) C) (sM_turned (sM_point (sM_thrown m 0) P') T2, (if allN (pBox (sM_point (sM_thrown m 0) P') (pp (sM_point (sM_thrown m 0) P'))) C = true then (1 : Int32) else 0)) rfl
      have hW4 : Wh C R (sC_hasTurned (sC_turned w T') 1) m := hW
      have fit := cl_fit hW4 T'
      have a1 : allN (pBox (sM_point (sM_thrown m 0) P') (pp (sM_point (sM_thrown m 0) P'))) C = allN (pBox m T') C := allN_congr (fun c hc => by
        unfold pBox
        show (!(decide ((P' c).toInt64 < (gM_lows m c).toInt64)) && decide ((P' c).toInt64 ≤ (gM_highs m c).toInt64)) = _
        rw [← (u3 c hc).1])
      have a2 : ∀ r, wsum (sM_turned (sM_point (sM_thrown m 0) P') T2) C r (pp (sM_turned (sM_point (sM_thrown m 0) P') T2)) = wsum m C r T' := fun r => sumN_congr (fun c hc => by
        show (gM_coefficients m (12 * r + c)).toInt64 * (P' c).toInt64 = _
        rw [← (u3 c hc).1])
      have a3 : allN (fun r => whold (sM_turned (sM_point (sM_thrown m 0) P') T2) r (wsum (sM_turned (sM_point (sM_thrown m 0) P') T2) C r (pp (sM_turned (sM_point (sM_thrown m 0) P') T2)))) R = allN (fun r => whold m r (wsum m C r T')) R := allN_congr (fun r hr => by
        show whold (sM_turned (sM_point (sM_thrown m 0) P') T2) r _ = _
        rw [a2 r] <;> rfl)
      rw [a3, a1] at f4
      rw [a1] at v1
      have pin : gC_putIns (sC_turned w T) = nI n := n2
      have pim : gM_putIns (sM_point (sM_thrown m 0) P) = nI n := n3
      have gl : Gl (sC_hasTurned (sC_turned w T') 1) (sM_isTurned (sM_turned (sM_point (sM_thrown m 0) P') T2) 1) := by
        refine ⟨C, R, hW, ⟨hS.1, ?_⟩, hP, ⟨rfl, Or.inr ⟨rfl, ?_, fun c hc => ?_⟩⟩, hB⟩
        · rcases hS.2 with e | ⟨e, F, hF⟩
          · exact absurd e hs
          · exact Or.inr ⟨e, Rl_fr hF rfl rfl rfl rfl rfl rfl⟩
        · rcases hS.2 with e | ⟨e, -⟩
          · exact absurd e hs
          · exact e
        · show T' c = (T2 c).toInt64
          rw [v2 c hc, (u3 c hc).1]
      refine Or.inr ⟨(if (allN (pBox m T') C && allN (fun r => whold m r (wsum m C r T')) R) = true then 1 else 0), sC_hasTurned (sC_turned w T') 1, sM_isTurned (sM_turned (sM_point (sM_thrown m 0) P') T2) 1, ?_, ?_, rfl, gl⟩
      · have fit' : X6_isFitting (gC_whole (sC_hasTurned (sC_turned w T') 1)) (gC_turned (sC_hasTurned (sC_turned w T') 1)) = _ := fit
        simp only [X8_back, np, Option.bind_some, Sum.elim_inr, lc, X5_turnBack, t1, pin, u1, bnd, fit']
        split
        · rw [if_neg (show ¬ (1 : Int32) = 0 by decide)]
        · rw [if_pos rfl]
      · rw [pre]
        simp only [X9_back_J20, yes, Option.bind_some, i10, if_false, X9_back_J75, ps_00, p1, pim, u2, v1, f4, bnd]
    · have ha' : allN (pPut m) C = false := by simpa using ha
      rw [ha'] at yes lc
      simp only [if_false, Bool.false_eq_true] at yes lc
      refine Or.inl ⟨"java/lang/IllegalStateException", 1, 0, w, sM_thrown m 1, ?_, ?_, rfl, Gl_thrown h 1, ⟨rfl, rfl⟩⟩
      · simp only [X8_back, np, Option.bind_some, Sum.elim_inr, lc, Sum.elim_inl]
      · rw [pre]
        simp only [X9_back_J20, yes, Option.bind_some, if_true, bad]
  · refine Or.inl ⟨"java/lang/IllegalStateException", 1, 0, w, sM_thrown m 1, by simp only [X8_back, np, Option.bind_some, Sum.elim_inl], ?_, rfl, Gl_thrown h 1, ⟨rfl, rfl⟩⟩
    have pre : X9_back m = X9_back_J19 m := by
      simp only [X9_back]
      rcases hno with e | e
      · rw [if_pos e]
      · rw [if_neg e]
        split <;> rfl
    rw [pre]
    simp only [X9_back_J19, X9_back_J20, no, Option.bind_some, if_true, bad]
