/-! rule 9 -/
theorem cntN_mono (p : Nat → Bool) {i k : Nat} (h : i ≤ k) : cntN p i ≤ cntN p k := by
  induction k with
  | zero => have : i = 0 := by omega
            rw [this]; exact Nat.le_refl _
  | succ k ih =>
    by_cases e : i = k + 1
    · rw [e]; exact Nat.le_refl _
    · have := ih (by omega)
      simp only [cntN]; omega
theorem cntN_skip {p : Nat → Bool} {i k : Nat} (h : i ≤ k) (hz : ∀ j, i ≤ j → j < k → p j = false) : cntN p k = cntN p i := by
  induction k with
  | zero => have : i = 0 := by omega
            rw [this]
  | succ k ih =>
    by_cases e : i = k + 1
    · rw [e]
    · have := ih (by omega) (fun j h1 h2 => hz j h1 (by omega))
      simp only [cntN]
      rw [hz k (by omega) (by omega), this]; rfl
theorem cntN_hit {p : Nat → Bool} {k : Nat} (h : p k = true) : cntN p (k + 1) = cntN p k + 1 := by
  simp only [cntN, h, if_true]
theorem allN_s (p : Nat → Bool) (n : Nat) : allN p (n + 1) = (allN p n && p n) := by
  cases h : allN p n <;> simp [allN, h]
section SD
variable {C R : Nat} {F : FR} {N : Nat} {w : CW} {m : MW}
/-- r has just the terms x and y -/
def T2 (m : MW) (C r x y : Nat) : Prop := x < C ∧ y < C ∧ y ≠ x ∧ tm m r x ≠ 0 ∧ tm m r y ≠ 0 ∧ ∀ c, c < C → c ≠ x → c ≠ y → tm m r c = 0
theorem fc_y {r x y : Nat} (h : T2 m C r x y) : fc m r x y = -(tm m r x) * tm m r y := by unfold fc; rw [if_neg h.2.2.1]
theorem fc_z {r x y : Nat} (h : T2 m C r x y) {c : Nat} (hc : c < C) (hne : c ≠ y) : fc m r x c = 0 := by
  unfold fc
  by_cases e : c = x
  · rw [if_pos e]
  · rw [if_neg e, h.2.2.2.2.2 c hc e hne, Int64.mul_zero]
def pRow2 (m : MW) (r x y : Nat) (q sr : Int64) (o : Nat) : Bool := decide (o = r) || (!(decide (gM_gone m o = 0)) || (decide (tm m o x = 0) || (wi 1000000 (gM_coef m (12 * o + y) + tm m o x * q) && wi 100000000000 (gM_right m o - tm m o x * sr))))
theorem rf_may (h : Rl C R F N w m) {r x y : Nat} (hr : r < R) (hx : x < C) (hy : y < C) (q sr : Int64) : X9_mayPut m (nI r) (nI x) (nI y) q sr = some (if ((wi 1000000 (gM_cost m y + q * gM_cost m x) && wi 1000000000000000 (sr * gM_cost m x)) && allN (pRow2 m r x y q sr) R) = true then 1 else 0) := by
  have hC := h.C12
  have hR := h.R12
  have hr12 : r < 12 := by omega
  have hx12 : x < 12 := by omega
  have hy12 : y < 12 := by omega
  have lp : ∀ b0 : Bool, X9_mayPut_J48 m (nI r) (nI x) (nI y) q sr (if b0 = true then 1 else 0) = some (if (b0 && allN (pRow2 m r x y q sr) R) = true then 1 else 0) := fun b0 => by
    have e := iter_to (step := X9_mayPut_L53 m (nI r) (nI x) (nI y) q sr) R (fun i => ((if (b0 && allN (pRow2 m r x y q sr) i) = true then (1 : Int32) else 0), nI i)) (if (b0 && allN (pRow2 m r x y q sr) R) = true then 1 else 0) (fun i hi => by
      have hi12 : i < 12 := by omega
      simp only [X9_mayPut_L53, h.1.2.2.2.1, nC_le hR hi, if_false, inR12 hi12, cl12 hi12, if_true, rf_term0 m hi12 hx12, Option.bind_some, ix144, inR144 hi12 hx12, cl144 hi12 hx12, inR144 hi12 hy12, cl144 hi12 hy12, X9_mayPut_J163, X9_mayPut_J161, X9_mayPut_J160, nI_1, allN_s, rf_isC, show (-100000000000 : Int64) = -(100000000000 : Int64) from rfl, rf_wi]
      by_cases e : i = r
      · subst e; simp [pRow2]
      · have e2 : ¬ nI i = nI r := by rw [neq (by omega) (by omega)]; exact e
        by_cases hg : gM_gone m i = 0
        · by_cases h1 : tm m i x = 0
          · simp [pRow2, e, e2, hg, h1]
          · rw [tm_coef h1]
            by_cases h2 : (b0 && allN (pRow2 m r x y q sr) i) = true
            · have e3 : (b0 && (allN (pRow2 m r x y q sr) i && pRow2 m r x y q sr i)) = pRow2 m r x y q sr i := by rw [← Bool.and_assoc, h2, Bool.true_and]
              rw [e3, h2]
              by_cases h3 : wi 1000000 (gM_coef m (12 * i + y) + tm m i x * q) = true
              · by_cases h4 : wi 100000000000 (gM_right m i - tm m i x * sr) = true <;> simp [pRow2, e, e2, hg, h1, h3, h4]
              · simp [pRow2, e, e2, hg, h1, h3]
            · have e3 : ¬ (b0 && (allN (pRow2 m r x y q sr) i && pRow2 m r x y q sr i)) = true := fun z => by
                rw [← Bool.and_assoc] at z
                exact h2 (Bool.and_eq_true _ _ ▸ z).1
              rw [if_neg e3, if_neg h2]
              simp [e2, hg, h1]
        · simp [pRow2, e, e2, hg]) (by
      simp only [X9_mayPut_L53, h.1.2.2.2.1, Int32.le_refl, if_true]) (f := 5000) (by omega)
    have e2 : iter (X9_mayPut_L53 m (nI r) (nI x) (nI y) q sr) 5000 ((if b0 = true then 1 else 0), 0) = some (if (b0 && allN (pRow2 m r x y q sr) R) = true then 1 else 0) := by
      have e3 : (if (b0 && allN (pRow2 m r x y q sr) 0) = true then (1 : Int32) else 0) = if b0 = true then 1 else 0 := by simp [allN]
      rw [← e3]
      exact e
    simp only [X9_mayPut_J48, e2, Option.bind_some]
    split <;> rfl
  have l1 := lp true
  have l0 := lp false
  simp only [if_true, Bool.true_and] at l1
  simp only [Bool.false_and, if_false, Bool.false_eq_true] at l0
  simp only [X9_mayPut, inR12 hx12, cl12 hx12, inR12 hy12, cl12 hy12, if_true, rf_isC, Option.bind_some, show (-1000000000000000 : Int64) = -(1000000000000000 : Int64) from rfl, rf_wi, X9_mayPut_J47, l0, l1]
  by_cases h1 : wi 1000000 (gM_cost m y + q * gM_cost m x) = true
  · by_cases h2 : wi 1000000000000000 (sr * gM_cost m x) = true
    · simp [h1, h2]
    · simp [h1, h2]
  · simp [h1]
theorem may_stays (h : Rl C R F N w m) {r x y : Nat} (hr : r < R) (hT : T2 m C r x y) : ((wi 1000000 (gM_cost m y + fc m r x y * gM_cost m x) && wi 1000000000000000 (tm m r x * gM_right m r * gM_cost m x)) && allN (pRow2 m r x y (fc m r x y) (tm m r x * gM_right m r)) R) = (wi 1000000000000000 (tm m r x * gM_right m r * gM_cost m x) && (allN (pCost m r x) C && allN (pRow m C r x) R)) := by
  obtain ⟨hx, hy, hxy, tx, ty, tz⟩ := hT
  have e1 : allN (pCost m r x) C = wi 1000000 (gM_cost m y + fc m r x y * gM_cost m x) := by
    rw [Bool.eq_iff_iff, allN_iff]
    constructor
    · intro z; exact z y hy
    · intro z c hc
      by_cases e : c = y
      · subst e; exact z
      · unfold pCost
        rw [fc_z ⟨hx, hy, hxy, tx, ty, tz⟩ hc e, Int64.zero_mul, Int64.add_zero, wi_big]
        exact (h.2.2.1 c hc).2.2.2.2.2.2
  have e2 : allN (pRow m C r x) R = allN (pRow2 m r x y (fc m r x y) (tm m r x * gM_right m r)) R := allN_congr (fun o ho => by
    unfold pRow pRow2
    by_cases eo : o = r
    · simp [eo]
    · by_cases hg : gM_gone m o = 0
      · have e3 : allN (fun c => decide (c = x) || wi 1000000 (tm m o c + tm m o x * fc m r x c)) C = wi 1000000 (gM_coef m (12 * o + y) + tm m o x * fc m r x y) := by
          have sy : gM_state m y = 0 := tm_state ty
          rw [← tm_is (r := o) sy, Bool.eq_iff_iff, allN_iff]
          constructor
          · intro z
            have := z y hy
            simpa [hxy] using this
          · intro z c hc
            by_cases e : c = y
            · subst e; simp [z]
            · rw [fc_z ⟨hx, hy, hxy, tx, ty, tz⟩ hc e, Int64.mul_zero, Int64.add_zero, wi_big.mpr (h.ab ho hg hc), Bool.or_true]
        rw [e3, Bool.and_comm (wi 100000000000 _)]
      · simp [hg])
  rw [e1, e2]
  cases wi 1000000 (gM_cost m y + fc m r x y * gM_cost m x) <;> cases wi 1000000000000000 (tm m r x * gM_right m r * gM_cost m x) <;> rfl
theorem cl_unit (h : Rl C R F N w m) {r x : Nat} (hr : r < R) (hg : gM_gone m r = 0) (hx : x < C) : X6_isUnit (gC_tab w) (nI r) (nI x) = some (if tm m r x = 1 then 1 else if tm m r x = -1 then 1 else 0) := by
  have hr12 : r < 12 := by have := h.R12; omega
  have hx12 : x < 12 := by have := h.C12; omega
  simp only [X6_isUnit, X6_isUnit_J28, inR12 hr12, cl12 hr12, inR12 hx12, cl12 hx12, if_true, h.a hr hg hx]
  by_cases h1 : tm m r x = 1
  · rw [if_pos h1, if_pos h1]
  · rw [if_neg h1, if_neg h1]
    by_cases h2 : tm m r x = -1
    · rw [if_pos h2, if_pos h2]
    · rw [if_neg h2, if_neg h2]
theorem rf_unit (v : Int64) : X9_isUnit v = some (if v = 1 then 1 else if v = -1 then 1 else 0) := by
  simp only [X9_isUnit, X9_isUnit_J14]
  by_cases h1 : v = 1
  · rw [if_pos h1, if_pos h1]
  · rw [if_neg h1, if_neg h1]
    by_cases h2 : v = -1
    · rw [if_pos h2, if_pos h2]
    · rw [if_neg h2, if_neg h2]
end SD
