/-! put in: what stays within its limits -/
def wi (L v : Int64) : Bool := !(decide (v < -L)) && decide (v ≤ L)
theorem cl_bey (v L : Int64) : X8_beyond v L = some (if wi L v = true then 0 else 1) := by
  unfold X8_beyond X8_beyond_J13 wi
  by_cases h1 : v < -L
  · simp [h1]
  · by_cases h2 : v ≤ L <;> simp [h1, h2]
theorem rf_wi (v L : Int64) : X9_within v (-L) L = some (if wi L v = true then 1 else 0) := by
  unfold X9_within wi
  by_cases h1 : v < -L
  · simp [h1]
  · by_cases h2 : v ≤ L
    · have : ¬ L < v := Int64.not_lt.mpr h2
      simp [h1, h2, this]
    · have : L < v := Int64.not_le.mp h2
      simp [h1, h2, this]
theorem rf_isC (v : Int64) : X9_isCoefficient v = some (if wi 1000000 v = true then 1 else 0) := by
  unfold X9_isCoefficient
  rw [show (-1000000 : Int64) = -(1000000 : Int64) from rfl, rf_wi]
  by_cases h : wi 1000000 v = true
  · rw [if_pos h]; rfl
  · rw [if_neg h]; rfl
theorem wi_big {v : Int64} : wi 1000000 v = true ↔ big 1000000 v := by
  unfold wi big
  simp only [Bool.and_eq_true, Bool.not_eq_true', decide_eq_false_iff_not, decide_eq_true_eq]
  rw [Int64.lt_iff_toInt_lt, Int64.le_iff_toInt_le]
  have h1 : (-(1000000 : Int64)).toInt = -1000000 := rfl
  have h2 : (1000000 : Int64).toInt = 1000000 := rfl
  rw [h1, h2]
  omega
theorem wi_big11 {v : Int64} : wi 100000000000 v = true ↔ big 100000000000 v := by
  unfold wi big
  simp only [Bool.and_eq_true, Bool.not_eq_true', decide_eq_false_iff_not, decide_eq_true_eq]
  rw [Int64.lt_iff_toInt_lt, Int64.le_iff_toInt_le]
  have h1 : (-(100000000000 : Int64)).toInt = -100000000000 := rfl
  have h2 : (100000000000 : Int64).toInt = 100000000000 := rfl
  rw [h1, h2]
  omega
/-- by the row r, x is a shift and the others times such factors -/
def fc (m : MW) (r x y : Nat) : Int64 := if y = x then 0 else -(tm m r x) * tm m r y
section SA
variable {C R : Nat} {F : FR} {N : Nat} {w : CW} {m : MW}
theorem cl_fc (h : Rl C R F N w m) {r x y : Nat} (hr : r < R) (hg : gM_gone m r = 0) (hx : x < C) (hy : y < C) : X1_factorOf w (nI r) (nI x) (nI y) = some (fc m r x y) := by
  have hC := h.C12
  have hR := h.R12
  have hr12 : r < 12 := by omega
  have hx12 : x < 12 := by omega
  have hy12 : y < 12 := by omega
  unfold X1_factorOf fc
  by_cases e : y = x
  · subst e; simp
  · have e2 : ¬ nI y = nI x := by rw [neq (by omega) (by omega)]; exact e
    simp only [e, e2, if_false, inR12 hr12, cl12 hr12, inR12 hx12, cl12 hx12, inR12 hy12, cl12 hy12, if_true, h.a hr hg hx, h.a hr hg hy]
/-- a row in which x would be put in -/
def pRow (m : MW) (C r x o : Nat) : Bool := decide (o = r) || (!(decide (gM_gone m o = 0)) || (decide (tm m o x = 0) || (wi 100000000000 (gM_right m o - tm m o x * (tm m r x * gM_right m r)) && allN (fun y => decide (y = x) || wi 1000000 (tm m o y + tm m o x * fc m r x y)) C)))
def pCost (m : MW) (r x y : Nat) : Bool := wi 1000000 (gM_cost m y + fc m r x y * gM_cost m x)
theorem cl_rowStays (h : Rl C R F N w m) {r x o : Nat} (hr : r < R) (hg : gM_gone m r = 0) (hx : x < C) (ho : o < R) (hg2 : gM_gone m o = 0) : X1_rowStaysWithin w (nI r) (nI x) (nI o) = some (if (decide (tm m o x = 0) || (wi 100000000000 (gM_right m o - tm m o x * (tm m r x * gM_right m r)) && allN (fun y => decide (y = x) || wi 1000000 (tm m o y + tm m o x * fc m r x y)) C)) = true then 1 else 0) := by
  have hC := h.C12
  have hR := h.R12
  have hr12 : r < 12 := by omega
  have hx12 : x < 12 := by omega
  have ho12 : o < 12 := by omega
  have e := all_loop (step := X1_rowStaysWithin_L74 w (nI r) (nI x) (nI o)) (fun y => decide (y = x) || wi 1000000 (tm m o y + tm m o x * fc m r x y)) C hC (fun i hi => by
    have hi12 : i < 12 := by omega
    simp only [X1_rowStaysWithin_L74, h.1.1, nC_le hC hi, if_false, inR12 ho12, cl12 ho12, inR12 hi12, cl12 hi12, cl12 hx12, if_true, cl_fc h hr hg hx hi, Option.bind_some, cl_bey, h.a ho hg2 hi, h.a ho hg2 hx, X1_rowStaysWithin_J127, nI_1]
    by_cases e : i = x
    · subst e; simp
    · have e2 : ¬ nI i = nI x := by rw [neq (by omega) (by omega)]; exact e
      by_cases e3 : wi 1000000 (tm m o i + tm m o x * fc m r x i) = true <;> simp [e, e2, e3]) (by
    simp only [X1_rowStaysWithin_L74, h.1.1, Int32.le_refl, if_true])
  simp only [X1_rowStaysWithin, inR12 hr12, cl12 hr12, inR12 hx12, cl12 hx12, inR12 ho12, cl12 ho12, if_true, h.a ho hg2 hx, h.a hr hg hx, (h.2.2.2.1 o ho).1.1, (h.2.2.2.1 r hr).1.1, cl_bey, Option.bind_some, e]
  by_cases h1 : tm m o x = 0
  · simp [h1]
  · by_cases h2 : wi 100000000000 (gM_right m o - tm m o x * (tm m r x * gM_right m r)) = true
    · by_cases h3 : allN (fun y => decide (y = x) || wi 1000000 (tm m o y + tm m o x * fc m r x y)) C = true
      · simp [h1, h2, h3]
      · simp [h1, h2, h3]
    · simp [h1, h2]
theorem cl_stays (h : Rl C R F N w m) {r x : Nat} (hr : r < R) (hg : gM_gone m r = 0) (hx : x < C) : X1_staysWithin w (nI r) (nI x) = some (if (wi 1000000000000000 (tm m r x * gM_right m r * gM_cost m x) && (allN (pCost m r x) C && allN (pRow m C r x) R)) = true then 1 else 0) := by
  have hC := h.C12
  have hR := h.R12
  have hr12 : r < 12 := by omega
  have hx12 : x < 12 := by omega
  have ex := (h.2.2.1 x hx).1.2.2.2.1
  have e1 := all_loop (step := X1_staysWithin_L47 w (nI r) (nI x)) (pCost m r x) C hC (fun i hi => by
    have hi12 : i < 12 := by omega
    have ei := (h.2.2.1 i hi).1.2.2.2.1
    simp only [X1_staysWithin_L47, h.1.1, nC_le hC hi, if_false, inR12 hx12, cl12 hx12, inR12 hi12, cl12 hi12, if_true, cl_fc h hr hg hx hi, Option.bind_some, cl_bey, ei, ex, nI_1, pCost]
    by_cases e3 : wi 1000000 (gM_cost m i + fc m r x i * gM_cost m x) = true <;> simp [e3]) (by
    simp only [X1_staysWithin_L47, h.1.1, Int32.le_refl, if_true])
  have e2 := all_loop (step := X1_staysWithin_L108 w (nI r) (nI x)) (pRow m C r x) R hR (fun i hi => by
    have hi12 : i < 12 := by omega
    simp only [X1_staysWithin_L108, h.1.2.1, nC_le hR hi, if_false, cl_gone h hi, Option.bind_some, X1_staysWithin_J151, nI_1, pRow]
    by_cases e : i = r
    · subst e; simp
    · have e2 : ¬ nI i = nI r := by rw [neq (by omega) (by omega)]; exact e
      by_cases hgi : gM_gone m i = 0
      · rw [cl_rowStays h hr hg hx hi hgi]
        by_cases e4 : (decide (tm m i x = 0) || (wi 100000000000 (gM_right m i - tm m i x * (tm m r x * gM_right m r)) && allN (fun y => decide (y = x) || wi 1000000 (tm m i y + tm m i x * fc m r x y)) C)) = true
        · rw [if_pos e4]; simp only [e, e2, hgi, if_true, if_false, Option.bind_some, i10, decide_false, decide_true, Bool.false_or, Bool.not_true, e4]
        · rw [if_neg e4]; simp only [e, e2, hgi, if_true, if_false, Option.bind_some, decide_false, decide_true, Bool.false_or, Bool.not_true, e4]; rfl
      · simp [e, e2, hgi]) (by
    simp only [X1_staysWithin_L108, h.1.2.1, Int32.le_refl, if_true])
  simp only [X1_staysWithin, inR12 hr12, cl12 hr12, inR12 hx12, cl12 hx12, if_true, h.a hr hg hx, (h.2.2.2.1 r hr).1.1, ex, cl_bey, Option.bind_some, e1, e2]
  by_cases h1 : wi 1000000000000000 (tm m r x * gM_right m r * gM_cost m x) = true
  · by_cases h2 : allN (pCost m r x) C = true
    · by_cases h3 : allN (pRow m C r x) R = true
      · simp [h1, h2, h3]
      · simp [h1, h2, h3]
    · simp [h1, h2]
  · simp [h1]
end SA
