/-! rule 11 -/
theorem cntN_one {p : Nat → Bool} {n a b : Nat} (h : cntN p n = 1) (ha : a < n) (hb : b < n) (pa : p a = true) (pb : p b = true) : a = b := by
  have key : ∀ a b, a < b → b < n → p a = true → p b = true → False := fun a b hab hb pa pb => by
    have h1 := cntN_hit pa
    have h2 := cntN_hit pb
    have h3 := cntN_mono p (show a + 1 ≤ b by omega)
    have h4 := cntN_mono p (show b + 1 ≤ n by omega)
    omega
  by_cases e : a < b
  · exact absurd (key a b e hb pa pb) id
  · by_cases e2 : b < a
    · exact absurd (key b a e2 ha pb pa) id
    · omega
def hit (m : MW) (x o : Nat) : Bool := decide (gM_gone m o = 0) && !(decide (tm m o x = 0))
theorem hit_t {m : MW} {x o : Nat} : hit m x o = true ↔ gM_gone m o = 0 ∧ tm m o x ≠ 0 := by simp [hit]
def oR (m : MW) (R x : Nat) : Nat := fstN (hit m x) R 0
theorem oR_spec (m : MW) (R x : Nat) : oR m R x ≤ R ∧ (∀ j, j < oR m R x → hit m x j = false) ∧ (oR m R x < R → hit m x (oR m R x) = true) := by
  obtain ⟨s1, s2, s3, s4⟩ := fstN_spec (hit m x) R 0
  exact ⟨by unfold oR; omega, fun j hj => s3 j (by omega) hj, fun hh => s4 (by unfold oR at hh; omega)⟩
theorem oR_first {m : MW} {R x i : Nat} (hi : i < R) (h0 : cntN (hit m x) i = 0) (hh : hit m x i = true) : oR m R x = i := by
  obtain ⟨s1, s2, s3⟩ := oR_spec m R x
  by_cases e : i < oR m R x
  · rw [s2 i e] at hh; exact absurd hh (by decide)
  · by_cases e2 : oR m R x < i
    · have := cntN_zero.mp h0 _ e2
      rw [s3 (by omega)] at this
      exact absurd this (by decide)
    · omega
section SF
variable {C R : Nat} {F : FR} {N : Nat} {w : CW} {m : MW}
theorem cl_onlyRow (h : Rl C R F N w m) {x : Nat} (hx : x < C) : X1_onlyRow w (nI x) = some (if cntN (hit m x) R = 1 then nI (oR m R x) else -1) := by
  have hC := h.C12
  have hR := h.R12
  have hx12 : x < 12 := by omega
  obtain ⟨e, q1, q2⟩ := iter_run (step := X1_onlyRow_L4 w (nI x)) (fun d s => ∃ i, i + d = R ∧ cntN (hit m x) i ≤ 1 ∧ s = ((if cntN (hit m x) i = 0 then -1 else nI (oR m R x)), nI i)) (fun e => Sum.elim (fun _ : Unit => (-1 : Int32)) (fun v => v) e = if cntN (hit m x) R = 1 then nI (oR m R x) else -1) (fun d s hs => by
    obtain ⟨i, hid, hc, rfl⟩ := hs
    by_cases hi : i < R
    · have hi12 : i < 12 := by omega
      have keep : hit m x i = false → cntN (hit m x) (i + 1) = cntN (hit m x) i := fun e => by simp only [cntN, e, if_false, Nat.add_zero, Bool.false_eq_true]
      by_cases hg : gM_gone m i = 0
      · by_cases ht : tm m i x = 0
        · refine Or.inl ⟨_, by simp only [X1_onlyRow_L4, h.1.2.1, nC_le hR hi, if_false, cl_gone h hi, hg, if_true, Option.bind_some, inR12 hi12, cl12 hi12, inR12 hx12, cl12 hx12, h.a hi hg hx, ht, X1_onlyRow_J51, nI_1] <;> rfl, d - 1, by omega, i + 1, by omega, ?_, ?_⟩
          · rw [keep (by simp [hit, ht])]; exact hc
          · rw [keep (by simp [hit, ht])]
        · have hh : hit m x i = true := hit_t.mpr ⟨hg, ht⟩
          have cu := cntN_hit hh
          by_cases h0 : cntN (hit m x) i = 0
          · refine Or.inl ⟨(nI i, nI (i + 1)), by simp only [X1_onlyRow_L4, h.1.2.1, nC_le hR hi, if_false, cl_gone h hi, hg, if_true, Option.bind_some, inR12 hi12, cl12 hi12, inR12 hx12, cl12 hx12, h.a hi hg hx, ht, X1_onlyRow_J51, nI_1, h0], d - 1, by omega, i + 1, by omega, by omega, ?_⟩
            rw [if_neg (by omega), oR_first hi h0 hh]
          · refine Or.inr ⟨.inl (), ?_, ?_⟩
            · have hn : ¬ nI (oR m R x) = -1 := nm1 (by have := (oR_spec m R x).1; omega)
              simp only [X1_onlyRow_L4, h.1.2.1, nC_le hR hi, if_false, cl_gone h hi, hg, if_true, Option.bind_some, inR12 hi12, cl12 hi12, inR12 hx12, cl12 hx12, h.a hi hg hx, ht, h0, hn]
            · have := cntN_mono (hit m x) (show i + 1 ≤ R by omega)
              rw [if_neg (by omega)] <;> rfl
      · refine Or.inl ⟨_, by simp only [X1_onlyRow_L4, h.1.2.1, nC_le hR hi, if_false, cl_gone h hi, hg, Option.bind_some, i10, X1_onlyRow_J51, nI_1] <;> rfl, d - 1, by omega, i + 1, by omega, ?_, ?_⟩
        · rw [keep (by simp [hit, hg])]; exact hc
        · rw [keep (by simp [hit, hg])]
    · have : i = R := by omega
      subst this
      refine Or.inr ⟨_, by simp only [X1_onlyRow_L4, h.1.2.1, Int32.le_refl, if_true] <;> rfl, ?_⟩
      show (if cntN (hit m x) i = 0 then -1 else nI (oR m i x)) = _
      by_cases h0 : cntN (hit m x) i = 0
      · rw [if_pos h0, if_neg (by omega)]
      · rw [if_neg h0, if_pos (by omega)]) R 5000 ((-1), 0) (by omega) ⟨0, by omega, by simp [cntN], by simp only [cntN, if_true] <;> rfl⟩
  simp only [X1_onlyRow, q1, Option.bind_some]
  rw [← q2]
  cases e <;> rfl
theorem rf_onlyRow (h : Rl C R F N w m) {x : Nat} (hx : x < C) : ∃ l, iter (X9_free_L7 m (nI x)) 5000 ((-1), 0, 0) = some (l, nI (cntN (hit m x) R)) ∧ (cntN (hit m x) R = 1 → l = nI (oR m R x)) := by
  have hC := h.C12
  have hR := h.R12
  have hx12 : x < 12 := by omega
  obtain ⟨e, q1, l, q2, q3⟩ := iter_run (step := X9_free_L7 m (nI x)) (fun d s => ∃ i l, i + d = R ∧ s = (l, nI (cntN (hit m x) i), nI i) ∧ (cntN (hit m x) i = 1 → l = nI (oR m R x))) (fun e => ∃ l, e = (l, nI (cntN (hit m x) R)) ∧ (cntN (hit m x) R = 1 → l = nI (oR m R x))) (fun d s hs => by
    obtain ⟨i, l, hid, rfl, hl⟩ := hs
    by_cases hi : i < R
    · have hi12 : i < 12 := by omega
      have keep : hit m x i = false → cntN (hit m x) (i + 1) = cntN (hit m x) i := fun e => by simp only [cntN, e, if_false, Nat.add_zero, Bool.false_eq_true]
      by_cases hg : gM_gone m i = 0
      · by_cases ht : tm m i x = 0
        · refine Or.inl ⟨_, by simp only [X9_free_L7, h.1.2.2.2.1, nC_le hR hi, if_false, inR12 hi12, cl12 hi12, if_true, hg, rf_term h hi hx, ht, Option.bind_some, X9_free_J42, nI_1] <;> rfl, d - 1, by omega, i + 1, l, by omega, ?_, ?_⟩
          · rw [keep (by simp [hit, ht])]
          · rw [keep (by simp [hit, ht])]; exact hl
        · have hh : hit m x i = true := hit_t.mpr ⟨hg, ht⟩
          have cu := cntN_hit hh
          refine Or.inl ⟨(nI i, nI (cntN (hit m x) i + 1), nI (i + 1)), by simp only [X9_free_L7, h.1.2.2.2.1, nC_le hR hi, if_false, inR12 hi12, cl12 hi12, if_true, hg, rf_term h hi hx, ht, i10, Option.bind_some, X9_free_J42, nI_1], d - 1, by omega, i + 1, nI i, by omega, by rw [cu], fun e1 => ?_⟩
          rw [oR_first hi (by omega) hh]
      · refine Or.inl ⟨_, by simp only [X9_free_L7, h.1.2.2.2.1, nC_le hR hi, if_false, inR12 hi12, cl12 hi12, if_true, hg, X9_free_J42, nI_1] <;> rfl, d - 1, by omega, i + 1, l, by omega, ?_, ?_⟩
        · rw [keep (by simp [hit, hg])]
        · rw [keep (by simp [hit, hg])]; exact hl
    · have : i = R := by omega
      subst this
      exact Or.inr ⟨_, by simp only [X9_free_L7, h.1.2.2.2.1, Int32.le_refl, if_true] <;> rfl, l, rfl, hl⟩) R 5000 ((-1), 0, 0) (by omega) ⟨0, -1, by omega, rfl, fun e => by simp [cntN] at e⟩
  subst q2
  exact ⟨l, q1, q3⟩
def pFree (m : MW) (r x : Nat) (s : Int64) (c : Nat) : Bool := decide (c = x) || (decide (tm m r c = 0) || wi 1000000 (gM_cost m c - s * tm m r c * gM_cost m x))
theorem rf_fits (h : Rl C R F N w m) {r x : Nat} (hr : r < R) (hx : x < C) (s : Int64) (b0 : Bool) : iter (X9_free_L249 (nI x) m (nI r) s) 5000 ((if b0 = true then 1 else 0), 0) = some (if (b0 && allN (pFree m r x s) C) = true then 1 else 0) := by
  have hC := h.C12
  have hR := h.R12
  have hr12 : r < 12 := by omega
  have hx12 : x < 12 := by omega
  have e := iter_to (step := X9_free_L249 (nI x) m (nI r) s) C (fun i => ((if (b0 && allN (pFree m r x s) i) = true then (1 : Int32) else 0), nI i)) (if (b0 && allN (pFree m r x s) C) = true then 1 else 0) (fun i hi => by
    have hi12 : i < 12 := by omega
    simp only [X9_free_L249, h.1.2.2.1, nC_le hC hi, if_false, rf_term h hr hi, Option.bind_some, inR12 hi12, cl12 hi12, inR12 hx12, cl12 hx12, if_true, ix144, inR144 hr12 hi12, cl144 hr12 hi12, X9_free_J320, X9_free_J319, X9_free_J315, nI_1, allN_s, rf_isC]
    by_cases h2 : (b0 && allN (pFree m r x s) i) = true
    · have e3 : (b0 && (allN (pFree m r x s) i && pFree m r x s i)) = pFree m r x s i := by rw [← Bool.and_assoc, h2, Bool.true_and]
      rw [e3, h2]
      by_cases e : i = x
      · subst e; simp [pFree]
      · have e2 : ¬ nI i = nI x := by rw [neq (by omega) (by omega)]; exact e
        by_cases h1 : tm m r i = 0
        · simp [pFree, e, e2, h1]
        · rw [tm_coef h1]
          by_cases h3 : wi 1000000 (gM_cost m i - s * tm m r i * gM_cost m x) = true <;> simp [pFree, e, e2, h1, h3]
    · have e3 : ¬ (b0 && (allN (pFree m r x s) i && pFree m r x s i)) = true := fun z => by
        rw [← Bool.and_assoc] at z
        exact h2 (Bool.and_eq_true _ _ ▸ z).1
      rw [if_neg e3, if_neg h2]
      simp) (by
    simp only [X9_free_L249, h.1.2.2.1, Int32.le_refl, if_true]) (f := 5000) (by omega)
  have e3 : (if (b0 && allN (pFree m r x s) 0) = true then (1 : Int32) else 0) = if b0 = true then 1 else 0 := by simp [allN]
  rw [← e3]
  exact e
theorem free_stays (h : Rl C R F N w m) {r x : Nat} (hx : x < C) (hone : ∀ o, o < R → o ≠ r → gM_gone m o = 0 → tm m o x = 0) : (wi 1000000000000000 (tm m r x * gM_right m r * gM_cost m x) && (allN (pCost m r x) C && allN (pRow m C r x) R)) = (wi 1000000000000000 (tm m r x * gM_right m r * gM_cost m x) && allN (pFree m r x (tm m r x)) C) := by
  have e1 : allN (pRow m C r x) R = true := allN_iff.mpr (fun o ho => by
    unfold pRow
    by_cases e : o = r
    · simp [e]
    · by_cases hg : gM_gone m o = 0
      · simp [hone o ho e hg]
      · simp [hg])
  have e2 : allN (pCost m r x) C = allN (pFree m r x (tm m r x)) C := allN_congr (fun c hc => by
    have hcb : wi 1000000 (gM_cost m c) = true := wi_big.mpr (h.2.2.1 c hc).2.2.2.2.2.2
    unfold pCost pFree fc
    by_cases e : c = x
    · rw [if_pos e, Int64.zero_mul, Int64.add_zero, hcb]; simp [e]
    · rw [if_neg e]
      by_cases e3 : tm m r c = 0
      · rw [e3, Int64.mul_zero, Int64.zero_mul, Int64.add_zero, hcb]; simp
      · rw [Int64.neg_mul, Int64.neg_mul, ← Int64.sub_eq_add_neg]
        simp [e, e3])
  rw [e1, e2, Bool.and_true]
/-- what the loop of the factors leaves -/
theorem often_shape (m : MW) (o1 c1 o2 c2 : Nat → Int64) : sM_cost (sM_often (sM_cost (sM_often m o1) c1) o2) c2 = sM_cost (sM_often m o2) c2 := rfl
theorem rf_times (h : Rl C R F N w m) {r x : Nat} (hr : r < R) (hx : x < C) : ∃ of co, iter (X9_free_L337 (nI x) (nI r) (tm m r x)) 5000 (m, 0) = some (sM_cost (sM_often m of) co) ∧ (∀ c, c < C → of (12 * x + c) = fc m r x c) ∧ (∀ x' c, x' ≠ x → c < 12 → of (12 * x' + c) = gM_often m (12 * x' + c)) ∧ ∀ c, c < C → co c = gM_cost m c + fc m r x c * gM_cost m x := by
  have hC := h.C12
  have hR := h.R12
  have hr12 : r < 12 := by omega
  have hx12 : x < 12 := by omega
  obtain ⟨e, q1, of, co, q2, q3, q4, q5⟩ := iter_run (step := X9_free_L337 (nI x) (nI r) (tm m r x)) (fun d s => ∃ (i : Nat) (of co : Nat → Int64), i + d = C ∧ s = (sM_cost (sM_often m of) co, nI i) ∧ (∀ c, c < i → of (12 * x + c) = fc m r x c) ∧ (∀ x' c, x' ≠ x → c < 12 → of (12 * x' + c) = gM_often m (12 * x' + c)) ∧ (∀ c, c < i → co c = gM_cost m c + fc m r x c * gM_cost m x) ∧ (∀ c, i ≤ c → co c = gM_cost m c) ∧ co x = gM_cost m x) (fun e => ∃ of co, e = sM_cost (sM_often m of) co ∧ (∀ c, c < C → of (12 * x + c) = fc m r x c) ∧ (∀ x' c, x' ≠ x → c < 12 → of (12 * x' + c) = gM_often m (12 * x' + c)) ∧ ∀ c, c < C → co c = gM_cost m c + fc m r x c * gM_cost m x) (fun d s hs => by
    obtain ⟨i, of, co, hid, rfl, h1, h2, h3, h4, h5⟩ := hs
    have hw2 : gM_columns (sM_cost (sM_often m of) co) = nI C := h.1.2.2.1
    by_cases hi : i < C
    · have hi12 : i < 12 := by omega
      have stp : ∀ v, v = fc m r x i → X9_free_J405 (nI x) (sM_cost (sM_often m of) co) (nI i) (nI (12 * x + i)) v = some (.inl (sM_cost (sM_often m (vp_updL of (12 * x + i) v)) (vp_updL co i (gM_cost m i + v * gM_cost m x)), nI (i + 1))) := fun v hv => by
        have a1 : gM_cost (sM_often (sM_cost (sM_often m of) co) (vp_updL (gM_often (sM_cost (sM_often m of) co)) (12 * x + i) v)) i = gM_cost m i := h4 i (Nat.le_refl _)
        have a2 : gM_cost (sM_often (sM_cost (sM_often m of) co) (vp_updL (gM_often (sM_cost (sM_often m of) co)) (12 * x + i) v)) x = gM_cost m x := h5
        have a3 : gM_often (sM_often (sM_cost (sM_often m of) co) (vp_updL (gM_often (sM_cost (sM_often m of) co)) (12 * x + i) v)) (12 * x + i) = v := by
          show vp_updL (gM_often (sM_cost (sM_often m of) co)) (12 * x + i) v (12 * x + i) = v
          unfold vp_updL; rw [if_pos rfl]
        simp only [X9_free_J405, inR144 hx12 hi12, cl144 hx12 hi12, if_true, bnd, inR12 hi12, cl12 hi12, ix144, inR12 hx12, cl12 hx12, a1, a2, a3, nI_1]
      have fin : X9_free_L337 (nI x) (nI r) (tm m r x) (sM_cost (sM_often m of) co, nI i) = X9_free_J405 (nI x) (sM_cost (sM_often m of) co) (nI i) (nI (12 * x + i)) (fc m r x i) := by
        have htm : tm (sM_cost (sM_often m of) co) r i = tm m r i := rfl
        have hcf : gM_coef (sM_cost (sM_often m of) co) = gM_coef m := rfl
        simp only [X9_free_L337, hw2, nC_le hC hi, if_false, rf_term0 (sM_cost (sM_often m of) co) hr12 hi12, htm, Option.bind_some, X9_free_J366, X9_free_J367, if_true, ix144, inR144 hr12 hi12, cl144 hr12 hi12, hcf, i10]
        by_cases e : i = x
        · have e2 : nI i = nI x := by rw [e]
          rw [if_pos e2]
          unfold fc; rw [if_pos e]
        · have e2 : ¬ nI i = nI x := by rw [neq (by omega) (by omega)]; exact e
          rw [if_neg e2]
          by_cases e3 : tm m r i = 0
          · rw [if_pos e3, if_pos rfl]
            unfold fc; rw [if_neg e, e3, Int64.mul_zero]
          · rw [if_neg e3, if_neg (show ¬ (1 : Int32) = 0 by decide), tm_coef e3]
            unfold fc; rw [if_neg e]
      refine Or.inl ⟨_, by rw [fin, stp _ rfl], d - 1, by omega, i + 1, _, _, by omega, rfl, fun c hc => ?_, fun x' c hx' hc => ?_, fun c hc => ?_, fun c hc => ?_, ?_⟩
      · unfold vp_updL
        by_cases e : c = i
        · subst e; rw [if_pos rfl]
        · rw [if_neg (by omega)]; exact h1 c (by omega)
      · unfold vp_updL; rw [if_neg (by omega)]; exact h2 x' c hx' hc
      · unfold vp_updL
        by_cases e : c = i
        · subst e; rw [if_pos rfl]
        · rw [if_neg e]; exact h3 c (by omega)
      · unfold vp_updL; rw [if_neg (by omega)]; exact h4 c (by omega)
      · unfold vp_updL
        by_cases e : x = i
        · rw [if_pos e, ← e]
          unfold fc; rw [if_pos rfl, Int64.zero_mul, Int64.add_zero]
        · rw [if_neg e]; exact h5
    · have : i = C := by omega
      subst this
      exact Or.inr ⟨_, by simp only [X9_free_L337, hw2, Int32.le_refl, if_true] <;> rfl, of, co, rfl, h1, h2, h3⟩) C 5000 (m, 0) (by omega) ⟨0, gM_often m, gM_cost m, by omega, rfl, fun c hc => by omega, fun _ _ _ _ => rfl, fun c hc => by omega, fun _ _ => rfl, rfl⟩
  subst q2
  exact ⟨of, co, q1, q3, q4, q5⟩
theorem rf_tail11 (h : Rl C R F N w m) {r x P : Nat} (hr : r < R) (hx : x < C) (hone : ∀ o, o < R → o ≠ r → gM_gone m o = 0 → tm m o x = 0) (hP : gM_putIns m = nI P) (hP12 : P < 12) : ∃ m5, ((iter (X9_free_L337 (nI x) (nI r) (tm m r x)) 5000 (m, 0)).bind (fun z337 : (MW) => ((X9_goes z337 11 (nI r) (nI x) (tm m r x * gM_right m r)).bind (fun r448 : MW => (some r448))))) = (X9_act m5 11 (nI r) (nI x) 5 (tm m r x * gM_right m r)).bind (fun z => some z) ∧ putM m m5 C R r x P := by
  have hC := h.C12
  have hR := h.R12
  have hr12 : r < 12 := by omega
  have hx12 : x < 12 := by omega
  obtain ⟨of, co, f1, f2, f3, f4⟩ := rf_times h hr hx
  obtain ⟨m5, g1, g2, g3, g4, ⟨g5, g6, g7, g8, g9⟩, g10, g11, g12, g13⟩ := rf_goes (m2 := sM_cost (sM_often m of) co) (P := P) hr12 hx12 hP12 hP 11 (tm m r x * gM_right m r)
  refine ⟨m5, ?_, ?_, g3, g4, fun c hc => ?_, fun o ho => ?_, ?_, g11, ⟨?_, fun i hi => ?_⟩, ⟨?_, fun c hc => ?_⟩, fun c hc => ?_, fun x' c hx' hc => ?_⟩
  · simp only [f1, Option.bind_some, g1]
    cases X9_act m5 11 (nI r) (nI x) 5 (tm m r x * gM_right m r) <;> rfl
  · exact MS.trans (a := m) (b := sM_cost (sM_often m of) co) ⟨⟨rfl, rfl, rfl, rfl, rfl, rfl, rfl, rfl, rfl, rfl⟩, rfl, rfl, rfl, rfl, rfl⟩ g2
  · rw [g5]; exact f4 c hc
  · have k1 : gM_coef m5 = gM_coef m := g6
    have k2 : gM_right m5 = gM_right m := g7
    have k3 : gM_rest m5 = gM_rest m := g8
    unfold rowPutM
    rw [k1, k2, k3]
    exact ⟨fun z => absurd (hone o ho z.1 z.2.1) z.2.2, fun _ => ⟨fun _ _ => rfl, rfl, rfl⟩⟩
  · rw [g10]
    show gM_offset m + tm m r x * gM_right m r * co x = _
    rw [f4 x hx]
    unfold fc; rw [if_pos rfl, Int64.zero_mul, Int64.add_zero]
  · rw [g12]; unfold upd; rw [if_pos rfl]
  · rw [g12]; unfold upd; rw [if_neg hi]
  · rw [g13]; unfold vp_updL; rw [if_pos rfl]
  · rw [g13]; unfold vp_updL; rw [if_neg hc]
  · rw [g9]; exact f2 c hc
  · rw [g9]; exact f3 x' c hx' hc
theorem sum_le {f g : Nat → Int64} {B : Int} (hB0 : 0 ≤ B) (hB : B ≤ 10000000000) : ∀ {n : Nat}, n ≤ 12 → (∀ c, c < n → big B (f c) ∧ big B (g c) ∧ f c ≤ g c) → (sumN f n).toInt ≤ (sumN g n).toInt
  | 0, _, _ => Int.le_refl _
  | n + 1, hn, hh => by
    have ih := sum_le hB0 hB (n := n) (by omega) (fun c hc => hh c (by omega))
    obtain ⟨⟨p1, p2⟩, -⟩ := sum_big (f := f) hB0 hB (n := n) (by omega) (fun c hc => (hh c (by omega)).1)
    obtain ⟨⟨p3, p4⟩, -⟩ := sum_big (f := g) hB0 hB (n := n) (by omega) (fun c hc => (hh c (by omega)).2.1)
    obtain ⟨⟨a1, a2⟩, ⟨a3, a4⟩, a5⟩ := hh n (by omega)
    have a5' := Int64.le_iff_toInt_le.mp a5
    simp only [sumN]
    rw [add_ex (by omega), add_ex (by omega)]
    omega
theorem sum_mul (u : Int64) (f : Nat → Int64) (n : Nat) : sumN (fun c => u * f c) n = u * sumN f n := by
  induction n with
  | zero => simp [sumN]
  | succ n ih => simp only [sumN]; rw [ih, Int64.mul_add]
/-- a row's terms but x's, at a point -/
def hT (m : MW) (r x : Nat) (p : Nat → Int64) (c : Nat) : Int64 := if c = x then 0 else tm m r c * p c
theorem hT_in (h : Rl C R F N w m) {r x : Nat} (hr : r < R) (hg : gM_gone m r = 0) (hx : x < C) {p : Nat → Int64} (hp : inBox C m p) {c : Nat} (hc : c < C) : big 10000000000 (hT m r x p c) ∧ fR m r (nI x) 0 c ≤ hT m r x p c ∧ hT m r x p c ≤ fR m r (nI x) 1 c := by
  have hC := h.C12
  obtain ⟨l1, l2, l3, l4⟩ := colb h hc
  obtain ⟨p1, p2⟩ := hp c hc
  have p1' := Int64.le_iff_toInt_le.mp p1
  have p2' := Int64.le_iff_toInt_le.mp p2
  have pb : big 10000 (p c) := ⟨by omega, by omega⟩
  have ha := h.ab hr hg hc
  obtain ⟨x1, x2, x3⟩ := mul_big ha pb (by omega) (by omega) (by omega)
  obtain ⟨y1, y2, y3⟩ := mul_big ha l1 (by omega) (by omega) (by omega)
  obtain ⟨z1, z2, z3⟩ := mul_big ha l2 (by omega) (by omega) (by omega)
  have hz : big 10000000000 0 := by unfold big; decide
  have z0 : (0 : Int64).toInt = 0 := rfl
  unfold hT fR
  by_cases e : c = x
  · have e2 : nI c = nI x := by rw [e]
    simp only [if_pos e, if_pos e2]
    refine ⟨hz, ?_, ?_⟩ <;> split <;> exact Int64.le_refl _
  · have e2 : ¬ nI c = nI x := by rw [neq (by omega) (by omega)]; exact e
    simp only [if_neg e, if_neg e2]
    by_cases t0 : tm m r c = 0
    · rw [t0, Int64.zero_mul, if_pos rfl, if_pos rfl]
      exact ⟨hz, Int64.le_refl _, Int64.le_refl _⟩
    · rw [if_neg t0, if_neg t0]
      refine ⟨by unfold big; rw [x1]; omega, ?_, ?_⟩
      · by_cases t1 : tm m r c ≤ 0
        · have t1' := Int64.le_iff_toInt_le.mp t1
          rw [if_pos t1, if_pos rfl, Int64.le_iff_toInt_le, x1, z1]
          exact Int.mul_le_mul_of_nonpos_left (by omega) p2'
        · have t1' : ¬ (tm m r c).toInt ≤ (0 : Int64).toInt := fun z => t1 (Int64.le_iff_toInt_le.mpr z)
          rw [if_neg t1, if_neg (by decide), Int64.le_iff_toInt_le, x1, y1]
          exact Int.mul_le_mul_of_nonneg_left p1' (by omega)
      · by_cases t1 : tm m r c ≤ 0
        · have t1' := Int64.le_iff_toInt_le.mp t1
          rw [if_pos t1, if_neg (by decide), Int64.le_iff_toInt_le, x1, y1]
          exact Int.mul_le_mul_of_nonpos_left (by omega) p1'
        · have t1' : ¬ (tm m r c).toInt ≤ (0 : Int64).toInt := fun z => t1 (Int64.le_iff_toInt_le.mpr z)
          rw [if_neg t1, if_pos rfl, Int64.le_iff_toInt_le, x1, z1]
          exact Int.mul_le_mul_of_nonneg_left p2' (by omega)
theorem J11 (h : Rl C R F N w m) (hN : N + 30 < 1000000) {r x : Nat} (hr : r < R) (hg : gM_gone m r = 0) (hx : x < C) (hb : (tm m r x = 1 ∧ lo m x ≤ gM_right m r - sumN (fR m r (nI x) 1) C ∧ gM_right m r - sumN (fR m r (nI x) 0) C ≤ hi m x) ∨ (tm m r x = -1 ∧ lo m x ≤ sumN (fR m r (nI x) 0) C - gM_right m r ∧ sumN (fR m r (nI x) 1) C - gM_right m r ≤ hi m x)) (p : Nat → Int64) (hp : inBox C m p) : lo m x ≤ tm m r x * gM_right m r + sumN (fun c => fc m r x c * p c) C ∧ tm m r x * gM_right m r + sumN (fun c => fc m r x c * p c) C ≤ hi m x := by
  have hC := h.C12
  have e1 : sumN (fun c => fc m r x c * p c) C = -(tm m r x) * sumN (hT m r x p) C := by
    rw [← sum_mul]
    exact sumN_congr (fun c hc => by
      unfold fc hT
      by_cases e : c = x
      · rw [if_pos e, if_pos e, Int64.zero_mul, Int64.mul_zero]
      · rw [if_neg e, if_neg e, Int64.mul_assoc])
  rw [e1]
  have s0 := sum_le (B := 10000000000) (by omega) (by omega) hC (fun c hc => ⟨fR_big h hr hg (nI x) 0 hc, (hT_in h hr hg hx hp hc).1, (hT_in h hr hg hx hp hc).2.1⟩)
  have s1 := sum_le (B := 10000000000) (by omega) (by omega) hC (fun c hc => ⟨(hT_in h hr hg hx hp hc).1, fR_big h hr hg (nI x) 1 hc, (hT_in h hr hg hx hp hc).2.2⟩)
  obtain ⟨b1, b2⟩ := reach_big h hr hg (nI x) 0
  obtain ⟨b3, b4⟩ := reach_big h hr hg (nI x) 1
  obtain ⟨b5, b6⟩ := (h.2.2.2.1 r hr).2.2.2.1
  generalize sumN (hT m r x p) C = H at *
  generalize sumN (fR m r (nI x) 0) C = S0 at *
  generalize sumN (fR m r (nI x) 1) C = S1 at *
  rcases hb with ⟨t, u1, u2⟩ | ⟨t, u1, u2⟩
  · rw [t, Int64.one_mul, neg_one_mul', ← Int64.sub_eq_add_neg]
    rw [Int64.le_iff_toInt_le, sub_ex (by omega)] at u1 u2 ⊢
    rw [Int64.le_iff_toInt_le, sub_ex (by omega)]
    omega
  · rw [t, neg_one_mul', Int64.neg_neg, Int64.one_mul, Int64.add_comm, ← Int64.sub_eq_add_neg]
    rw [Int64.le_iff_toInt_le, sub_ex (by omega)] at u1 u2 ⊢
    rw [Int64.le_iff_toInt_le, sub_ex (by omega)]
    omega
theorem s_free (h : Rl C R F N w m) (hN : N + 30 < 1000000) (hcert : gM_certificate m = -1) (hru : F.2.2.2.2.2 = 11) {r x : Nat} (hr : r < R) (hg : gM_gone m r = 0) (hx : x < C) (hs : gM_state m x = 0) (hone : ∀ o, o < R → o ≠ r → gM_gone m o = 0 → tm m o x = 0) {l u : Int64} (hb : (tm m r x = 1 ∧ l = gM_right m r - sumN (fR m r (nI x) 1) C ∧ u = gM_right m r - sumN (fR m r (nI x) 0) C) ∨ (tm m r x = -1 ∧ l = sumN (fR m r (nI x) 0) C - gM_right m r ∧ u = sumN (fR m r (nI x) 1) C - gM_right m r)) : StO C R F (N + 30) (X1_putInFree_J141 (nI x) w (nI r) l u) (X9_free_J179 (nI x) m (nI r) (tm m r x) l u) := by
  have hC := h.C12
  have hR := h.R12
  have hr12 : r < 12 := by omega
  have hx12 : x < 12 := by omega
  have stay : StO C R F (N + 30) (some (1, w)) (some m) := ⟨1, w, m, rfl, rfl, h.mono (by omega), good_yes hcert⟩
  have fit := rf_fits h hr hx (tm m r x)
  have f0 := fit false
  have f1 := fit true
  simp only [Bool.false_and, if_false, Bool.false_eq_true] at f0
  simp only [if_true, Bool.true_and] at f1
  have no : X9_free_J243 (nI x) m (nI r) (tm m r x) (tm m r x * gM_right m r) = some m := by
    simp only [X9_free_J243, X9_free_J244, f0, Option.bind_some, if_true]
  obtain ⟨⟨c1, c2, c3, c4, c5, c6⟩, -⟩ := h.2.2.1 x hx
  simp only [X1_putInFree_J141, X9_free_J179, inR12 hx12, cl12 hx12, inR12 hr12, cl12 hr12, if_true, c2, c3, cl_stays h hr hg hx, free_stays h hx hone, no, show (-1000000000000000 : Int64) = -(1000000000000000 : Int64) from rfl, rf_wi, Option.bind_some]
  by_cases hl : l < lo m x
  · rw [if_pos hl, if_pos hl]; exact stay
  · rw [if_neg hl, if_neg hl]
    by_cases hu : hi m x < u
    · rw [if_pos hu, if_pos hu]; exact stay
    · rw [if_neg hu, if_neg hu]
      by_cases h1 : wi 1000000000000000 (tm m r x * gM_right m r * gM_cost m x) = true
      · rw [h1]
        by_cases h2 : allN (pFree m r x (tm m r x)) C = true
        · have hS := free_stays h hx hone (r := r)
          rw [h1, h2] at hS
          have hS2 : allN (pCost m r x) C = true ∧ allN (pRow m C r x) R = true := by
            rw [Bool.true_and, Bool.and_self, Bool.and_eq_true] at hS
            exact hS
          rw [h2] at f1
          obtain ⟨w', m', z1, z2, z3, z4⟩ := s_putEnd h (by omega) hru hr hg hx hs hS2.1 hS2.2 (J11 h hN hr hg hx (by
            rcases hb with ⟨t, e1, e2⟩ | ⟨t, e1, e2⟩
            · subst e1 e2
              exact Or.inl ⟨t, Int64.not_lt.mp hl, Int64.not_lt.mp hu⟩
            · subst e1 e2
              exact Or.inr ⟨t, Int64.not_lt.mp hl, Int64.not_lt.mp hu⟩)) (fun P p1 p2 => rf_tail11 h hr hx hone p1 p2)
          simp only [h2, Bool.and_self, if_true, i10, if_false, z1, Option.bind_some, X9_free_J244, f1, z2]
          exact ⟨1, w', m', rfl, rfl, z3.mono (by omega), good_yes (z4.trans hcert)⟩
        · have h2' : allN (pFree m r x (tm m r x)) C = false := by simpa using h2
          rw [h2'] at f1
          simp only [h2', Bool.and_false, if_true, if_false, i10, Bool.false_eq_true, X9_free_J244, f1, Option.bind_some]
          exact stay
      · have h1' : wi 1000000000000000 (tm m r x * gM_right m r * gM_cost m x) = false := by simpa using h1
        simp only [h1', Bool.false_and, Bool.false_eq_true, if_false, if_true]
        exact stay
theorem r_free (h : Rl C R F N w m) (hN : N + 30 < 1000000) (hcert : gM_certificate m = -1) (hru : F.2.2.2.2.2 = 11) {c : Nat} (hc : c < C) (hs : gM_state m c = 0) : StO C R F (N + 30) (X1_putInFree w (nI c)) (X9_free m (nI c)) := by
  have hC := h.C12
  have hR := h.R12
  have hc12 : c < 12 := by omega
  have stay : StO C R F (N + 30) (some (1, w)) (some m) := ⟨1, w, m, rfl, rfl, h.mono (by omega), good_yes hcert⟩
  obtain ⟨l, l1, l2⟩ := rf_onlyRow h hc
  have hct := cntN_le (hit m c) R
  by_cases h1 : cntN (hit m c) R = 1
  · have l3 := l2 h1
    subst l3
    obtain ⟨s1, s2, s3⟩ := oR_spec m R c
    have hr : oR m R c < R := by
      by_cases e : oR m R c < R
      · exact e
      · have := cntN_zero.mpr (fun i (hi : i < R) => s2 i (by omega))
        omega
    have hh := s3 hr
    have hone : ∀ o, o < R → o ≠ oR m R c → gM_gone m o = 0 → tm m o c = 0 := fun o ho hne hgo => by
      by_cases e : tm m o c = 0
      · exact e
      · exact absurd (cntN_one h1 ho hr (hit_t.mpr ⟨hgo, e⟩) hh) hne
    obtain ⟨hg, ht⟩ := hit_t.mp hh
    have oc := cl_onlyRow h hc
    rw [if_pos h1] at oc
    generalize oR m R c = r at *
    have hr12 : r < 12 := by omega
    have hcn := cntN_le (isT m r) C
    rw [h1] at l1
    have one : nI 1 = 1 := rfl
    simp only [X1_putInFree, oc, Option.bind_some, nm1 (show r ≤ 5000 by omega), if_false, inR12 hr12, cl12 hr12, if_true, h.kd hr hg, cl_unit h hr hg hc, cl_count h hr hg, cl_reach h hr hg, inR12 hc12, cl12 hc12, h.a hr hg hc, (h.2.2.2.1 r hr).1.1, X9_free, l1, one, rf_terms h hr, ix144, inR144 hr12 hc12, cl144 hr12 hc12, rf_unit, rf_end h hr, tm_coef ht, X1_putInFree_J105, X1_putInFree_J123, X9_free_J149, i10]
    by_cases hk : gM_kind m r = 1
    · rw [if_pos hk, if_pos hk]
      by_cases hu : (if tm m r c = 1 then (1 : Int32) else if tm m r c = -1 then 1 else 0) = 0
      · rw [if_pos hu, if_pos hu]
        split <;> exact stay
      · rw [if_neg hu, if_neg hu]
        by_cases h2 : 2 ≤ cntN (isT m r) C
        · have h2a : (2 : Int32) ≤ nI (cntN (isT m r) C) := by rw [show (2 : Int32) = nI 2 from rfl, nle (by omega) (by omega)]; exact h2
          have h2b : ¬ nI (cntN (isT m r) C) < 2 := by rw [show (2 : Int32) = nI 2 from rfl, nlt (by omega) (by omega)]; omega
          rw [if_pos h2a, if_neg h2b]
          rcases unit_cases hu with t | t
          · have t1 : ¬ tm m r c ≤ 0 := by rw [t]; decide
            rw [if_neg t1, if_pos t, if_pos t]
            exact s_free h hN hcert hru hr hg hc hs hone (Or.inl ⟨t, rfl, rfl⟩)
          · have t1 : tm m r c ≤ 0 := by rw [t]; decide
            have t2 : ¬ tm m r c = 1 := by rw [t]; decide
            rw [if_pos t1, if_neg t2, if_neg t2]
            exact s_free h hN hcert hru hr hg hc hs hone (Or.inr ⟨t, rfl, rfl⟩)
        · have h2a : ¬ (2 : Int32) ≤ nI (cntN (isT m r) C) := by rw [show (2 : Int32) = nI 2 from rfl, nle (by omega) (by omega)]; exact h2
          have h2b : nI (cntN (isT m r) C) < 2 := by rw [show (2 : Int32) = nI 2 from rfl, nlt (by omega) (by omega)]; omega
          rw [if_neg h2a, if_pos h2b]
          exact stay
    · rw [if_neg hk, if_neg hk]; exact stay
  · have oc := cl_onlyRow h hc
    rw [if_neg h1] at oc
    have e : ¬ nI (cntN (hit m c) R) = 1 := by rw [show (1 : Int32) = nI 1 from rfl, neq (by omega) (by omega)]; exact h1
    simp only [X1_putInFree, oc, Option.bind_some, if_true, X9_free, l1, e, if_false]
    exact stay
end SF
