/-! rule 8 -/
def allN (p : Nat → Bool) : Nat → Bool
  | 0 => true
  | n + 1 => allN p n && p n
theorem allN_iff {p : Nat → Bool} {n : Nat} : allN p n = true ↔ ∀ i, i < n → p i = true := by
  induction n with
  | zero => simp [allN]
  | succ n ih =>
    simp only [allN, Bool.and_eq_true, ih]
    constructor
    · rintro ⟨h1, h2⟩ i hi
      by_cases e : i = n
      · subst e; exact h2
      · exact h1 i (by omega)
    · intro h
      exact ⟨fun i hi => h i (by omega), h n (by omega)⟩
theorem allN_congr {p q : Nat → Bool} {n : Nat} (h : ∀ i, i < n → p i = q i) : allN p n = allN q n := by
  induction n with
  | zero => rfl
  | succ n ih => simp only [allN]; rw [ih (fun i hi => h i (by omega)), h n (by omega)]
theorem all_loop {step : Int32 → Option (Int32 ⊕ (Unit ⊕ Unit))} (p : Nat → Bool) (n : Nat) (hn : n ≤ 12) (h1 : ∀ i, i < n → step (nI i) = if p i = true then some (.inl (nI (i + 1))) else some (.inr (.inl ()))) (h2 : step (nI n) = some (.inr (.inr ()))) : iter step 5000 0 = some (if allN p n = true then .inr () else .inl ()) := by
  obtain ⟨s1, s2, s3, s4⟩ := fstN_spec (fun i => !p i) n 0
  by_cases hk : fstN (fun i => !p i) n 0 < n
  · have e := iter_to (step := step) (fstN (fun i => !p i) n 0) (fun i => nI i) (.inl ()) (fun i hi => by
      have := s3 i (by omega) hi
      rw [h1 i (by omega), if_pos (by simpa using this)]) (by
      have := s4 (by omega)
      rw [h1 _ hk, if_neg (by simpa using this)]) (f := 5000) (by omega)
    have hf : ¬ allN p n = true := fun z => by
      have a1 := allN_iff.mp z _ hk
      have a2 := s4 (by omega)
      rw [a1] at a2
      exact absurd a2 (by decide)
    rw [if_neg hf]
    exact e
  · have e := iter_to (step := step) n (fun i => nI i) (.inr ()) (fun i hi => by
      have := s3 i (by omega) (by omega)
      rw [h1 i hi, if_pos (by simpa using this)]) h2 (f := 5000) (by omega)
    have hf : allN p n = true := allN_iff.mpr (fun i hi => by
      have := s3 i (by omega) (by omega)
      simpa using this)
    rw [if_pos hf]
    exact e
theorem mk_all {R : Nat} (h : R ≤ 12) : mk ((1 <<< (nI R &&& 31)) - 1) := by
  have : ∀ R, R < 13 → ((1 <<< (nI R &&& 31)) - 1 : Int32) &&& (-4096) = 0 := by decide
  exact this R (by omega)
theorem pos_iff {x : Int64} (h : big 1000000 x) (h0 : x ≠ 0) : (x * (1 : Int32).toInt64 < 0 ↔ ¬ (¬ x ≤ 0)) ∧ (x * (-1 : Int32).toInt64 < 0 ↔ ¬ (¬ 0 ≤ x)) := by
  obtain ⟨h1, h2⟩ := h
  have hz : (0 : Int64).toInt = 0 := rfl
  have e1 : x * (1 : Int32).toInt64 = x := by rw [show (1 : Int32).toInt64 = (1 : Int64) from rfl, Int64.mul_one]
  have e2 : x * (-1 : Int32).toInt64 = -x := by rw [show (-1 : Int32).toInt64 = (-1 : Int64) from rfl, Int64.mul_comm, neg_one_mul']
  have h3 := i64z h0
  rw [e1, e2, Int64.lt_iff_toInt_lt, Int64.lt_iff_toInt_lt, Int64.le_iff_toInt_le, Int64.le_iff_toInt_le, neg_ex (by omega), hz]
  omega
section S9
variable {C R : Nat} {F : FR} {N : Nat} {w : CW} {m : MW}
/-- the rows of a column's terms are all of kind 0 and of one sign -/
def pSide (m : MW) (c : Nat) (up : Bool) (r : Nat) : Bool := !(decide (gM_gone m r = 0)) || (decide (tm m r c = 0) || (decide (gM_kind m r = 0) && (if up then !(decide (tm m r c ≤ 0)) else !(decide (0 ≤ tm m r c)))))
theorem cl_only (h : Rl C R F N w m) {c : Nat} (hc : c < C) (up : Bool) : X1_hasOnlyTerms w (nI c) (if up then 1 else -1) = some (if allN (pSide m c up) R = true then 1 else 0) := by
  have hC := h.C12
  have hR := h.R12
  have hc12 : c < 12 := by omega
  have e := all_loop (step := X1_hasOnlyTerms_L2 w (nI c) (if up then 1 else -1)) (pSide m c up) R hR (fun i hi => by
    have hi12 : i < 12 := by omega
    simp only [X1_hasOnlyTerms_L2, h.1.2.1, nC_le hR hi, if_false, inR12 hi12, cl12 hi12, inR12 hc12, cl12 hc12, if_true, cl_gone h hi, Option.bind_some, X1_hasOnlyTerms_J68, nI_1]
    by_cases hg : gM_gone m i = 0
    · rw [h.a hi hg hc, h.kd hi hg]
      by_cases h1 : tm m i c = 0
      · simp [pSide, hg, h1]
      · have hp := pos_iff (h.ab hi hg hc) h1
        cases up
        · have e1 : (tm m i c * (-1 : Int32).toInt64 < 0) = (¬ ¬ 0 ≤ tm m i c) := propext hp.2
          simp only [pSide, hg, h1, if_true, if_false, Bool.false_eq_true, decide_true, decide_false, Bool.not_true, Bool.false_or, e1]
          by_cases h2 : 0 ≤ tm m i c
          · simp [h2]
          · by_cases h3 : gM_kind m i = 0 <;> simp [h2, h3]
        · have e1 : (tm m i c * (1 : Int32).toInt64 < 0) = (¬ ¬ tm m i c ≤ 0) := propext hp.1
          simp only [pSide, hg, h1, if_true, if_false, decide_true, decide_false, Bool.not_true, Bool.false_or, e1]
          by_cases h2 : tm m i c ≤ 0
          · simp [h2]
          · by_cases h3 : gM_kind m i = 0 <;> simp [h2, h3]
    · simp [pSide, hg]) (by
    simp only [X1_hasOnlyTerms_L2, h.1.2.1, Int32.le_refl, if_true])
  simp only [X1_hasOnlyTerms, e, Option.bind_some]
  by_cases hA : allN (pSide m c up) R = true
  · rw [if_pos hA, if_pos hA]; rfl
  · rw [if_neg hA, if_neg hA]; rfl
theorem rf_side (h : Rl C R F N w m) {c : Nat} (hc : c < C) : iter (X9_side_L7 m (nI c)) 5000 (1, 1, 0) = some ((if allN (pSide m c true) R = true then 1 else 0), (if allN (pSide m c false) R = true then 1 else 0)) := by
  have hC := h.C12
  have hR := h.R12
  have hc12 : c < 12 := by omega
  have e := iter_to (step := X9_side_L7 m (nI c)) R (fun i => ((if allN (pSide m c true) i = true then (1 : Int32) else 0), (if allN (pSide m c false) i = true then (1 : Int32) else 0), nI i)) ((if allN (pSide m c true) R = true then 1 else 0), (if allN (pSide m c false) R = true then 1 else 0)) (fun i hi => by
    have hi12 : i < 12 := by omega
    simp only [X9_side_L7, h.1.2.2.2.1, nC_le hR hi, if_false, inR12 hi12, cl12 hi12, inR12 hc12, cl12 hc12, if_true, rf_term0 m hi12 hc12, Option.bind_some, X9_side_J110, X9_side_J109, X9_side_J108, X9_side_J72, X9_side_J71, nI_1, ix144, inR144 hi12 hc12, cl144 hi12 hc12, allN]
    by_cases hg : gM_gone m i = 0
    · by_cases h1 : tm m i c = 0
      · simp [pSide, hg, h1]
      · rw [tm_coef h1]
        rcases i64_pos h1 with ⟨x1, x2⟩ | ⟨x1, x2⟩
        · by_cases h3 : gM_kind m i = 0
          · by_cases hA : allN (pSide m c true) i = true <;> by_cases hB : allN (pSide m c false) i = true <;> simp [pSide, hg, h1, h3, x1, x2, hA, hB]
          · by_cases hA : allN (pSide m c true) i = true <;> by_cases hB : allN (pSide m c false) i = true <;> simp [pSide, hg, h1, h3, x1, x2, hA, hB]
        · by_cases h3 : gM_kind m i = 0
          · by_cases hA : allN (pSide m c true) i = true <;> by_cases hB : allN (pSide m c false) i = true <;> simp [pSide, hg, h1, h3, x1, x2, hA, hB]
          · by_cases hA : allN (pSide m c true) i = true <;> by_cases hB : allN (pSide m c false) i = true <;> simp [pSide, hg, h1, h3, x1, x2, hA, hB]
    · simp [pSide, hg]) (by
    simp only [X9_side_L7, h.1.2.2.2.1, Int32.le_refl, if_true]) (f := 5000) (by omega)
  exact e
theorem r_side (h : Rl C R F N w m) (hN : N + 30 < 1000000) (hcert : gM_certificate m = -1) (hru : F.2.2.2.2.2 = 8) {c : Nat} (hc : c < C) (hs : gM_state m c = 0) : StO C R F (N + 30) (X1_moveToSide w (nI c)) (X9_side m (nI c)) := by
  have hC := h.C12
  have hR := h.R12
  have hc12 : c < 12 := by omega
  obtain ⟨⟨c1, c2, c3, c4, c5, c6⟩, c7, c8, c9, c10, c11, c12⟩ := h.2.2.1 c hc
  have hlh : gT_low (gC_tab w) c = gT_high (gC_tab w) c ↔ gM_low m c = gM_high m c := by
    rw [c2, c3]
    exact ⟨fun e => Int32.toInt_inj.mp (by rw [← (toI c).1, ← (toI c).2, e]), fun e => by show (gM_low m c).toInt64 = (gM_high m c).toInt64; rw [e]⟩
  have st : StO C R F (N + 30) (some (1, w)) (some m) := ⟨1, w, m, rfl, rfl, h.mono (by omega), good_yes hcert⟩
  have hmk := mk_all hR
  have khi : StO C R F (N + 30) ((X5_narrow w (-1) (nI c) 1 (lo m c) 1 ((1 <<< (nI R &&& 31)) - 1)).bind (fun r69 : Int32 × CW => (if isB r69.1 = true then some (r69.1, r69.2) else none))) ((X9_narrowHigh m 8 (-1) (nI c) (lo m c) ((1 <<< (nI R &&& 31)) - 1)).bind (fun r171 : MW => (some r171))) := by
    obtain ⟨v, b, w', m', d1, d2, d3, d4, d5, d6, d7, d8⟩ := sim_hi h (by omega) hcert hru hc hs (-1) (lo m c) (d := 1) (by decide) hmk
    have hv : v = lo m c := by
      rw [down_eq, fd1] at d1
      exact (Option.some.inj d1).symm
    subst hv
    exact ⟨b, w', m', by simp only [d2, Option.bind_some, isBg d5, if_true], by simp only [d3, Option.bind_some], d4.mono (by omega), d5⟩
  have klo : StO C R F (N + 30) ((X5_narrow w (-1) (nI c) 0 (hi m c) 1 ((1 <<< (nI R &&& 31)) - 1)).bind (fun r69 : Int32 × CW => (if isB r69.1 = true then some (r69.1, r69.2) else none))) ((X9_narrowLow m 8 (-1) (nI c) (hi m c) ((1 <<< (nI R &&& 31)) - 1)).bind (fun r171 : MW => (some r171))) := by
    obtain ⟨v, b, w', m', d1, d2, d3, d4, d5, d6, d7, d8⟩ := sim_lo h (by omega) hcert hru hc hs (-1) (hi m c) (d := 1) (by decide) hmk
    have hv : v = hi m c := by
      rw [up_eq, fd1] at d1
      simp only [Option.bind_some, Int64.neg_neg] at d1
      exact (Option.some.inj d1).symm
    subst hv
    exact ⟨b, w', m', by simp only [d2, Option.bind_some, isBg d5, if_true], by simp only [d3, Option.bind_some], d4.mono (by omega), d5⟩
  have ot : X1_hasOnlyTerms w (nI c) 1 = _ := cl_only h hc true
  have of : X1_hasOnlyTerms w (nI c) (-1) = _ := cl_only h hc false
  unfold X1_moveToSide X9_side X1_moveToSide_J73 X9_side_J177
  rw [rf_side h hc]
  simp only [inR12 hc12, cl12 hc12, if_true, Option.bind_some, c2, c3, c4, ot, of, X6_allRows, h.1.2.1, h.1.2.2.2.1]
  rw [c2, c3] at hlh
  by_cases e1 : gM_low m c = gM_high m c
  · rw [if_pos (hlh.mpr e1), if_pos e1]; exact st
  · rw [if_neg (fun z => e1 (hlh.mp z)), if_neg e1]
    have n10 : ¬ ((1 : Int32) = 0) := by decide
    have kb : StO C R F (N + 30) (if 0 < gM_cost m c then some (1, w) else if (if allN (pSide m c false) R = true then (1 : Int32) else 0) = 0 then some (1, w) else (X5_narrow w (-1) (nI c) 0 (hi m c) 1 ((1 <<< (nI R &&& 31)) - 1)).bind (fun r69 : Int32 × CW => (if isB r69.1 = true then some (r69.1, r69.2) else none))) (if 0 < gM_cost m c then some m else if (if allN (pSide m c false) R = true then (1 : Int32) else 0) = 0 then some m else (X9_narrowLow m 8 (-1) (nI c) (hi m c) ((1 <<< (nI R &&& 31)) - 1)).bind (fun r171 : MW => (some r171))) := by
      by_cases e2 : 0 < gM_cost m c
      · rw [if_pos e2, if_pos e2]; exact st
      · rw [if_neg e2, if_neg e2]
        by_cases e3 : (if allN (pSide m c false) R = true then (1 : Int32) else 0) = 0
        · rw [if_pos e3, if_pos e3]; exact st
        · rw [if_neg e3, if_neg e3]; exact klo
    by_cases e2 : gM_cost m c < 0
    · rw [if_pos e2, if_pos e2]; exact kb
    · rw [if_neg e2, if_neg e2]
      by_cases e3 : (if allN (pSide m c true) R = true then (1 : Int32) else 0) = 0
      · rw [if_pos e3, if_pos e3]; exact kb
      · rw [if_neg e3, if_neg e3]; exact khi
end S9
