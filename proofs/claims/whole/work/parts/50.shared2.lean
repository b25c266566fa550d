theorem rf_term0 (m : MW) {r c : Nat} (hr12 : r < 12) (hc12 : c < 12) : X9_isTerm m (nI r) (nI c) = some (if tm m r c = 0 then 0 else 1) := by
  simp only [X9_isTerm, ix144, inR12 hc12, cl12 hc12, inR144 hr12 hc12, cl144 hr12 hc12, tm, if_true]
  by_cases h1 : gM_state m c = 0
  · by_cases h2 : gM_coef m (12 * r + c) = 0 <;> simp [h1, h2]
  · simp [h1]
/-- a row of coefficients has been changed by g, up to column C -/
def RowUp (A A' : Nat → Nat → Int64) (r C : Nat) (g : Int64 → Int64) : Prop := (∀ r', r' ≠ r → A' r' = A r') ∧ ∀ c, A' r c = if c < C then g (A r c) else A r c
theorem rowloop {step : CW × Int32 → Option ((CW × Int32) ⊕ CW)} (g : Int64 → Int64) (r C : Nat) (hC : C ≤ 12) (w : CW) (hw : gT_columns (gC_tab w) = nI C) (h1 : ∀ (w1 : CW) (i : Nat), gT_columns (gC_tab w1) = nI C → i < C → step (w1, nI i) = some (.inl (sC_tab w1 (sT_a (gC_tab w1) (va_up (gT_a (gC_tab w1)) r (vp_updL (gT_a (gC_tab w1) r) i (g (gT_a (gC_tab w1) r i))))), nI (i + 1)))) (h2 : ∀ w1 : CW, gT_columns (gC_tab w1) = nI C → step (w1, nI C) = some (.inr w1)) : ∃ A', iter step 5000 (w, 0) = some (sC_tab w (sT_a (gC_tab w) A')) ∧ RowUp (gT_a (gC_tab w)) A' r C g := by
  obtain ⟨e, q1, A', q2, q3⟩ := iter_run (step := step) (fun d s => ∃ (i : Nat) (A' : Nat → Nat → Int64), i + d = C ∧ s = (sC_tab w (sT_a (gC_tab w) A'), nI i) ∧ RowUp (gT_a (gC_tab w)) A' r i g) (fun e => ∃ A', e = sC_tab w (sT_a (gC_tab w) A') ∧ RowUp (gT_a (gC_tab w)) A' r C g) (fun d x hx => by
    obtain ⟨i, A', hi, rfl, hA1, hA2⟩ := hx
    by_cases hic : i < C
    · refine Or.inl ⟨_, h1 _ i hw hic, d - 1, by omega, i + 1, va_up A' r (vp_updL (A' r) i (g (A' r i))), by omega, rfl, fun r' hr' => ?_, fun c => ?_⟩
      · rw [va_up_ne _ _ hr', hA1 r' hr']
      · rw [va_up_self]
        have hi0 := hA2 i
        rw [if_neg (Nat.lt_irrefl i)] at hi0
        unfold vp_updL
        by_cases e : c = i
        · subst e
          rw [if_pos rfl, if_pos (by omega), hi0]
        · rw [if_neg e, hA2 c]
          by_cases e2 : c < i
          · rw [if_pos e2, if_pos (by omega)]
          · rw [if_neg e2, if_neg (by omega)]
    · have : i = C := by omega
      subst this
      exact Or.inr ⟨_, h2 _ hw, A', rfl, hA1, hA2⟩) C 5000 (w, 0) (by omega) ⟨0, gT_a (gC_tab w), by omega, rfl, fun _ _ => rfl, fun c => by rw [if_neg (by omega)]⟩
  exact ⟨A', by rw [q1, q2], q3⟩
theorem coefloop (m : MW) {r C : Nat} (hC : C ≤ 12) (hr12 : r < 12) (hm : gM_columns m = nI C) {g : Int64} (hg : g ≠ 0) (sg : Int64) : ∃ K', iter (X9_shared_L176 (nI r) g sg) 5000 (m, 0) = some (sM_coef m K') ∧ (∀ j, (∀ c, c < C → j ≠ 12 * r + c) → K' j = gM_coef m j) ∧ ∀ c, c < C → K' (12 * r + c) = if tm m r c = 0 then gM_coef m (12 * r + c) else sg * (gM_coef m (12 * r + c) / g) := by
  obtain ⟨e, q1, K', q2, q3, q4⟩ := iter_run (step := X9_shared_L176 (nI r) g sg) (fun d s => ∃ (i : Nat) (K' : Nat → Int64), i + d = C ∧ s = (sM_coef m K', nI i) ∧ (∀ j, (∀ c, c < i → j ≠ 12 * r + c) → K' j = gM_coef m j) ∧ ∀ c, c < i → K' (12 * r + c) = if tm m r c = 0 then gM_coef m (12 * r + c) else sg * (gM_coef m (12 * r + c) / g)) (fun e => ∃ K', e = sM_coef m K' ∧ (∀ j, (∀ c, c < C → j ≠ 12 * r + c) → K' j = gM_coef m j) ∧ ∀ c, c < C → K' (12 * r + c) = if tm m r c = 0 then gM_coef m (12 * r + c) else sg * (gM_coef m (12 * r + c) / g)) (fun d x hx => by
    obtain ⟨i, K', hi, rfl, hA1, hA2⟩ := hx
    have hm1 : gM_columns (sM_coef m K') = nI C := hm
    by_cases hic : i < C
    · have hi12 : i < 12 := by omega
      have hKi : K' (12 * r + i) = gM_coef m (12 * r + i) := hA1 _ (fun c hc => by omega)
      have htm : tm (sM_coef m K') r i = tm m r i := by
        unfold tm
        show (if gM_state m i = 0 then K' (12 * r + i) else 0) = _
        rw [hKi]
      have ht := rf_term0 (sM_coef m K') hr12 hi12
      rw [htm] at ht
      by_cases h1 : tm m r i = 0
      · refine Or.inl ⟨(sM_coef m K', nI (i + 1)), ?_, d - 1, by omega, i + 1, K', by omega, rfl, fun j hj => hA1 j (fun c hc => hj c (by omega)), fun c hc => ?_⟩
        · simp only [X9_shared_L176, hm1, nC_le hC hic, if_false, ht, h1, if_true, Option.bind_some, X9_shared_J224, nI_1]
        · by_cases e : c = i
          · subst e; rw [if_pos h1, hKi]
          · exact hA2 c (by omega)
      · refine Or.inl ⟨(sM_coef m (vp_updL K' (12 * r + i) (sg * (gM_coef m (12 * r + i) / g))), nI (i + 1)), ?_, d - 1, by omega, i + 1, _, by omega, rfl, fun j hj => ?_, fun c hc => ?_⟩
        · have hKi2 : gM_coef (sM_coef m K') (12 * r + i) = gM_coef m (12 * r + i) := hKi
          simp only [X9_shared_L176, hm1, nC_le hC hic, if_false, ht, h1, if_true, Option.bind_some, X9_shared_J224, nI_1, i10, ix144, inR144 hr12 hi12, cl144 hr12 hi12, hg, bnd, hKi2]
        · unfold vp_updL
          rw [if_neg (hj i (by omega))]
          exact hA1 j (fun c hc => hj c (by omega))
        · unfold vp_updL
          by_cases e : c = i
          · subst e; rw [if_pos rfl, if_neg h1]
          · rw [if_neg (by omega)]
            exact hA2 c (by omega)
    · have : i = C := by omega
      subst this
      refine Or.inr ⟨sM_coef m K', ?_, K', rfl, hA1, hA2⟩
      simp only [X9_shared_L176, hm1, Int32.le_refl, if_true]) C 5000 (m, 0) (by omega) ⟨0, gM_coef m, by omega, rfl, fun _ _ => rfl, fun c hc => by omega⟩
  exact ⟨K', by rw [q1, q2], q3, q4⟩
section S6
variable {C R : Nat} {F : FR} {N : Nat} {w : CW} {m : MW}
theorem tm_zero {r c : Nat} (h : gM_state m c ≠ 0) : tm m r c = 0 := by unfold tm; rw [if_neg h]
theorem tm_is {r c : Nat} (h : gM_state m c = 0) : tm m r c = gM_coef m (12 * r + c) := by unfold tm; rw [if_pos h]
/-- a row told anew -/
theorem s_anew (h : Rl C R F N w m) (hN : N < 1000000) {ru : Int32} (hru : F.2.2.2.2.2 = ru) {r : Nat} (hr : r < R) (hg : gM_gone m r = 0) {A' : Nat → Nat → Int64} {rt rt' : Nat → Int64} {K' : Nat → Int64} {rs : Nat → Int32} {rs' : Nat → Int32} (hA1 : ∀ r', r' < R → r' ≠ r → ∀ c, c < C → A' r' c = gT_a (gC_tab w) r' c) (hK1 : ∀ r', r' < R → r' ≠ r → ∀ c, c < C → K' (12 * r' + c) = gM_coef m (12 * r' + c)) (hA2 : ∀ c, c < C → A' r c = (if gM_state m c = 0 then K' (12 * r + c) else 0) ∧ big 1000000 (A' r c)) (hr1 : ∀ r', r' < R → r' ≠ r → rt r' = gM_right m r' ∧ rt' r' = gM_right m r') (hr2 : rt r = rt' r) (hr3 : big (200000000000 + 10000000000 * N) (rt' r)) (hs1 : ∀ r', r' < R → r' ≠ r → rs r' = gM_rest m r' ∧ rs' r' = gM_rest m r') (hs2 : rs r = rs' r) (hs3 : mk (rs' r)) : ∃ w' a1 a2 a3 a4 a5 k, X5_noteAnew (sC_rowRest (sC_tab w (sT_right (sT_a (gC_tab w) A') rt)) rs) (nI r) = some w' ∧ X9_act (sM_rest (sM_right (sM_coef m K') rt') rs') ru (nI r) (-1) 3 (rt' r) = some (mA (sM_rest (sM_right (sM_coef m K') rt') rs') a1 a2 a3 a4 a5 k) ∧ Rl C R F (N + 1) w' (mA (sM_rest (sM_right (sM_coef m K') rt') rs') a1 a2 a3 a4 a5 k) := by
  have hr12 : r < 12 := by have := h.R12; omega
  subst hru
  obtain ⟨nn, a1, a2, a3, a4, a5, q1, q2, q3⟩ := sim_act (w := sC_rowRest (sC_tab w (sT_right (sT_a (gC_tab w) A') rt)) rs) (m := sM_rest (sM_right (sM_coef m K') rt') rs') (N := N) (by
        obtain ⟨k, k1, k2, k3, k4⟩ := h.2.2.2.2.1
        exact ⟨k, k1, k2, k3, k4⟩) hN F.2.2.2.2.2 (nI r) (-1) 3 (rt' r)
  refine ⟨wA (sC_rowRest (sC_tab w (sT_right (sT_a (gC_tab w) A') rt)) rs) nn (gC_count w + 1), a1, a2, a3, a4, a5, gM_acts m + 1, ?_, q2, ⟨h.1, h.2.1, h.2.2.1, ?_, q3, h.2.2.2.2.2.1, h.2.2.2.2.2.2.1, h.2.2.2.2.2.2.2⟩⟩
  · have hru : gC_rule (sC_rowRest (sC_tab w (sT_right (sT_a (gC_tab w) A') rt)) rs) = F.2.2.2.2.2 := h.2.1.2.2.2.2.2
    have hrt : gT_right (gC_tab (sC_rowRest (sC_tab w (sT_right (sT_a (gC_tab w) A') rt)) rs)) r = rt' r := hr2
    simp only [X5_noteAnew, inR12 hr12, cl12 hr12, if_true]
    rw [hru, hrt, q1]
    rfl
  · intro r' hr'
    by_cases e : r' = r
    · subst e
      obtain ⟨p1, p3, p4, p5, p6⟩ := h.2.2.2.1 r' hr'
      refine ⟨⟨hr2, hs2⟩, hs3, p4, big_mono hr3 (by omega), Or.inl ⟨hg, h.kd hr hg, fun c hc => ?_⟩⟩
      have e1 : tm (mA (sM_rest (sM_right (sM_coef m K') rt') rs') a1 a2 a3 a4 a5 (gM_acts m + 1)) r' c = if gM_state m c = 0 then K' (12 * r' + c) else 0 := rfl
      rw [e1, ← (hA2 c hc).1]
      exact ⟨rfl, (hA2 c hc).2⟩
    · obtain ⟨⟨p1, p2⟩, p3, p4, p5, p6⟩ := h.2.2.2.1 r' hr'
      refine ⟨⟨(hr1 r' hr' e).1.trans (hr1 r' hr' e).2.symm, (hs1 r' hr' e).1.trans (hs1 r' hr' e).2.symm⟩, ?_, p4, ?_, ?_⟩
      · show mk (rs' r')
        rw [(hs1 r' hr' e).2]; exact p3
      · show big _ (rt' r')
        rw [(hr1 r' hr' e).2]; exact big_mono p5 (by omega)
      · rcases p6 with ⟨x1, x2, x3⟩ | ⟨x1, x2⟩
        · refine Or.inl ⟨x1, x2, fun c hc => ?_⟩
          have e1 : tm (mA (sM_rest (sM_right (sM_coef m K') rt') rs') a1 a2 a3 a4 a5 (gM_acts m + 1)) r' c = if gM_state m c = 0 then K' (12 * r' + c) else 0 := rfl
          have e2 : gT_a (gC_tab (wA (sC_rowRest (sC_tab w (sT_right (sT_a (gC_tab w) A') rt)) rs) nn (gC_count w + 1))) r' c = A' r' c := rfl
          rw [e1, e2, hK1 r' hr' e c hc, hA1 r' hr' e c hc]
          exact x3 c hc
        · exact Or.inr ⟨x1, x2⟩
end S6
