/-! rules 4, 5 -/
section S3
variable {C R : Nat} {F : FR} {N : Nat} {w : CW} {m : MW}
theorem nC_le {C i : Nat} (hC : C ≤ 12) (hi : i < C) : ¬ nI C ≤ nI i := by rw [nle (by omega) (by omega)]; omega
/-- the reference's loop goes on and does nothing once all is impossible -/
theorem toEnds_rest (h : Rl C R F N w m) (h9 : gM_certificate m ≠ -1) {r : Nat} (hr : r < R) (m0 : MW) (gr q : Int32) {i : Nat} (hi : i ≤ C) {f : Nat} (hf : C - i < f) : iter (X9_toEnds_L18 m0 (nI r) gr q) f (m, nI i) = some m := by
  have hC := h.C12
  have hR := h.R12
  have hr12 : r < 12 := by omega
  have e := iter_to (step := X9_toEnds_L18 m0 (nI r) gr q) (C - i) (fun j => (m, nI (i + j))) m (fun j hj => by
    have hj12 : i + j < 12 := by omega
    have ht := rf_term h hr (show i + j < C by omega)
    simp only [X9_toEnds_L18, h.1.2.2.1, nC_le hC (show i + j < C by omega), ht, if_false, Option.bind_some, ix144, inR144 hr12 hj12, cl144 hr12 hj12, X9_toEnds_J59, X9_toEnds_J100, inR12 hj12, cl12 hj12, no_low h9, no_high h9, if_true, nI_1]
    by_cases h1 : tm m r (i + j) = 0
    · simp only [h1, if_true]; rfl
    · by_cases h3 : gM_coef m (12 * r + (i + j)) ≤ 0
      · by_cases h4 : (0 : Int32) = gr
        · subst h4; simp only [h1, h3, i10, if_true, if_false]; rfl
        · simp only [h1, h3, h4, i10, if_true, if_false]; rfl
      · by_cases h4 : (1 : Int32) = gr
        · subst h4; simp only [h1, h3, i10, if_true, if_false]; rfl
        · simp only [h1, h3, h4, i10, if_true, if_false]; rfl) (by
    show X9_toEnds_L18 m0 (nI r) gr q (m, nI (i + (C - i))) = _
    rw [show i + (C - i) = C by omega]
    simp only [X9_toEnds_L18, h.1.2.2.1, Int32.le_refl, if_true]) hf
  exact e
theorem hold_loop (h : Rl C R F N w m) (hN : N + 20 < 1000000) (hcert : gM_certificate m = -1) (hru : F.2.2.2.2.2 = 4) {r : Nat} (hr : r < R) (hg : gM_gone m r = 0) (gr : Int32) {q : Int32} (hq : mk q) : ∃ ea eb, iter (X4_holdAtEnd_L24 w (nI r) gr q) 5000 (w, 0) = some ea ∧ iter (X9_toEnds_L18 m (nI r) gr q) 5000 (m, 0) = some eb ∧ Rl C R F (N + 12) (Sum.elim id id ea) eb ∧ NR m eb ∧ ((∃ w', ea = .inl w' ∧ gM_certificate eb ≠ -1) ∨ (∃ w', ea = .inr w' ∧ gM_certificate eb = -1)) := by
  have hC := h.C12
  have hR := h.R12
  have hr12 : r < 12 := by omega
  obtain ⟨⟨r1, r2⟩, r3, r4, r5, r6⟩ := h.2.2.2.1 r hr
  have hz : mk (gM_rest m r ||| q) := mk_or r3 hq
  refine iter_sim (sa := X4_holdAtEnd_L24 w (nI r) gr q) (sb := X9_toEnds_L18 m (nI r) gr q) (fun d a b => ∃ i, i + d = C ∧ a.2 = nI i ∧ b.2 = nI i ∧ Rl C R F (N + i) a.1 b.1 ∧ NR m b.1 ∧ gM_certificate b.1 = -1) (fun ea eb => Rl C R F (N + 12) (Sum.elim id id ea) eb ∧ NR m eb ∧ ((∃ w', ea = .inl w' ∧ gM_certificate eb ≠ -1) ∨ (∃ w', ea = .inr w' ∧ gM_certificate eb = -1))) ?_ C 5000 5000 (w, 0) (m, 0) (by omega) (by omega) ⟨0, by omega, rfl, rfl, h, NR.refl m, hcert⟩
  rintro d ⟨w1, i1⟩ ⟨m1, i2⟩ ⟨i, hid, e1, e2, hR1, hNR, hc1⟩
  dsimp only at e1 e2 hR1 hNR hc1
  subst e1 e2
  by_cases hic : i < C
  · have hi12 : i < 12 := by omega
    have hg1 : gM_gone m1 r = 0 := by rw [hNR.1.2.2.2.2.2.1]; exact hg
    have ha := hR1.a hr hg1 hic
    have ht := rf_term hR1 hr hic
    obtain ⟨⟨c1, c2, c3, c4, c5, c6⟩, -⟩ := hR1.2.2.1 i hic
    by_cases h1 : tm m1 r i = 0
    · refine Or.inl ⟨(w1, nI (i + 1)), (m1, nI (i + 1)), ?_, ?_, d - 1, by omega, i + 1, by omega, rfl, rfl, hR1.mono (by omega), hNR, hc1⟩
      · simp only [X4_holdAtEnd_L24, hR1.1.1, nC_le hC hic, if_false, inR12 hr12, cl12 hr12, inR12 hi12, cl12 hi12, if_true, ha, h1, X4_holdAtEnd_J139, nI_1]
      · simp only [X9_toEnds_L18, hR1.1.2.2.1, nC_le hC hic, if_false, ht, h1, if_true, Option.bind_some, X9_toEnds_J100, nI_1]
    · have hs := tm_state h1
      have hcf := tm_coef h1
      have fin : ∀ (w' : CW) (m' : MW) (b : Int32), Rl C R F (N + i + 1) w' m' → good b m' → NR m1 m' → X4_holdAtEnd_L24 w (nI r) gr q (w1, nI i) = (if b = 0 then some (.inr (.inl w')) else some (.inl (w', nI (i + 1)))) → X9_toEnds_L18 m (nI r) gr q (m1, nI i) = some (.inl (m', nI (i + 1))) → (∃ a' b', X4_holdAtEnd_L24 w (nI r) gr q (w1, nI i) = some (.inl a') ∧ X9_toEnds_L18 m (nI r) gr q (m1, nI i) = some (.inl b') ∧ ∃ d', d' < d ∧ ∃ i, i + d' = C ∧ a'.2 = nI i ∧ b'.2 = nI i ∧ Rl C R F (N + i) a'.1 b'.1 ∧ NR m b'.1 ∧ gM_certificate b'.1 = -1) ∨ (∃ ea, X4_holdAtEnd_L24 w (nI r) gr q (w1, nI i) = some (.inr ea) ∧ ∀ f, d < f → ∃ eb, iter (X9_toEnds_L18 m (nI r) gr q) f (m1, nI i) = some eb ∧ (Rl C R F (N + 12) (Sum.elim id id ea) eb ∧ NR m eb ∧ ((∃ w', ea = .inl w' ∧ gM_certificate eb ≠ -1) ∨ (∃ w', ea = .inr w' ∧ gM_certificate eb = -1)))) := by
        intro w' m' b x1 x2 x3 x4 x5
        rcases good_cases x2 with ⟨rfl, h9⟩ | ⟨rfl, h9⟩
        · refine Or.inl ⟨(w', nI (i + 1)), (m', nI (i + 1)), ?_, x5, d - 1, by omega, i + 1, by omega, rfl, rfl, x1, hNR.trans x3, h9⟩
          rw [x4, if_neg (by decide)]
        · refine Or.inr ⟨.inl w', ?_, fun f hf => ⟨m', ?_, x1.mono (by omega), hNR.trans x3, Or.inl ⟨w', rfl, h9⟩⟩⟩
          · rw [x4, if_pos rfl]
          · obtain ⟨f, rfl⟩ : ∃ g, f = g + 1 := ⟨f - 1, by omega⟩
            rw [iter_in x5]
            exact toEnds_rest x1 h9 hr m gr q (by omega) (by omega)
      have one : ((1 : Int32) = 0) = False := i10
      have zer : ((0 : Int32) = 1) = False := i01
      by_cases hat : (if tm m1 r i ≤ 0 then (0 : Int32) else 1) = gr
      · -- at the high end: the low is narrowed
        obtain ⟨v, b, w', m', d1, d2, d3, d4, d5, d6, d7, d8⟩ := sim_lo (hR1) (by omega) hc1 hru hic hs (nI r) (hi m1 i) (d := 1) (by decide) hz
        have hv : v = hi m1 i := by
          rw [up_eq, fd1] at d1
          simp only [Option.bind_some, Int64.neg_neg] at d1
          exact (Option.some.inj d1).symm
        subst hv
        refine fin w' m' b d4 d5 d6 ?_ ?_
        · simp only [X4_holdAtEnd_L24, hR1.1.1, nC_le hC hic, if_false, inR12 hr12, cl12 hr12, inR12 hi12, cl12 hi12, if_true, ha, h1, X4_holdAtEnd_J69, X4_holdAtEnd_J78, X4_holdAtEnd_J108, X4_holdAtEnd_J127, X4_holdAtEnd_J139, nI_1, r2, c3]
          by_cases h3 : tm m1 r i ≤ 0
          · rw [if_pos h3] at hat; subst hat
            simp only [h3, if_true, i10, if_false, d2, Option.bind_some]
          · rw [if_neg h3] at hat; subst hat
            simp only [h3, if_true, i10, if_false, d2, Option.bind_some]
        · simp only [X9_toEnds_L18, hR1.1.2.2.1, nC_le hC hic, if_false, ht, h1, Option.bind_some, X9_toEnds_J59, X9_toEnds_J100, nI_1, i10, ix144, inR144 hr12 hi12, cl144 hr12 hi12, if_true, hcf, inR12 hi12, cl12 hi12, cl12 hr12]
          by_cases h3 : tm m1 r i ≤ 0
          · rw [if_pos h3] at hat; subst hat
            simp only [h3, if_true, d3, Option.bind_some]
          · rw [if_neg h3] at hat; subst hat
            simp only [h3, if_true, if_false, d3, Option.bind_some]
      · obtain ⟨v, b, w', m', d1, d2, d3, d4, d5, d6, d7, d8⟩ := sim_hi (hR1) (by omega) hc1 hru hic hs (nI r) (lo m1 i) (d := 1) (by decide) hz
        have hv : v = lo m1 i := by
          rw [down_eq, fd1] at d1
          exact (Option.some.inj d1).symm
        subst hv
        refine fin w' m' b d4 d5 d6 ?_ ?_
        · simp only [X4_holdAtEnd_L24, hR1.1.1, nC_le hC hic, if_false, inR12 hr12, cl12 hr12, inR12 hi12, cl12 hi12, if_true, ha, h1, X4_holdAtEnd_J69, X4_holdAtEnd_J78, X4_holdAtEnd_J108, X4_holdAtEnd_J127, X4_holdAtEnd_J139, nI_1, r2, c2]
          by_cases h3 : tm m1 r i ≤ 0
          · rw [if_pos h3] at hat
            simp only [h3, hat, if_true, if_false, d2, Option.bind_some]
          · rw [if_neg h3] at hat
            simp only [h3, hat, if_true, if_false, d2, Option.bind_some]
        · simp only [X9_toEnds_L18, hR1.1.2.2.1, nC_le hC hic, if_false, ht, h1, Option.bind_some, X9_toEnds_J59, X9_toEnds_J100, nI_1, i10, ix144, inR144 hr12 hi12, cl144 hr12 hi12, if_true, hcf, inR12 hi12, cl12 hi12, cl12 hr12]
          by_cases h3 : tm m1 r i ≤ 0
          · rw [if_pos h3] at hat
            simp only [h3, hat, if_true, if_false, d3, Option.bind_some]
          · rw [if_neg h3] at hat
            simp only [h3, hat, if_true, if_false, d3, Option.bind_some]
  · have : i = C := by omega
    subst this
    refine Or.inr ⟨.inr w1, ?_, fun f hf => ⟨m1, iter_end ?_ (by omega), hR1.mono (by omega), hNR, Or.inr ⟨w1, rfl, hc1⟩⟩⟩
    · simp only [X4_holdAtEnd_L24, hR1.1.1, Int32.le_refl, if_true]
    · simp only [X9_toEnds_L18, hR1.1.2.2.1, Int32.le_refl, if_true]
theorem s_hold (h : Rl C R F N w m) (hN : N + 20 < 1000000) (hcert : gM_certificate m = -1) (hru : F.2.2.2.2.2 = 4) {r : Nat} (hr : r < R) (hg : gM_gone m r = 0) (gr : Int32) : StO C R F (N + 13) (X4_holdAtEnd w (nI r) gr) (X9_toEnds m (nI r) gr) := by
  have hR := h.R12
  have hr12 : r < 12 := by omega
  obtain ⟨ea, eb, e1, e2, e3, e4, e5⟩ := hold_loop h hN hcert hru hr hg gr (h.mkS r (-1) gr)
  rcases e5 with ⟨w', rfl, h9⟩ | ⟨w', rfl, h9⟩
  · refine ⟨0, w', eb, ?_, ?_, e3.mono (by omega), good_nope h9⟩
    · simp only [X4_holdAtEnd, inR12 hr12, if_true, cl_reachRest h hr hg, Option.bind_some, e1, Sum.elim_inl]
    · simp only [X9_toEnds, inR12 hr12, if_true, rf_from h hr, Option.bind_some, e2, no_leave h9]
  · obtain ⟨w2, a1, a2, a3, a4, a5, k, q1, q2, q3⟩ := sim_leave e3 (by omega) h9 hr
    rw [hru] at q2
    have q1' : X5_leaveOut w' (nI r) = some w2 := q1
    refine ⟨1, w2, _, ?_, ?_, q3.mono (by omega), good_yes (show gM_certificate eb = -1 from h9)⟩
    · simp only [X4_holdAtEnd, inR12 hr12, if_true, cl_reachRest h hr hg, Option.bind_some, e1, Sum.elim_inr, q1']
    · simp only [X9_toEnds, inR12 hr12, if_true, rf_from h hr, Option.bind_some, e2, q2]
theorem r_span (h : Rl C R F N w m) (hN : N + 30 < 1000000) (hcert : gM_certificate m = -1) (hru : F.2.2.2.2.2 = 4) {r : Nat} (hr : r < R) (hg : gM_gone m r = 0) : StO C R F (N + 30) (X4_lookAtSpan w (nI r)) (X9_span m (nI r)) := by
  have hR := h.R12
  have hr12 : r < 12 := by omega
  obtain ⟨⟨r1, r2⟩, r3, r4, r5, r6⟩ := h.2.2.2.1 r hr
  have hkd := h.kd hr hg
  have hb : ∀ {x y}, StO C R F (N + 13) x y → StO C R F (N + 30) (x.bind (fun r161 : Int32 × CW => (if isB r161.1 = true then some (r161.1, r161.2) else none))) (y.bind (fun r136 : MW => (some r136))) := by
    intro x y hxy
    obtain ⟨b, w', m', x1, x2, x3, x4⟩ := hxy
    exact ⟨b, w', m', by simp only [x1, Option.bind_some, isBg x4, if_true], by simp only [x2, Option.bind_some], x3.mono (by omega), x4⟩
  have k0 := hb (s_hold h (by omega) hcert hru hr hg 0)
  have k1 := hb (s_hold h (by omega) hcert hru hr hg 1)
  obtain ⟨w2, a1, a2, a3, a4, a5, k, q1, q2, q3⟩ := sim_leave h (by omega) hcert hr
  rw [hru] at q2
  have imp : ∀ gr : Int32, StO C R F (N + 30) ((X5_endAll w (gM_rest m r ||| orN (fS m r (-1) gr) C)).bind (fun r125 : Int32 × CW => (if isB r125.1 = true then some (r125.1, r125.2) else none))) ((X9_impossible m (gM_rest m r ||| orN (fS m r (-1) gr) C)).bind (fun r86 : MW => (some r86))) := fun gr => by
    obtain ⟨w1, m1, p1, p2, p3, p4, -⟩ := sim_imp h hcert (mk_or r3 (h.mkS r (-1) gr))
    exact ⟨0, w1, m1, by simp only [p1, Option.bind_some, isB0, if_true], by simp only [p2, Option.bind_some], p3.mono (by omega), p4⟩
  have lv : StO C R F (N + 30) ((X5_leaveOut w (nI r)).bind (fun r146 : CW => (some (1, r146)))) ((X9_leave m 4 (nI r)).bind (fun r116 : MW => (some r116))) := ⟨1, w2, _, by simp only [q1, Option.bind_some], by simp only [q2, Option.bind_some], q3.mono (by omega), good_yes (show gM_certificate m = -1 from hcert)⟩
  have st : StO C R F (N + 30) (some (1, w)) (some m) := ⟨1, w, m, rfl, rfl, h.mono (by omega), good_yes hcert⟩
  have n10 : ¬ ((1 : Int32) = 0) := by decide
  have n01 : ¬ ((0 : Int32) = 1) := by decide
  unfold X4_lookAtSpan X9_span X4_lookAtSpan_J28 X9_span_J92 X4_lookAtSpan_J129 X9_span_J122 X4_lookAtSpan_J151
  simp only [cl_reach h hr hg, rf_end h hr, cl_reachRest h hr hg, rf_from h hr, Option.bind_some, inR12 hr12, cl12 hr12, if_true, hkd, r1, r2]
  rcases r4 with e | e
  · simp only [e, n01, if_false, if_true]
    by_cases h1 : sumN (fR m r (-1) 0) C ≤ gM_right m r
    · simp only [h1, if_true]
      by_cases h2 : gM_right m r < sumN (fR m r (-1) 1) C
      · simp only [h2, if_true]
        by_cases h3 : sumN (fR m r (-1) 0) C = gM_right m r
        · simp only [h3, if_true]; exact k0
        · simp only [h3, if_false]; exact st
      · simp only [h2, if_false]; exact lv
    · simp only [h1, if_false]; exact imp 0
  · simp only [e, n10, if_false, if_true]
    by_cases h1 : sumN (fR m r (-1) 0) C ≤ gM_right m r
    · simp only [h1, if_true]
      by_cases h2 : gM_right m r ≤ sumN (fR m r (-1) 1) C
      · simp only [h2, if_true]
        by_cases h3 : sumN (fR m r (-1) 0) C = gM_right m r
        · simp only [h3, if_true]; exact k0
        · simp only [h3, if_false]
          by_cases h4 : sumN (fR m r (-1) 1) C = gM_right m r
          · simp only [h4, if_true]; exact k1
          · simp only [h4, if_false]; exact st
      · simp only [h2, if_false]; exact imp 1
    · simp only [h1, if_false]; exact imp 0
end S3
