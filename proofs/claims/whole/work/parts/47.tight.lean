/-! rule 5 -/
section S4
variable {C R : Nat} {F : FR} {N : Nat} {w : CW} {m : MW}
theorem fR_OC {m m' : MW} (hn : NR m m') {c : Nat} (ho : OC c m m') (hc : c < 12) (r : Nat) (gr : Int32) {C : Nat} (hC : C ≤ 12) : sumN (fR m' r (nI c) gr) C = sumN (fR m r (nI c) gr) C := sumN_congr (fun i hj => by
  unfold fR
  rw [NR_tm hn]
  by_cases e : i = c
  · subst e; simp
  · have e2 : ¬ nI i = nI c := by rw [neq (by omega) (by omega)]; exact e
    obtain ⟨o1, o2, o3, o4⟩ := ho i e
    simp only [lo, hi, o1, o2])
theorem fS_OC {m m' : MW} (hn : NR m m') {c : Nat} (ho : OC c m m') (hc : c < 12) (r : Nat) (gr : Int32) {C : Nat} (hC : C ≤ 12) : orN (fS m' r (nI c) gr) C = orN (fS m r (nI c) gr) C := orN_congr (fun i hi => by
  unfold fS
  rw [NR_tm hn]
  by_cases e : i = c
  · subst e; simp
  · obtain ⟨o1, o2, o3, o4⟩ := ho i e
    rw [o3, o4])
/-- one term of a row made tighter -/
theorem cl_tt (h : Rl C R F N w m) {r c : Nat} (hr : r < R) (hg : gM_gone m r = 0) (hc : c < C) (gr : Int32) : X4_tightenTerm w (nI r) (nI c) gr = (X5_narrow w (nI r) (nI c) (if (if tm m r c ≤ 0 then (0 : Int32) else 1) = gr then 0 else 1) (gM_right m r - sumN (fR m r (nI c) gr) C) (tm m r c) (gM_rest m r ||| orN (fS m r (nI c) gr) C)).bind (fun r90 : Int32 × CW => (if isB r90.1 = true then some (r90.1, r90.2) else none)) := by
  have hr12 : r < 12 := by have := h.R12; omega
  have hc12 : c < 12 := by have := h.C12; omega
  obtain ⟨⟨r1, r2⟩, r3, r4, r5, r6⟩ := h.2.2.2.1 r hr
  simp only [X4_tightenTerm, X4_tightenTerm_J75, X4_tightenTerm_J84, inR12 hr12, inR12 hc12, cl12 hr12, cl12 hc12, if_true, cl_reach h hr hg, cl_reachRest h hr hg, Option.bind_some, h.a hr hg hc, r1, r2]
  by_cases h3 : tm m r c ≤ 0
  · by_cases h4 : (0 : Int32) = gr
    · subst h4; simp only [h3, if_true]
    · simp only [h3, h4, if_true, if_false]
  · by_cases h4 : (1 : Int32) = gr
    · subst h4; simp only [h3, if_true, if_false]
    · simp only [h3, h4, if_true, if_false]
/-- a term made tighter, class and reference -/
theorem s_tt (h : Rl C R F N w m) (hN : N < 1000000) (hcert : gM_certificate m = -1) (hru : F.2.2.2.2.2 = 5) {r c : Nat} (hr : r < R) (hg : gM_gone m r = 0) (hc : c < C) (h1 : tm m r c ≠ 0) (gr : Int32) : ∃ b w' m', X4_tightenTerm w (nI r) (nI c) gr = some (b, w') ∧ (if (if tm m r c ≤ 0 then (0 : Int32) else 1) = gr then (X9_up (gM_right m r - sumN (fR m r (nI c) gr) C) (tm m r c)).bind (fun v => X9_narrowLow m 5 (nI r) (nI c) v (gM_rest m r ||| orN (fS m r (nI c) gr) C)) else (X9_down (gM_right m r - sumN (fR m r (nI c) gr) C) (tm m r c)).bind (fun v => X9_narrowHigh m 5 (nI r) (nI c) v (gM_rest m r ||| orN (fS m r (nI c) gr) C))) = some m' ∧ Rl C R F (N + 1) w' m' ∧ good b m' ∧ NR m m' ∧ OC c m m' := by
  have hz := mk_or (h.mkR hr) (h.mkS r (nI c) gr)
  have hs := tm_state h1
  rw [cl_tt h hr hg hc gr]
  by_cases hat : (if tm m r c ≤ 0 then (0 : Int32) else 1) = gr
  · obtain ⟨v, b, w', m', d1, d2, d3, d4, d5, d6, d7, d8⟩ := sim_lo h hN hcert hru hc hs (nI r) (gM_right m r - sumN (fR m r (nI c) gr) C) h1 hz
    refine ⟨b, w', m', ?_, ?_, d4, d5, d6, d7⟩
    · rw [if_pos hat, d2, Option.bind_some, if_pos (isBg d5)]
    · rw [if_pos hat, d1, Option.bind_some, d3]
  · obtain ⟨v, b, w', m', d1, d2, d3, d4, d5, d6, d7, d8⟩ := sim_hi h hN hcert hru hc hs (nI r) (gM_right m r - sumN (fR m r (nI c) gr) C) h1 hz
    refine ⟨b, w', m', ?_, ?_, d4, d5, d6, d7⟩
    · rw [if_neg hat, d2, Option.bind_some, if_pos (isBg d5)]
    · rw [if_neg hat, d1, Option.bind_some, d3]
theorem tight_loop (h : Rl C R F N w m) (hN : N + 30 < 1000000) (hcert : gM_certificate m = -1) (hru : F.2.2.2.2.2 = 5) {r : Nat} (hr : r < R) (hg : gM_gone m r = 0) {ek : Int32} (hek : ek = if gM_kind m r = 1 then 1 else 0) : ∃ ea eb, iter (X4_tighten_L21 (nI r) ek) 5000 (w, 0) = some ea ∧ iter (X9_tight_L2 (nI r)) 5000 (m, 0) = some eb ∧ Rl C R F (N + 24) (Sum.elim id id ea) eb ∧ ((∃ w', ea = .inl w' ∧ gM_certificate eb ≠ -1) ∨ (∃ w', ea = .inr w' ∧ gM_certificate eb = -1)) := by
  have hC := h.C12
  have hR := h.R12
  have hr12 : r < 12 := by omega
  refine iter_sim (sa := X4_tighten_L21 (nI r) ek) (sb := X9_tight_L2 (nI r)) (fun d a b => ∃ i, i + d = C ∧ a.2 = nI i ∧ b.2 = nI i ∧ Rl C R F (N + 2 * i) a.1 b.1 ∧ NR m b.1 ∧ gM_certificate b.1 = -1) (fun ea eb => Rl C R F (N + 24) (Sum.elim id id ea) eb ∧ ((∃ w', ea = .inl w' ∧ gM_certificate eb ≠ -1) ∨ (∃ w', ea = .inr w' ∧ gM_certificate eb = -1))) ?_ C 5000 5000 (w, 0) (m, 0) (by omega) (by omega) ⟨0, by omega, rfl, rfl, h, NR.refl m, hcert⟩
  rintro d ⟨w1, i1⟩ ⟨m1, i2⟩ ⟨i, hid, e1, e2, hR1, hNR, hc1⟩
  dsimp only at e1 e2 hR1 hNR hc1
  subst e1 e2
  by_cases hic : i < C
  · have hi12 : i < 12 := by omega
    have hg1 : gM_gone m1 r = 0 := by rw [hNR.1.2.2.2.2.2.1]; exact hg
    have hk1 : gM_kind m1 r = gM_kind m r := by rw [hNR.1.2.2.2.2.1]
    have ha := hR1.a hr hg1 hic
    have ht := rf_term hR1 hr hic
    by_cases h1 : tm m1 r i = 0
    · refine Or.inl ⟨(w1, nI (i + 1)), (m1, nI (i + 1)), ?_, ?_, d - 1, by omega, i + 1, by omega, rfl, rfl, hR1.mono (by omega), hNR, hc1⟩
      · simp only [X4_tighten_L21, hR1.1.1, nC_le hC hic, if_false, inR12 hr12, cl12 hr12, inR12 hi12, cl12 hi12, if_true, ha, h1, X4_tighten_J74, nI_1]
      · simp only [X9_tight_L2, hR1.1.2.2.1, nC_le hC hic, if_false, ht, h1, if_true, Option.bind_some, X9_tight_J200, nI_1, rf_go hc1, i10]
    · have hcf := tm_coef h1
      -- what the reference does in this turn
      obtain ⟨b, w', m', t1, t2, t3, t4, t5, t6⟩ := s_tt hR1 (by omega) hc1 hru hr hg1 hic h1 0
      have hg2 : gM_gone m' r = 0 := by rw [t5.1.2.2.2.2.2.1]; exact hg1
      have hk2 : gM_kind m' r = gM_kind m r := by rw [t5.1.2.2.2.2.1]; exact hk1
      have hL : X9_tight_L2 (nI r) (m1, nI i) = X9_tight_J141 (nI r) m' (nI i) (tm m1 r i) (gM_right m1 r - sumN (fR m1 r (nI i) 1) C) (gM_rest m1 r ||| orN (fS m1 r (nI i) 1) C) := by
        simp only [X9_tight_L2, hR1.1.2.2.1, nC_le hC hic, if_false, ht, h1, Option.bind_some, rf_go hc1, i10, ix144, inR144 hr12 hi12, cl144 hr12 hi12, inR12 hr12, cl12 hr12, if_true, rf_end hR1 hr, rf_from hR1 hr, hcf]
        by_cases h3 : tm m1 r i ≤ 0
        · rw [if_pos h3]
          rw [if_pos (by rw [if_pos h3])] at t2
          obtain ⟨v, v1, v2⟩ := bd_some t2
          rw [v1, Option.bind_some, v2, Option.bind_some]
        · rw [if_neg h3]
          rw [if_neg (by rw [if_neg h3]; decide)] at t2
          obtain ⟨v, v1, v2⟩ := bd_some t2
          rw [v1, Option.bind_some, v2, Option.bind_some]
      -- the end of a turn in which all became impossible
      have fail : ∀ (w2 : CW) (m2 : MW), Rl C R F (N + 2 * i + 2) w2 m2 → gM_certificate m2 ≠ -1 → X4_tighten_L21 (nI r) ek (w1, nI i) = some (.inr (.inl w2)) → X9_tight_L2 (nI r) (m1, nI i) = some (.inl (m2, nI (i + 1))) → ∃ ea, X4_tighten_L21 (nI r) ek (w1, nI i) = some (.inr ea) ∧ ∀ f, d < f → ∃ eb, iter (X9_tight_L2 (nI r)) f (m1, nI i) = some eb ∧ (Rl C R F (N + 24) (Sum.elim id id ea) eb ∧ ((∃ w', ea = .inl w' ∧ gM_certificate eb ≠ -1) ∨ (∃ w', ea = .inr w' ∧ gM_certificate eb = -1))) := by
        intro w2 m2 x1 x2 x3 x4
        refine ⟨.inl w2, x3, fun f hf => ⟨m2, ?_, x1.mono (by omega), Or.inl ⟨w2, rfl, x2⟩⟩⟩
        obtain ⟨f, rfl⟩ : ∃ g, f = g + 1 := ⟨f - 1, by omega⟩
        rw [iter_in x4]
        refine iter_end ?_ (by omega)
        unfold X9_tight_L2
        by_cases hq : gM_columns m2 ≤ nI (i + 1)
        · simp only [hq, if_true]
        · simp only [hq, if_false, rf_no x2, Option.bind_some, if_true]
      have n10 : ¬ ((1 : Int32) = 0) := by decide
      rcases good_cases t4 with ⟨rfl, h9⟩ | ⟨rfl, h9⟩
      · by_cases hk : gM_kind m r = 1
        · rw [if_pos hk] at hek
          subst hek
          have htm : tm m' r i = tm m1 r i := NR_tm t5 r i
          obtain ⟨b2, w2, m2, u1, u2, u3, u4, u5, u6⟩ := s_tt t3 (by omega) h9 hru hr hg2 hic (by rw [htm]; exact h1) 1
          rw [htm, fR_OC t5 t6 hi12 r 1 hC, fS_OC t5 t6 hi12 r 1 hC, show gM_right m' r = gM_right m1 r by rw [t5.1.2.2.2.2.2.2.1], show gM_rest m' r = gM_rest m1 r by rw [t5.1.2.2.2.2.2.2.2.1]] at u2
          have hL2 : X9_tight_L2 (nI r) (m1, nI i) = some (.inl (m2, nI (i + 1))) := by
            rw [hL]
            simp only [X9_tight_J141, X9_tight_J175, X9_tight_J200, inR12 hr12, cl12 hr12, if_true, hk2, hk, nI_1]
            by_cases h3 : tm m1 r i ≤ 0
            · rw [if_pos h3]
              rw [if_neg (by rw [if_pos h3]; decide)] at u2
              obtain ⟨v, v1, v2⟩ := bd_some u2
              rw [v1, Option.bind_some, v2, Option.bind_some]
            · rw [if_neg h3]
              rw [if_pos (by rw [if_neg h3])] at u2
              obtain ⟨v, v1, v2⟩ := bd_some u2
              rw [v1, Option.bind_some, v2, Option.bind_some]
          have hA : X4_tighten_L21 (nI r) 1 (w1, nI i) = if b2 = 0 then some (.inr (.inl w2)) else some (.inl (w2, nI (i + 1))) := by
            simp only [X4_tighten_L21, hR1.1.1, nC_le hC hic, if_false, inR12 hr12, cl12 hr12, inR12 hi12, cl12 hi12, if_true, ha, h1, X4_tighten_J74, nI_1, t1, Option.bind_some, n10, u1]
          rcases good_cases u4 with ⟨rfl, g9⟩ | ⟨rfl, g9⟩
          · refine Or.inl ⟨(w2, nI (i + 1)), (m2, nI (i + 1)), by rw [hA, if_neg n10], hL2, d - 1, by omega, i + 1, by omega, rfl, rfl, u3.mono (by omega), (hNR.trans t5).trans u5, g9⟩
          · exact Or.inr (fail w2 m2 (u3.mono (by omega)) g9 (by rw [hA, if_pos rfl]) hL2)
        · rw [if_neg hk] at hek
          subst hek
          refine Or.inl ⟨(w', nI (i + 1)), (m', nI (i + 1)), ?_, ?_, d - 1, by omega, i + 1, by omega, rfl, rfl, t3.mono (by omega), hNR.trans t5, h9⟩
          · simp only [X4_tighten_L21, hR1.1.1, nC_le hC hic, if_false, inR12 hr12, cl12 hr12, inR12 hi12, cl12 hi12, if_true, ha, h1, X4_tighten_J74, nI_1, t1, Option.bind_some, n10]
          · rw [hL]
            simp only [X9_tight_J141, X9_tight_J175, X9_tight_J200, inR12 hr12, cl12 hr12, if_true, hk2, hk, if_false, nI_1]
      · refine Or.inr (fail w' m' (t3.mono (by omega)) h9 ?_ ?_)
        · simp only [X4_tighten_L21, hR1.1.1, nC_le hC hic, if_false, inR12 hr12, cl12 hr12, inR12 hi12, cl12 hi12, if_true, ha, h1, t1, Option.bind_some]
        · rw [hL]
          obtain ⟨q, hq⟩ := fd_some (gM_right m1 r - sumN (fR m1 r (nI i) 1) C) h1
          obtain ⟨q', hq'⟩ := fd_some (-(gM_right m1 r - sumN (fR m1 r (nI i) 1) C)) h1
          simp only [X9_tight_J141, X9_tight_J175, X9_tight_J200, inR12 hr12, cl12 hr12, if_true, hk2, nI_1, up_eq, down_eq, hq, hq', Option.bind_some, no_low h9, no_high h9]
          by_cases hk : gM_kind m r = 1
          · by_cases h3 : tm m1 r i ≤ 0 <;> simp only [hk, h3, if_true, if_false]
          · simp only [hk, if_false]
  · have : i = C := by omega
    subst this
    refine Or.inr ⟨.inr w1, ?_, fun f hf => ⟨m1, iter_end ?_ (by omega), hR1.mono (by omega), Or.inr ⟨w1, rfl, hc1⟩⟩⟩
    · simp only [X4_tighten_L21, hR1.1.1, Int32.le_refl, if_true]
    · simp only [X9_tight_L2, hR1.1.2.2.1, Int32.le_refl, if_true]
theorem r_tight (h : Rl C R F N w m) (hN : N + 30 < 1000000) (hcert : gM_certificate m = -1) (hru : F.2.2.2.2.2 = 5) {r : Nat} (hr : r < R) (hg : gM_gone m r = 0) : StO C R F (N + 30) (X4_tighten w (nI r)) (X9_tight m (nI r)) := by
  have hR := h.R12
  have hr12 : r < 12 := by omega
  have hkd := h.kd hr hg
  obtain ⟨ea, eb, e1, e2, e3, e5⟩ := tight_loop h hN hcert hru hr hg rfl
  have hx : X4_tighten w (nI r) = X4_tighten_J18 (nI r) w (if gM_kind m r = 1 then 1 else 0) := by
    simp only [X4_tighten, inR12 hr12, cl12 hr12, if_true, hkd]
    split <;> rfl
  rw [hx]
  rcases e5 with ⟨w', rfl, h9⟩ | ⟨w', rfl, h9⟩
  · refine ⟨0, w', eb, ?_, ?_, e3.mono (by omega), good_nope h9⟩
    · simp only [X4_tighten_J18, e1, Option.bind_some, Sum.elim_inl]
    · simp only [X9_tight, e2, Option.bind_some]
  · refine ⟨1, w', eb, ?_, ?_, e3.mono (by omega), good_yes h9⟩
    · simp only [X4_tighten_J18, e1, Option.bind_some, Sum.elim_inr]
    · simp only [X9_tight, e2, Option.bind_some]
end S4
