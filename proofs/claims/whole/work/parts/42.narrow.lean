/-! acts, bounds narrowed, rows left out -/
theorem i64_nn {x : Int64} : 0 ≤ x ↔ x.toBitVec.msb = false := by
  rw [Int64.le_iff_toInt_le, BitVec.msb_eq_toInt]
  rw [show (0 : Int64).toInt = 0 from rfl, show x.toBitVec.toInt = x.toInt from rfl]
  simp
theorem xor_nn {a b : Int64} : 0 ≤ a ^^^ b ↔ (0 ≤ a ↔ 0 ≤ b) := by
  rw [i64_nn, i64_nn, i64_nn, Int64.toBitVec_xor, BitVec.msb_xor]
  cases a.toBitVec.msb <;> cases b.toBitVec.msb <;> decide
theorem i01 : ((0 : Int32) = 1) = False := eq_false (by decide)
theorem down_eq (a b : Int64) : X9_down a b = J9_floorDiv_f86c9 a b := by
  unfold X9_down J9_floorDiv_f86c9 X9_down_J25 X9_down_J36
  by_cases hb : b = 0
  · simp [hb]
  · simp only [hb, if_false]
    by_cases hq : a / b * b = a
    · simp only [hq, if_true]
      by_cases hx : 0 ≤ a ^^^ b <;> simp [hx]
    · simp only [hq, if_false]
      by_cases h1 : 0 ≤ a <;> by_cases h2 : 0 ≤ b <;> simp [xor_nn, h1, h2]
theorem up_eq (a b : Int64) : X9_up a b = (J9_floorDiv_f86c9 (-a) b).bind (fun r => some (-r)) := by
  unfold X9_up
  rw [down_eq]
abbrev wA (w : CW) (nn : Nat → Int64) (k : Int32) : CW := sC_count (sC_numbers w nn) k
abbrev mA (m : MW) (a1 a2 a3 a4 : Nat → Int32) (a5 : Nat → Int64) (k : Int32) : MW := sM_acts (sM_actValue (sM_actWhat (sM_actColumn (sM_actRow (sM_actRule m a1) a2) a3) a4) a5) k
theorem sim_act {N : Nat} {w : CW} {m : MW} (h : gActs N w m) (hN : N < 1000000) (a b c d : Int32) (e : Int64) : ∃ nn a1 a2 a3 a4 a5, X0_note w a b c d e = some (wA w nn (gC_count w + 1)) ∧ X9_act m a b c d e = some (mA m a1 a2 a3 a4 a5 (gM_acts m + 1)) ∧ gActs (N + 1) (wA w nn (gC_count w + 1)) (mA m a1 a2 a3 a4 a5 (gM_acts m + 1)) := by
  obtain ⟨k, hk, h1, h2, h3⟩ := h
  by_cases h4 : 400 ≤ k
  · have e1 : (400 : Int32) ≤ gC_count w := by rw [h1]; exact nI_le (a := 400) h4 (by omega)
    have e2 : (400 : Int32) ≤ gM_acts m := by rw [h2]; exact nI_le (a := 400) h4 (by omega)
    refine ⟨gC_numbers w, gM_actRule m, gM_actRow m, gM_actColumn m, gM_actWhat m, gM_actValue m, ?_, ?_, k + 1, by omega, ?_, ?_, fun i hi hi4 => ?_⟩
    · simp only [X0_note, e1, if_true, X0_note_J72, bnd]
    · simp only [X9_act, e2, if_true, X9_act_J62, bnd]
    · show gC_count w + 1 = _
      rw [h1, nI_1]
    · show gM_acts m + 1 = _
      rw [h2, nI_1]
    · exact h3 i (by omega) hi4
  · have e1 : ¬ (400 : Int32) ≤ gC_count w := by rw [h1]; exact nI_ge (b := 400) (by omega) (by omega)
    have e2 : ¬ (400 : Int32) ≤ gM_acts m := by rw [h2]; exact nI_ge (b := 400) (by omega) (by omega)
    have i0 : gC_count w * 5 = nI (k * 5) := by rw [h1, show (5 : Int32) = nI 5 from rfl, nI_mul]
    have i1 : nI (k * 5) + 1 = nI (k * 5 + 1) := nI_1 _
    have i2 : nI (k * 5) + 2 = nI (k * 5 + 2) := nI_add _ 2
    have i3 : nI (k * 5) + 3 = nI (k * 5 + 3) := nI_add _ 3
    have i4 : nI (k * 5) + 4 = nI (k * 5 + 4) := nI_add _ 4
    have r0 : ∀ j, j < 2000 → inR (nI j) 2000 = true := fun j hj => inRn hj (by omega)
    have r4 : inR (nI k) 400 = true := inRn (by omega) (by omega)
    have c0 : ∀ j, j < 2000 → (nI j).toNatClampNeg = j := fun j hj => nI_clamp (by omega)
    refine ⟨vp_updL (vp_updL (vp_updL (vp_updL (vp_updL (gC_numbers w) (k * 5) a.toInt64) (k * 5 + 1) b.toInt64) (k * 5 + 2) c.toInt64) (k * 5 + 3) d.toInt64) (k * 5 + 4) e, upd (gM_actRule m) k a, upd (gM_actRow m) k b, upd (gM_actColumn m) k c, upd (gM_actWhat m) k d, vp_updL (gM_actValue m) k e, ?_, ?_, k + 1, by omega, ?_, ?_, fun i hi hi4 => ?_⟩
    · simp only [X0_note, e1, if_false, X0_note_J72, bnd, i0, i1, i2, i3, i4, r0 _ (show k * 5 < 2000 by omega), r0 _ (show k * 5 + 1 < 2000 by omega), r0 _ (show k * 5 + 2 < 2000 by omega), r0 _ (show k * 5 + 3 < 2000 by omega), r0 _ (show k * 5 + 4 < 2000 by omega), c0 _ (show k * 5 < 2000 by omega), c0 _ (show k * 5 + 1 < 2000 by omega), c0 _ (show k * 5 + 2 < 2000 by omega), c0 _ (show k * 5 + 3 < 2000 by omega), c0 _ (show k * 5 + 4 < 2000 by omega), if_true]
    · have h2' := h2
      have e2' : ¬ (400 : Int32) ≤ nI k := by rw [← h2]; exact e2
      dsimp only [gM_columns, sM_columns, gM_rows, sM_rows, gM_lows, sM_lows, gM_highs, sM_highs, gM_costs, sM_costs, gM_kinds, sM_kinds, gM_rights, sM_rights, gM_coefficients, sM_coefficients, gM_isSmall, sM_isSmall, gM_state, sM_state, gM_low, sM_low, gM_high, sM_high, gM_lowRest, sM_lowRest, gM_highRest, sM_highRest, gM_cost, sM_cost, gM_kind, sM_kind, gM_gone, sM_gone, gM_right, sM_right, gM_rest, sM_rest, gM_coef, sM_coef, gM_offset, sM_offset, gM_certificate, sM_certificate, gM_acts, sM_acts, gM_actRule, sM_actRule, gM_actRow, sM_actRow, gM_actColumn, sM_actColumn, gM_actWhat, sM_actWhat, gM_actValue, sM_actValue, gM_putIns, sM_putIns, gM_putIn, sM_putIn, gM_base, sM_base, gM_often, sM_often, gM_thrown, sM_thrown, gM_isPut, sM_isPut, gM_number, sM_number, gM_isTurned, sM_isTurned, gM_turned, sM_turned, gM_hasBest, sM_hasBest, gM_best, sM_best, gM_bestValue, sM_bestValue, gM_point, sM_point, gM_part, sM_part, gM_clique, sM_clique] at h2'
      dsimp only [X9_act, X9_act_J62, bnd, gM_columns, sM_columns, gM_rows, sM_rows, gM_lows, sM_lows, gM_highs, sM_highs, gM_costs, sM_costs, gM_kinds, sM_kinds, gM_rights, sM_rights, gM_coefficients, sM_coefficients, gM_isSmall, sM_isSmall, gM_state, sM_state, gM_low, sM_low, gM_high, sM_high, gM_lowRest, sM_lowRest, gM_highRest, sM_highRest, gM_cost, sM_cost, gM_kind, sM_kind, gM_gone, sM_gone, gM_right, sM_right, gM_rest, sM_rest, gM_coef, sM_coef, gM_offset, sM_offset, gM_certificate, sM_certificate, gM_acts, sM_acts, gM_actRule, sM_actRule, gM_actRow, sM_actRow, gM_actColumn, sM_actColumn, gM_actWhat, sM_actWhat, gM_actValue, sM_actValue, gM_putIns, sM_putIns, gM_putIn, sM_putIn, gM_base, sM_base, gM_often, sM_often, gM_thrown, sM_thrown, gM_isPut, sM_isPut, gM_number, sM_number, gM_isTurned, sM_isTurned, gM_turned, sM_turned, gM_hasBest, sM_hasBest, gM_best, sM_best, gM_bestValue, sM_bestValue, gM_point, sM_point, gM_part, sM_part, gM_clique, sM_clique]
      simp only [e2', if_false, h2', r4, if_true, c0 k (by omega)]
    · show gC_count w + 1 = _
      rw [h1, nI_1]
    · show gM_acts m + 1 = _
      rw [h2, nI_1]
    · by_cases hik : i = k
      · subst hik
        dsimp only [actOK, gT_low, sT_low, gT_high, sT_high, gT_cost, sT_cost, gT_state, sT_state, gT_kind, sT_kind, gT_right, sT_right, gT_a, sT_a, gT_columns, sT_columns, gT_rows, sT_rows, gC_whole, sC_whole, gC_tab, sC_tab, gC_rowRest, sC_rowRest, gC_lowRest, sC_lowRest, gC_highRest, sC_highRest, gC_numbers, sC_numbers, gC_count, sC_count, gC_offset, sC_offset, gC_certificate, sC_certificate, gC_rule, sC_rule, gC_putInColumn, sC_putInColumn, gC_putInShift, sC_putInShift, gC_putInFactors, sC_putInFactors, gC_putIns, sC_putIns, gC_order, sC_order, gC_wnumbers, sC_wnumbers, gC_rowSums, sC_rowSums, gC_sum, sC_sum, gC_wtab, sC_wtab, gC_hasSmall, sC_hasSmall, gC_putNumbers, sC_putNumbers, gC_putColumns, sC_putColumns, gC_turned, sC_turned, gC_hasTurned, sC_hasTurned, gC_bestNumbers, sC_bestNumbers, gC_leastValue, sC_leastValue, gC_hasBest, sC_hasBest, gC_tb, gM_columns, sM_columns, gM_rows, sM_rows, gM_lows, sM_lows, gM_highs, sM_highs, gM_costs, sM_costs, gM_kinds, sM_kinds, gM_rights, sM_rights, gM_coefficients, sM_coefficients, gM_isSmall, sM_isSmall, gM_state, sM_state, gM_low, sM_low, gM_high, sM_high, gM_lowRest, sM_lowRest, gM_highRest, sM_highRest, gM_cost, sM_cost, gM_kind, sM_kind, gM_gone, sM_gone, gM_right, sM_right, gM_rest, sM_rest, gM_coef, sM_coef, gM_offset, sM_offset, gM_certificate, sM_certificate, gM_acts, sM_acts, gM_actRule, sM_actRule, gM_actRow, sM_actRow, gM_actColumn, sM_actColumn, gM_actWhat, sM_actWhat, gM_actValue, sM_actValue, gM_putIns, sM_putIns, gM_putIn, sM_putIn, gM_base, sM_base, gM_often, sM_often, gM_thrown, sM_thrown, gM_isPut, sM_isPut, gM_number, sM_number, gM_isTurned, sM_isTurned, gM_turned, sM_turned, gM_hasBest, sM_hasBest, gM_best, sM_best, gM_bestValue, sM_bestValue, gM_point, sM_point, gM_part, sM_part, gM_clique, sM_clique]
        simp only [vp_updL, upd]
        refine ⟨?_, ?_, ?_, ?_, ?_⟩ <;> simp [show ∀ a b : Nat, (5 * i + a = i * 5 + b) = (a = b) from fun a b => by simp; omega, show (5 * i = i * 5) = True from eq_true (by omega), show ∀ b : Nat, (5 * i = i * 5 + (b + 1)) = False from fun b => eq_false (by omega), show ∀ a : Nat, (5 * i + (a + 1) = i * 5) = False from fun a => eq_false (by omega)]
      · have h5 := h3 i (by omega) hi4
        dsimp only [actOK, gT_low, sT_low, gT_high, sT_high, gT_cost, sT_cost, gT_state, sT_state, gT_kind, sT_kind, gT_right, sT_right, gT_a, sT_a, gT_columns, sT_columns, gT_rows, sT_rows, gC_whole, sC_whole, gC_tab, sC_tab, gC_rowRest, sC_rowRest, gC_lowRest, sC_lowRest, gC_highRest, sC_highRest, gC_numbers, sC_numbers, gC_count, sC_count, gC_offset, sC_offset, gC_certificate, sC_certificate, gC_rule, sC_rule, gC_putInColumn, sC_putInColumn, gC_putInShift, sC_putInShift, gC_putInFactors, sC_putInFactors, gC_putIns, sC_putIns, gC_order, sC_order, gC_wnumbers, sC_wnumbers, gC_rowSums, sC_rowSums, gC_sum, sC_sum, gC_wtab, sC_wtab, gC_hasSmall, sC_hasSmall, gC_putNumbers, sC_putNumbers, gC_putColumns, sC_putColumns, gC_turned, sC_turned, gC_hasTurned, sC_hasTurned, gC_bestNumbers, sC_bestNumbers, gC_leastValue, sC_leastValue, gC_hasBest, sC_hasBest, gC_tb, gM_columns, sM_columns, gM_rows, sM_rows, gM_lows, sM_lows, gM_highs, sM_highs, gM_costs, sM_costs, gM_kinds, sM_kinds, gM_rights, sM_rights, gM_coefficients, sM_coefficients, gM_isSmall, sM_isSmall, gM_state, sM_state, gM_low, sM_low, gM_high, sM_high, gM_lowRest, sM_lowRest, gM_highRest, sM_highRest, gM_cost, sM_cost, gM_kind, sM_kind, gM_gone, sM_gone, gM_right, sM_right, gM_rest, sM_rest, gM_coef, sM_coef, gM_offset, sM_offset, gM_certificate, sM_certificate, gM_acts, sM_acts, gM_actRule, sM_actRule, gM_actRow, sM_actRow, gM_actColumn, sM_actColumn, gM_actWhat, sM_actWhat, gM_actValue, sM_actValue, gM_putIns, sM_putIns, gM_putIn, sM_putIn, gM_base, sM_base, gM_often, sM_often, gM_thrown, sM_thrown, gM_isPut, sM_isPut, gM_number, sM_number, gM_isTurned, sM_isTurned, gM_turned, sM_turned, gM_hasBest, sM_hasBest, gM_best, sM_best, gM_bestValue, sM_bestValue, gM_point, sM_point, gM_part, sM_part, gM_clique, sM_clique] at h5 ⊢
        obtain ⟨g1, g2, g3, g4, g5⟩ := h5
        have hn : ∀ a b : Nat, a < 5 → b < 5 → ¬ (5 * i + a = k * 5 + b) := fun a b ha hb => by omega
        refine ⟨?_, ?_, ?_, ?_, ?_⟩ <;> simp only [vp_updL, upd, hik, if_false] <;> (rw [if_neg (by omega), if_neg (by omega), if_neg (by omega), if_neg (by omega), if_neg (by omega)]; assumption)
theorem big_mono {A B : Int} {x : Int64} (h : big A x) (hAB : A ≤ B) : big B x := ⟨by have := h.1; omega, by have := h.2; omega⟩
theorem rowOK_mono {C N N' : Nat} {w : CW} {m : MW} {r : Nat} (h : rowOK C N w m r) (hN : N ≤ N') : rowOK C N' w m r := ⟨h.1, h.2.1, h.2.2.1, big_mono h.2.2.2.1 (by omega), h.2.2.2.2⟩
theorem gActs_mono {N N' : Nat} {w : CW} {m : MW} (h : gActs N w m) (hN : N ≤ N') : gActs N' w m := by
  obtain ⟨k, hk, h⟩ := h
  exact ⟨k, by omega, h⟩
theorem Rl.mono {C R N N' : Nat} {F : FR} {w : CW} {m : MW} (h : Rl C R F N w m) (hN : N ≤ N') : Rl C R F N' w m := ⟨h.1, h.2.1, h.2.2.1, fun r hr => rowOK_mono (h.2.2.2.1 r hr) hN, gActs_mono h.2.2.2.2.1 hN, h.2.2.2.2.2⟩
/-- only bounds, what they rest on, acts and the certificate have changed; bounds are narrower -/
def NR (m m' : MW) : Prop := (m'.1 = m.1 ∧ m'.2.2.2 = m.2.2.2 ∧ gM_state m' = gM_state m ∧ gM_cost m' = gM_cost m ∧ gM_kind m' = gM_kind m ∧ gM_gone m' = gM_gone m ∧ gM_right m' = gM_right m ∧ gM_rest m' = gM_rest m ∧ gM_coef m' = gM_coef m ∧ gM_offset m' = gM_offset m) ∧ (∀ c, lo m c ≤ lo m' c ∧ hi m' c ≤ hi m c)
theorem NR.refl (m : MW) : NR m m := ⟨⟨rfl, rfl, rfl, rfl, rfl, rfl, rfl, rfl, rfl, rfl⟩, fun c => ⟨Int64.le_refl _, Int64.le_refl _⟩⟩
theorem NR.trans {a b c : MW} (h1 : NR a b) (h2 : NR b c) : NR a c := by
  obtain ⟨⟨p1, p2, p3, p4, p5, p6, p7, p8, p9, p10⟩, p⟩ := h1
  obtain ⟨⟨q1, q2, q3, q4, q5, q6, q7, q8, q9, q10⟩, q⟩ := h2
  exact ⟨⟨q1.trans p1, q2.trans p2, q3.trans p3, q4.trans p4, q5.trans p5, q6.trans p6, q7.trans p7, q8.trans p8, q9.trans p9, q10.trans p10⟩, fun c => ⟨Int64.le_trans (p c).1 (q c).1, Int64.le_trans (q c).2 (p c).2⟩⟩
theorem NR_tm {m m' : MW} (h : NR m m') (r c : Nat) : tm m' r c = tm m r c := by
  unfold tm
  rw [h.1.2.2.1, h.1.2.2.2.2.2.2.2.2.1]
