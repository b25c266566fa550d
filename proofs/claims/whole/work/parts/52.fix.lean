/-! rule 6 -/
theorem mul_big {A B : Int} {a b : Int64} (ha : big A a) (hb : big B b) (hA : 0 ≤ A) (hB : 0 ≤ B) (hAB : A * B ≤ 4000000000000000000) : (a * b).toInt = a.toInt * b.toInt ∧ -(A * B) ≤ a.toInt * b.toInt ∧ a.toInt * b.toInt ≤ A * B := by
  obtain ⟨a1, a2⟩ := ha
  obtain ⟨b1, b2⟩ := hb
  have h1 : (a.toInt * b.toInt).natAbs ≤ (A * B).natAbs := by
    rw [Int.natAbs_mul, Int.natAbs_mul]
    exact Nat.mul_le_mul (by omega) (by omega)
  have h2 : 0 ≤ A * B := Int.mul_nonneg hA hB
  have h3 : -(A * B) ≤ a.toInt * b.toInt ∧ a.toInt * b.toInt ≤ A * B := by omega
  exact ⟨mul_ex (by omega), h3⟩
section S8
variable {C R : Nat} {F : FR} {N : Nat} {w : CW} {m : MW}
theorem cl_gone (h : Rl C R F N w m) {r : Nat} (hr : r < R) : X6_isGone (gC_tab w) (nI r) = some (if gM_gone m r = 0 then 0 else 1) := by
  have hr12 : r < 12 := by have := h.R12; omega
  obtain ⟨p1, p3, p4, p5, p6⟩ := h.2.2.2.1 r hr
  simp only [X6_isGone, inR12 hr12, cl12 hr12, if_true]
  rcases p6 with ⟨x1, x2, x3⟩ | ⟨x1, x2⟩
  · have k1 : ¬ gM_kind m r = -1 := by rcases p4 with e | e <;> rw [e] <;> decide
    rw [x2, if_neg k1, if_pos x1]
  · rw [x2, if_pos rfl, x1, if_neg (by decide)]
theorem gone01 (h : Rl C R F N w m) {r : Nat} (hr : r < R) : gM_gone m r = 0 ∨ gM_gone m r = 1 := by
  rcases (h.2.2.2.1 r hr).2.2.2.2 with ⟨x1, -⟩ | ⟨x1, -⟩
  · exact Or.inl x1
  · exact Or.inr x1
/-- what the loop over rows leaves -/
def fixI (w : CW) (m : MW) (C R N c0 i : Nat) (A' : Nat → Nat → Int64) (rt rt' : Nat → Int64) (rs rs' : Nat → Int32) : Prop := ∀ r, r < R → (rt r = rt' r ∧ rs r = rs' r ∧ mk (rs' r) ∧ big (200000000000 + 10000000000 * ((N + 1 : Nat) : Int)) (rt' r)) ∧ (i ≤ r → A' r = gT_a (gC_tab w) r ∧ rt' r = gM_right m r ∧ rs' r = gM_rest m r) ∧ (r < i → gM_gone m r = 0 → A' r c0 = 0 ∧ ∀ c, c ≠ c0 → A' r c = gT_a (gC_tab w) r c)
theorem fix_loop (h : Rl C R F N w m) (hN : N < 1000000) {c : Nat} (hc : c < C) (hs : gM_state m c = 0) : ∃ A' rt rt' rs rs', iter (X1_fix_L50 w (nI c)) 5000 (w, 0) = some (sC_rowRest (sC_tab w (sT_right (sT_a (gC_tab w) A') rt)) rs) ∧ iter (X9_fix_L18 (nI c)) 5000 (m, 0) = some (sM_rest (sM_right m rt') rs') ∧ fixI w m C R N c R A' rt rt' rs rs' := by
  have hC := h.C12
  have hR := h.R12
  have hc12 : c < 12 := by omega
  obtain ⟨⟨c1, c2, c3, c4, c5, c6⟩, c7, c8, c9, c10, c11, c12⟩ := h.2.2.1 c hc
  obtain ⟨ea, eb, q1, q2, A', rt, rt', rs, rs', q3, q4, q5⟩ := iter_sim (sa := X1_fix_L50 w (nI c)) (sb := X9_fix_L18 (nI c)) (fun d a b => ∃ (i : Nat) (A' : Nat → Nat → Int64) (rt rt' : Nat → Int64) (rs rs' : Nat → Int32), i + d = R ∧ a = (sC_rowRest (sC_tab w (sT_right (sT_a (gC_tab w) A') rt)) rs, nI i) ∧ b = (sM_rest (sM_right m rt') rs', nI i) ∧ fixI w m C R N c i A' rt rt' rs rs') (fun ea eb => ∃ A' rt rt' rs rs', ea = sC_rowRest (sC_tab w (sT_right (sT_a (gC_tab w) A') rt)) rs ∧ eb = sM_rest (sM_right m rt') rs' ∧ fixI w m C R N c R A' rt rt' rs rs') (by
    rintro d a b ⟨i, A', rt, rt', rs, rs', hid, rfl, rfl, hI⟩
    have hw1 : gT_rows (gC_tab (sC_rowRest (sC_tab w (sT_right (sT_a (gC_tab w) A') rt)) rs)) = nI R := h.1.2.1
    have hm1 : gM_rows (sM_rest (sM_right m rt') rs') = nI R := h.1.2.2.2.1
    by_cases hic : i < R
    · have hi12 : i < 12 := by omega
      have hgn : X6_isGone (gC_tab (sC_rowRest (sC_tab w (sT_right (sT_a (gC_tab w) A') rt)) rs)) (nI i) = some (if gM_gone m i = 0 then 0 else 1) := cl_gone h hic
      have htm : X9_isTerm (sM_rest (sM_right m rt') rs') (nI i) (nI c) = some (if tm m i c = 0 then 0 else 1) := rf_term0 m hi12 hc12
      obtain ⟨⟨I1, I2, I3, I4⟩, I5, I6⟩ := hI i hic
      obtain ⟨I7, I8, I9⟩ := I5 (Nat.le_refl _)
      have stay : (gM_gone m i = 0 → tm m i c = 0) → fixI w m C R N c (i + 1) A' rt rt' rs rs' := fun hz r hr => by
        obtain ⟨J1, J2, J3⟩ := hI r hr
        refine ⟨J1, fun hle => J2 (by omega), fun hlt hg => ?_⟩
        by_cases e : r = i
        · subst e
          rw [I7]
          exact ⟨(h.a hic hg hc).trans (hz hg), fun _ _ => rfl⟩
        · exact J3 (by omega) hg
      by_cases hg : gM_gone m i = 0
      · by_cases h1 : tm m i c = 0
        · refine Or.inl ⟨(_, nI (i + 1)), (_, nI (i + 1)), ?_, ?_, d - 1, by omega, i + 1, A', rt, rt', rs, rs', by omega, rfl, rfl, stay (fun _ => h1)⟩
          · have ha : gT_a (gC_tab (sC_rowRest (sC_tab w (sT_right (sT_a (gC_tab w) A') rt)) rs)) i c = 0 := by
              show A' i c = 0
              rw [I7]; exact (h.a hic hg hc).trans h1
            simp only [X1_fix_L50, hw1, nC_le hR hic, if_false, hgn, hg, if_true, Option.bind_some, inR12 hi12, cl12 hi12, inR12 hc12, cl12 hc12, ha, X1_fix_J146, nI_1]
          · have hg2 : gM_gone (sM_rest (sM_right m rt') rs') i = 0 := hg
            simp only [X9_fix_L18, hm1, nC_le hR hic, if_false, inR12 hi12, cl12 hi12, if_true, hg2, htm, h1, Option.bind_some, X9_fix_J94, nI_1]
        · have hb := h.ab hic hg hc
          have ha : gT_a (gC_tab (sC_rowRest (sC_tab w (sT_right (sT_a (gC_tab w) A') rt)) rs)) i c = tm m i c := by
            show A' i c = _
            rw [I7]; exact h.a hic hg hc
          have hlo : big 10000 (lo m c) := by unfold big; rw [(toI c).1]; omega
          have hmb := mul_big hb hlo (by omega) (by omega) (by omega)
          have hrb := (h.2.2.2.1 i hic).2.2.2.1
          obtain ⟨x1, x2⟩ := hrb
          refine Or.inl ⟨(sC_rowRest (sC_tab w (sT_right (sT_a (gC_tab w) (va_up A' i (vp_updL (A' i) c 0))) (vp_updL rt i (rt i - tm m i c * lo m c)))) (upd rs i (rs i ||| (gM_lowRest m c ||| gM_highRest m c))), nI (i + 1)), (sM_rest (sM_right m (vp_updL rt' i (rt' i - tm m i c * lo m c))) (upd rs' i (rs' i ||| (gM_lowRest m c ||| gM_highRest m c))), nI (i + 1)), ?_, ?_, d - 1, by omega, i + 1, _, _, _, _, _, by omega, rfl, rfl, ?_⟩
          · simp only [X1_fix_L50, hw1, nC_le hR hic, if_false, hgn, hg, if_true, Option.bind_some, inR12 hi12, cl12 hi12, inR12 hc12, cl12 hc12, ha, h1, X1_fix_J146, nI_1, bnd, c2, c5, c6]
          · have hg2 : gM_gone (sM_rest (sM_right m rt') rs') i = 0 := hg
            have hcf : gM_coef (sM_rest (sM_right m rt') rs') (12 * i + c) = tm m i c := tm_coef h1
            simp only [X9_fix_L18, hm1, nC_le hR hic, if_false, inR12 hi12, cl12 hi12, inR12 hc12, cl12 hc12, if_true, hg2, htm, h1, i10, Option.bind_some, X9_fix_J94, nI_1, ix144, inR144 hi12 hc12, cl144 hi12 hc12, hcf, bnd]
          · intro r hr
            obtain ⟨⟨K1, K2, K3, K4⟩, J2, J3⟩ := hI r hr
            by_cases e : r = i
            · subst e
              simp only [vp_updL, upd, if_true, va_up]
              refine ⟨⟨by rw [K1], by rw [K2], mk_or K3 (mk_or c7 c8), ?_⟩, fun hle => by omega, fun _ _ => ⟨trivial, fun c' hc' => by rw [if_neg hc', I7]⟩⟩
              rw [I8]
              unfold big
              rw [sub_ex (by rw [hmb.1]; omega), hmb.1]
              omega
            · simp only [vp_updL, upd, va_up, e, if_false]
              exact ⟨⟨K1, K2, K3, K4⟩, fun hle => J2 (by omega), fun hlt hg => J3 (by omega) hg⟩
      · refine Or.inl ⟨(_, nI (i + 1)), (_, nI (i + 1)), ?_, ?_, d - 1, by omega, i + 1, A', rt, rt', rs, rs', by omega, rfl, rfl, stay (fun z => absurd z hg)⟩
        · simp only [X1_fix_L50, hw1, nC_le hR hic, if_false, hgn, hg, Option.bind_some, i10, X1_fix_J146, nI_1]
        · have hg2 : ¬ gM_gone (sM_rest (sM_right m rt') rs') i = 0 := hg
          simp only [X9_fix_L18, hm1, nC_le hR hic, if_false, inR12 hi12, cl12 hi12, if_true, hg2, X9_fix_J94, nI_1]
    · have : i = R := by omega
      subst this
      refine Or.inr ⟨_, ?_, fun f hf => ⟨_, iter_end (e := sM_rest (sM_right m rt') rs') ?_ (by omega), A', rt, rt', rs, rs', rfl, rfl, hI⟩⟩
      · simp only [X1_fix_L50, hw1, Int32.le_refl, if_true]
      · simp only [X9_fix_L18, hm1, Int32.le_refl, if_true]) R 5000 5000 (w, 0) (m, 0) (by omega) (by omega) ⟨0, gT_a (gC_tab w), gT_right (gC_tab w), gM_right m, gC_rowRest w, gM_rest m, by omega, rfl, rfl, fun r hr => by
        obtain ⟨⟨p1, p2⟩, p3, p4, p5, p6⟩ := h.2.2.2.1 r hr
        exact ⟨⟨p1, p2, p3, big_mono p5 (by omega)⟩, fun _ => ⟨rfl, rfl, rfl⟩, fun hlt => by omega⟩⟩
  exact ⟨A', rt, rt', rs, rs', by rw [q1, q3], by rw [q2, q4], q5⟩
theorem r_fix (h : Rl C R F N w m) (hN : N + 30 < 1000000) (hcert : gM_certificate m = -1) (hru : F.2.2.2.2.2 = 6) {c : Nat} (hc : c < C) (hs : gM_state m c = 0) : StO C R F (N + 30) (X1_fix w (nI c)) (X9_fix m (nI c)) := by
  have hC := h.C12
  have hR := h.R12
  have hc12 : c < 12 := by omega
  obtain ⟨⟨c1, c2, c3, c4, c5, c6⟩, c7, c8, c9, c10, c11, c12⟩ := h.2.2.1 c hc
  by_cases heq : gM_low m c = gM_high m c
  · obtain ⟨A', rt, rt', rs, rs', q1, q2, q3⟩ := fix_loop h (by omega) hc hs
    have hof : gC_offset w + lo m c * gM_cost m c = gM_offset m + gM_cost m c * lo m c := by rw [h.2.2.2.2.2.2.1, Int64.mul_comm]
    obtain ⟨nn, a1, a2, a3, a4, a5, z1, z2, z3⟩ := sim_act (w := sC_tab (sC_offset (sC_rowRest (sC_tab w (sT_right (sT_a (gC_tab w) A') rt)) rs) (gC_offset w + lo m c * gM_cost m c)) (sT_state (sT_right (sT_a (gC_tab w) A') rt) (upd (gT_state (gC_tab w)) c 1))) (m := sM_state (sM_offset (sM_rest (sM_right m rt') rs') (gM_offset m + gM_cost m c * lo m c)) (upd (gM_state m) c 1)) (N := N) (by
        obtain ⟨k, k1, k2, k3, k4⟩ := h.2.2.2.2.1
        exact ⟨k, k1, k2, k3, k4⟩) (by omega) 6 (-1) (nI c) 4 (lo m c)
    refine ⟨1, wA (sC_tab (sC_offset (sC_rowRest (sC_tab w (sT_right (sT_a (gC_tab w) A') rt)) rs) (gC_offset w + lo m c * gM_cost m c)) (sT_state (sT_right (sT_a (gC_tab w) A') rt) (upd (gT_state (gC_tab w)) c 1))) nn (gC_count w + 1), mA (sM_state (sM_offset (sM_rest (sM_right m rt') rs') (gM_offset m + gM_cost m c * lo m c)) (upd (gM_state m) c 1)) a1 a2 a3 a4 a5 (gM_acts m + 1), ?_, ?_, Rl.mono (N := N + 1) ⟨h.1, h.2.1, ?_, ?_, z3, ?_, hof, h.2.2.2.2.2.2.2⟩ (by omega), good_yes (show gM_certificate m = -1 from hcert)⟩
    · have hlh : gT_low (gC_tab w) c = gT_high (gC_tab w) c := by rw [c2, c3]; show (gM_low m c).toInt64 = (gM_high m c).toInt64; rw [heq]
      have hru2 : gC_rule w = 6 := h.2.1.2.2.2.2.2.trans hru
      have hcz : gT_cost (gC_tab (sC_rowRest (sC_tab w (sT_right (sT_a (gC_tab w) A') rt)) rs)) c = gM_cost m c := c4
      have hrz : gC_rule (sC_tab (sC_offset (sC_rowRest (sC_tab w (sT_right (sT_a (gC_tab w) A') rt)) rs) (gC_offset w + lo m c * gM_cost m c)) (sT_state (sT_right (sT_a (gC_tab w) A') rt) (upd (gT_state (gC_tab w)) c 1))) = 6 := hru2
      simp only [X1_fix, inR12 hc12, cl12 hc12, if_true, q1, Option.bind_some, hcz, c2, show lo m c = gT_high (gC_tab w) c from (c2.symm.trans hlh), bnd]
      have hlc : gT_high (gC_tab w) c = lo m c := (c2.symm.trans hlh).symm
      rw [hlc]
      have z1' : X0_note (sC_tab (sC_offset (sC_rowRest (sC_tab w (sT_right (sT_a (gC_tab w) A') rt)) rs) (gC_offset w + lo m c * gM_cost m c)) (sT_state (sT_right (sT_a (gC_tab w) A') rt) (upd (gT_state (gC_tab w)) c 1))) (gC_rule (sC_tab (sC_offset (sC_rowRest (sC_tab w (sT_right (sT_a (gC_tab w) A') rt)) rs) (gC_offset w + lo m c * gM_cost m c)) (sT_state (sT_right (sT_a (gC_tab w) A') rt) (upd (gT_state (gC_tab w)) c 1)))) (-1) (nI c) 4 (lo m c) = some (wA (sC_tab (sC_offset (sC_rowRest (sC_tab w (sT_right (sT_a (gC_tab w) A') rt)) rs) (gC_offset w + lo m c * gM_cost m c)) (sT_state (sT_right (sT_a (gC_tab w) A') rt) (upd (gT_state (gC_tab w)) c 1))) nn (gC_count (sC_tab (sC_offset (sC_rowRest (sC_tab w (sT_right (sT_a (gC_tab w) A') rt)) rs) (gC_offset w + lo m c * gM_cost m c)) (sT_state (sT_right (sT_a (gC_tab w) A') rt) (upd (gT_state (gC_tab w)) c 1))) + 1)) := by rw [hrz]; exact z1
      exact congrArg (fun o => Option.bind o (fun r203 : CW => (some ((1 : Int32), r203)))) z1'
    · simp only [X9_fix, inR12 hc12, cl12 hc12, if_true, heq, q2, Option.bind_some, bnd]
      exact congrArg (fun o => Option.bind o (fun r143 : MW => (some r143))) (show X9_act (sM_state (sM_offset (sM_rest (sM_right m rt') rs') (gM_offset m + gM_cost m c * lo m c)) (upd (gM_state m) c 1)) 6 (-1) (nI c) 4 (lo m c) = _ from z2)
    · intro c' hc'
      obtain ⟨⟨d1, d2⟩, d3⟩ := h.2.2.1 c' hc'
      refine ⟨⟨?_, d2⟩, d3⟩
      show upd (gT_state (gC_tab w)) c 1 c' = upd (gM_state m) c 1 c'
      by_cases e : c' = c
      · simp only [upd, e, if_true]
      · simp only [upd, e, if_false]; exact d1
    · intro r hr
      obtain ⟨⟨I1, I2, I3, I4⟩, I5, I6⟩ := q3 r hr
      obtain ⟨p1, p3, p4, p5, p6⟩ := h.2.2.2.1 r hr
      refine ⟨⟨I1, I2⟩, I3, p4, I4, ?_⟩
      rcases p6 with ⟨x1, x2, x3⟩ | ⟨x1, x2⟩
      · refine Or.inl ⟨x1, x2, fun c' hc' => ?_⟩
        have e1 : tm (mA (sM_state (sM_offset (sM_rest (sM_right m rt') rs') (gM_offset m + gM_cost m c * lo m c)) (upd (gM_state m) c 1)) a1 a2 a3 a4 a5 (gM_acts m + 1)) r c' = if upd (gM_state m) c 1 c' = 0 then gM_coef m (12 * r + c') else 0 := rfl
        have e2 : gT_a (gC_tab (wA (sC_tab (sC_offset (sC_rowRest (sC_tab w (sT_right (sT_a (gC_tab w) A') rt)) rs) (gC_offset w + lo m c * gM_cost m c)) (sT_state (sT_right (sT_a (gC_tab w) A') rt) (upd (gT_state (gC_tab w)) c 1))) nn (gC_count w + 1))) r c' = A' r c' := rfl
        rw [e1, e2]
        obtain ⟨J1, J2⟩ := I6 hr x1
        by_cases e : c' = c
        · subst e
          simp only [upd, if_true, i10, if_false]
          exact ⟨J1, big_0⟩
        · simp only [upd, e, if_false]
          rw [J2 c' e]
          exact x3 c' hc'
      · exact Or.inr ⟨x1, x2⟩
    · obtain ⟨P, p1, p2, p3, p4⟩ := h.2.2.2.2.2.1
      have hst : ∀ c', upd (gM_state m) c 1 c' = 2 ↔ gM_state m c' = 2 := fun c' => by
        by_cases e : c' = c
        · subst e; simp only [upd, if_true, hs]; decide
        · simp only [upd, e, if_false]
      refine ⟨P, ?_, p2, p3, fun i hi => ?_⟩
      · rw [p1]
        refine cntN_congr (fun c' _ => ?_)
        show (gM_state m c' == 2) = (upd (gM_state m) c 1 c' == 2)
        rw [Bool.eq_iff_iff, beq_iff_eq, beq_iff_eq]
        exact (hst c').symm
      · obtain ⟨x, x1, x2, x3, x4, x5, x6, x7⟩ := p4 i hi
        exact ⟨x, x1, x2, x3, (hst x).mpr x4, x5, x6, x7⟩
  · refine ⟨1, w, m, ?_, ?_, h.mono (by omega), good_yes hcert⟩
    · have hlh : ¬ gT_low (gC_tab w) c = gT_high (gC_tab w) c := by
        rw [c2, c3]
        intro e
        exact heq (Int32.toInt_inj.mp (by rw [← (toI c).1, ← (toI c).2, e]))
      simp only [X1_fix, inR12 hc12, cl12 hc12, if_true, hlh, if_false]
    · simp only [X9_fix, inR12 hc12, cl12 hc12, if_true, heq, if_false]
end S8
