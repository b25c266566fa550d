/-! put in: the relation holds on -/
def MS (m m' : MW) : Prop := (m'.1 = m.1 ∧ m'.2.2.2 = m.2.2.2 ∧ gM_isSmall m' = gM_isSmall m ∧ gM_low m' = gM_low m ∧ gM_high m' = gM_high m ∧ gM_lowRest m' = gM_lowRest m ∧ gM_highRest m' = gM_highRest m ∧ gM_kind m' = gM_kind m ∧ gM_certificate m' = gM_certificate m ∧ gM_acts m' = gM_acts m) ∧ gM_actRule m' = gM_actRule m ∧ gM_actRow m' = gM_actRow m ∧ gM_actColumn m' = gM_actColumn m ∧ gM_actWhat m' = gM_actWhat m ∧ gM_actValue m' = gM_actValue m
theorem MS.trans {a b c : MW} (h1 : MS a b) (h2 : MS b c) : MS a c := by
  obtain ⟨⟨p1, p2, p3, p4, p5, p6, p7, p8, p9, p10⟩, p11, p12, p13, p14, p15⟩ := h1
  obtain ⟨⟨q1, q2, q3, q4, q5, q6, q7, q8, q9, q10⟩, q11, q12, q13, q14, q15⟩ := h2
  exact ⟨⟨q1.trans p1, q2.trans p2, q3.trans p3, q4.trans p4, q5.trans p5, q6.trans p6, q7.trans p7, q8.trans p8, q9.trans p9, q10.trans p10⟩, q11.trans p11, q12.trans p12, q13.trans p13, q14.trans p14, q15.trans p15⟩
theorem MS.refl (m : MW) : MS m m := ⟨⟨rfl, rfl, rfl, rfl, rfl, rfl, rfl, rfl, rfl, rfl⟩, rfl, rfl, rfl, rfl, rfl⟩
/-- what became of a row in the reference -/
def rowPutM (m m5 : MW) (C r x o : Nat) : Prop := (o ≠ r ∧ gM_gone m o = 0 ∧ tm m o x ≠ 0 → (∀ c, c < C → c ≠ x → gM_state m c = 0 → gM_coef m5 (12 * o + c) = gM_coef m (12 * o + c) + tm m o x * fc m r x c) ∧ gM_right m5 o = gM_right m o - tm m o x * (tm m r x * gM_right m r) ∧ gM_rest m5 o = gM_rest m o ||| gM_rest m r) ∧ (¬ (o ≠ r ∧ gM_gone m o = 0 ∧ tm m o x ≠ 0) → (∀ c, c < C → gM_coef m5 (12 * o + c) = gM_coef m (12 * o + c)) ∧ gM_right m5 o = gM_right m o ∧ gM_rest m5 o = gM_rest m o)
def putM (m m5 : MW) (C R r x P : Nat) : Prop := MS m m5 ∧ gM_state m5 = upd (gM_state m) x 2 ∧ gM_gone m5 = upd (gM_gone m) r 1 ∧ (∀ c, c < C → gM_cost m5 c = gM_cost m c + fc m r x c * gM_cost m x) ∧ (∀ o, o < R → rowPutM m m5 C r x o) ∧ gM_offset m5 = gM_offset m + tm m r x * gM_right m r * gM_cost m x ∧ gM_putIns m5 = nI (P + 1) ∧ (gM_putIn m5 P = nI x ∧ ∀ i, i ≠ P → gM_putIn m5 i = gM_putIn m i) ∧ (gM_base m5 x = tm m r x * gM_right m r ∧ ∀ c, c ≠ x → gM_base m5 c = gM_base m c) ∧ (∀ c, c < C → gM_often m5 (12 * x + c) = fc m r x c) ∧ ∀ x' c, x' ≠ x → c < 12 → gM_often m5 (12 * x' + c) = gM_often m (12 * x' + c)
theorem cntN_up {p q : Nat → Bool} {x : Nat} (hp : p x = false) (hq : q x = true) (he : ∀ i, i ≠ x → q i = p i) : ∀ {n : Nat}, x < n → cntN q n = cntN p n + 1
  | 0, h => absurd h (by omega)
  | n + 1, h => by
    simp only [cntN]
    by_cases e : x = n
    · subst e
      rw [hp, hq, cntN_congr (p := q) (q := p) (fun i hi => he i (by omega))]
      simp
    · rw [he n (fun z => e z.symm), cntN_up hp hq he (show x < n by omega)]
      omega
section SB
variable {C R : Nat} {F : FR} {N : Nat} {w : CW} {m : MW}
theorem Rl_put {w5 : CW} {m5 : MW} {A' : Nat → Nat → Int64} {rt : Nat → Int64} {rs : Nat → Int32} (h : Rl C R F N w m) {r x P : Nat} (hr : r < R) (hg : gM_gone m r = 0) (hx : x < C) (hs : gM_state m x = 0) (hP : P = cntN (fun c => gM_state m c == 2) C) (hc1 : allN (pCost m r x) C = true) (hc2 : allN (pRow m C r x) R = true) (hJ : ∀ p : Nat → Int64, inBox C m p → lo m x ≤ tm m r x * gM_right m r + sumN (fun c => fc m r x c * p c) C ∧ tm m r x * gM_right m r + sumN (fun c => fc m r x c * p c) C ≤ hi m x) (HW : putW w w5 C R r x P (fc m r x) A' rt rs) (HM : putM m m5 C R r x P) : Rl C R F N w5 m5 := by
  have hC := h.C12
  have hR := h.R12
  obtain ⟨⟨⟨s1, s2, s3, s4, s5, s6⟩, s7, s8, s9, s10, s11, s12⟩, W2, W3, W4, ⟨W5, W6, W7, W8⟩, W9, W10, ⟨W11, W12, W13⟩, W14⟩ := HW
  obtain ⟨⟨⟨m1, m2, m3, m4, m5', m6, m7, m8, m9, m10⟩, m11, m12, m13, m14, m15⟩, M2, M3, M4, M5, M6, M7, ⟨M8, M9⟩, ⟨M10, M11⟩, M12, M13⟩ := HM
  have har := h.a hr hg hx
  have hrr := (h.2.2.2.1 r hr).1.1
  have hcx := (h.2.2.1 x hx).1.2.2.2.1
  have elo : ∀ c, lo m5 c = lo m c := fun c => by show (gM_low m5 c).toInt64 = _; rw [m4]
  have ehi : ∀ c, hi m5 c = hi m c := fun c => by show (gM_high m5 c).toInt64 = _; rw [m5']
  refine ⟨?_, ?_, ?_, ?_, ?_, ?_, ?_, ?_⟩
  · obtain ⟨d1, d2, d3, d4, d5, d6⟩ := h.1
    refine ⟨s3.trans d1, s4.trans d2, ?_, ?_, d5, d6⟩
    · show m5.1.1 = _
      rw [m1]; exact d3
    · show m5.1.2.1 = _
      rw [m1]; exact d4
  · obtain ⟨f1, f2, f3, f4, f5, f6⟩ := h.2.1
    exact ⟨s1.trans f1, s2.trans f2, m1.trans f3, m2.trans f4, m3.trans f5, s12.trans f6⟩
  · intro c hc
    obtain ⟨⟨c1, c2, c3, c4, c5, c6⟩, c7, c8, c9, c10, c11, c12⟩ := h.2.2.1 c hc
    have hb := allN_iff.mp hc1 c hc
    unfold pCost at hb
    rw [wi_big] at hb
    refine ⟨⟨?_, ?_, ?_, ?_, ?_, ?_⟩, ?_, ?_, ?_, ?_, ?_, ?_⟩
    · rw [W2, M2]
      unfold upd
      by_cases e : c = x
      · rw [if_pos e, if_pos e]
      · rw [if_neg e, if_neg e]; exact c1
    · rw [s5, elo]; exact c2
    · rw [s6, ehi]; exact c3
    · rw [W4 c hc, M4 c hc, c4, hcx]
    · rw [s7, m6]; exact c5
    · rw [s8, m7]; exact c6
    · rw [m6]; exact c7
    · rw [m7]; exact c8
    · rw [m4]; exact c9
    · rw [m4, m5']; exact c10
    · rw [m5']; exact c11
    · rw [M4 c hc]; exact hb
  · intro o ho
    obtain ⟨⟨p1, p2⟩, p3, p4, p5, p6⟩ := h.2.2.2.1 o ho
    obtain ⟨w1, w2⟩ := W8 o ho
    obtain ⟨n1, n2⟩ := M5 o ho
    by_cases e : o = r
    · obtain ⟨y1, y2, y3⟩ := w2 (fun z => z.1 e)
      obtain ⟨z1, z2, z3⟩ := n2 (fun z => z.1 e)
      refine ⟨⟨?_, ?_⟩, ?_, ?_, ?_, Or.inr ⟨?_, ?_⟩⟩
      · rw [W6, y2, z2]; exact p1
      · rw [W7, y3, z3]; exact p2
      · rw [z3]; exact p3
      · rw [m8]; exact p4
      · rw [z2]; exact p5
      · rw [M3, e]; simp only [upd, if_true]
      · rw [W3, e]; simp only [upd, if_true]
    · have eg : gM_gone m5 o = gM_gone m o := by rw [M3]; simp only [upd, e, if_false]
      have ek : gT_kind (gC_tab w5) o = gT_kind (gC_tab w) o := by rw [W3]; simp only [upd, e, if_false]
      rcases p6 with ⟨x1, x2, x3⟩ | ⟨x1, x2⟩
      · have hkn : gT_kind (gC_tab w) o ≠ -1 := by rw [x2]; rcases p4 with q | q <;> rw [q] <;> decide
        have hox := (x3 x hx).1
        by_cases ht : tm m o x = 0
        · obtain ⟨y1, y2, y3⟩ := w2 (fun z => z.2.2 (hox.trans ht))
          obtain ⟨z1, z2, z3⟩ := n2 (fun z => z.2.2 ht)
          refine ⟨⟨?_, ?_⟩, ?_, ?_, ?_, Or.inl ⟨eg.trans x1, ?_, fun c hc => ?_⟩⟩
          · rw [W6, y2, z2]; exact p1
          · rw [W7, y3, z3]; exact p2
          · rw [z3]; exact p3
          · rw [m8]; exact p4
          · rw [z2]; exact p5
          · rw [ek, x2, m8]
          · have et : tm m5 o c = tm m o c := by
              unfold tm
              rw [M2, z1 c hc]
              unfold upd
              by_cases ec : c = x
              · subst ec
                rw [if_pos rfl, if_neg (by decide), if_pos hs]
                rw [tm_is hs] at ht
                exact ht.symm
              · rw [if_neg ec]
            rw [W5, y1, et]
            exact x3 c hc
        · obtain ⟨y1, y2, y3⟩ := w1 ⟨e, hkn, fun z => ht (hox.symm.trans z)⟩
          obtain ⟨z1, z2, z3⟩ := n1 ⟨e, x1, ht⟩
          have hpr := allN_iff.mp hc2 o ho
          unfold pRow at hpr
          simp only [e, x1, ht, decide_false, decide_true, Bool.not_true, Bool.false_or, Bool.and_eq_true] at hpr
          obtain ⟨hp1, hp2⟩ := hpr
          rw [wi_big11] at hp1
          refine ⟨⟨?_, ?_⟩, ?_, ?_, ?_, Or.inl ⟨eg.trans x1, ?_, fun c hc => ?_⟩⟩
          · rw [W6, y2, z2, p1, hox, har, hrr, Int64.mul_assoc]
          · rw [W7, y3, z3, p2, (h.2.2.2.1 r hr).1.2]
          · rw [z3]; exact mk_or p3 (h.mkR hr)
          · rw [m8]; exact p4
          · rw [z2]; exact big_mono hp1 (by omega)
          · rw [ek, x2, m8]
          · rw [W5, y1 c hc]
            have hh := allN_iff.mp hp2 c hc
            by_cases ec : c = x
            · rw [if_pos ec]
              have et : tm m5 o c = 0 := by
                unfold tm
                rw [M2, ec]
                simp only [upd, if_true]
                rw [if_neg (by decide)]
              rw [et]
              exact ⟨rfl, big_0⟩
            · rw [if_neg ec]
              simp only [ec, decide_false, Bool.false_or] at hh
              rw [wi_big] at hh
              have et : tm m5 o c = tm m o c + tm m o x * fc m r x c := by
                by_cases hsc : gM_state m c = 0
                · have : tm m5 o c = gM_coef m5 (12 * o + c) := tm_is (by rw [M2]; simp only [upd, ec, if_false]; exact hsc)
                  rw [this, z1 c hc ec hsc, tm_is hsc]
                · have e1 : tm m5 o c = 0 := tm_zero (by rw [M2]; simp only [upd, ec, if_false]; exact hsc)
                  have e2 : fc m r x c = 0 := by
                    unfold fc
                    rw [if_neg ec, tm_zero (r := r) hsc, Int64.mul_zero]
                  rw [e1, e2, tm_zero hsc, Int64.mul_zero, Int64.add_zero]
              rw [et, (x3 c hc).1, hox]
              exact ⟨rfl, hh⟩
      · have hng : ¬ (o ≠ r ∧ gM_gone m o = 0 ∧ tm m o x ≠ 0) := fun z => by
          rw [x1] at z
          exact absurd z.2.1 (by decide)
        obtain ⟨y1, y2, y3⟩ := w2 (fun z => z.2.1 x2)
        obtain ⟨z1, z2, z3⟩ := n2 hng
        refine ⟨⟨?_, ?_⟩, ?_, ?_, ?_, Or.inr ⟨eg.trans x1, ek.trans x2⟩⟩
        · rw [W6, y2, z2]; exact p1
        · rw [W7, y3, z3]; exact p2
        · rw [z3]; exact p3
        · rw [m8]; exact p4
        · rw [z2]; exact p5
  · obtain ⟨k, k1, k2, k3, k4⟩ := h.2.2.2.2.1
    refine ⟨k, k1, s10.trans k2, m10.trans k3, fun i hi hi4 => ?_⟩
    obtain ⟨g1, g2, g3, g4, g5⟩ := k4 i hi hi4
    unfold actOK
    rw [s9, m11, m12, m13, m14, m15]
    exact ⟨g1, g2, g3, g4, g5⟩
  · obtain ⟨P0, p1, p2, p3, p4⟩ := h.2.2.2.2.2.1
    have hPP : P0 = P := p1.trans hP.symm
    subst hPP
    have hst2 : ∀ c, gM_state m5 c = 2 ↔ (c = x ∨ gM_state m c = 2) := fun c => by
      rw [M2]
      unfold upd
      by_cases e : c = x
      · rw [if_pos e]; exact ⟨fun _ => Or.inl e, fun _ => rfl⟩
      · rw [if_neg e]; exact ⟨Or.inr, fun z => z.resolve_left e⟩
    refine ⟨P0 + 1, ?_, W10, M7, fun i hi => ?_⟩
    · rw [cntN_up (p := fun c => gM_state m c == 2) (q := fun c => gM_state m5 c == 2) (x := x) (by simp [hs]) (by simpa using (hst2 x).mpr (Or.inl rfl)) (fun c hc => by
        rw [Bool.eq_iff_iff, beq_iff_eq, beq_iff_eq, hst2 c]
        exact ⟨fun z => z.resolve_left hc, Or.inr⟩) hx, ← p1]
    · by_cases e : i = P0
      · subst e
        refine ⟨x, hx, M8, W11, (hst2 x).mpr (Or.inl rfl), ?_, fun c hc => ?_, fun p hp => ?_⟩
        · rw [W12, M10, har, hrr]
        · rw [W13 c hc, M12 c hc]
        · have hp2 : inBox C m p := fun c hc => by
            have := hp c hc
            rw [elo, ehi] at this
            exact this
          have := hJ p hp2
          rw [elo, ehi, M10, sumN_congr (f := fun c => gM_often m5 (12 * x + c) * p c) (g := fun c => fc m r x c * p c) (fun c hc => by rw [M12 c hc])]
          exact this
      · obtain ⟨x', x1, x2, x3, x4, x5, x6, x7⟩ := p4 i (by omega)
        have hxx : x' ≠ x := fun z => by rw [z, hs] at x4; exact absurd x4 (by decide)
        obtain ⟨v1, v2, v3⟩ := W14 i e
        refine ⟨x', x1, (M9 i e).trans x2, v1.trans x3, (hst2 x').mpr (Or.inr x4), ?_, fun c hc => ?_, fun p hp => ?_⟩
        · rw [v2, M11 x' hxx]; exact x5
        · rw [v3, M13 x' c hxx (by omega)]; exact x6 c hc
        · have hp2 : inBox C m p := fun c hc => by
            have := hp c hc
            rw [elo, ehi] at this
            exact this
          rw [elo, ehi, M11 x' hxx, sumN_congr (f := fun c => gM_often m5 (12 * x' + c) * p c) (g := fun c => gM_often m (12 * x' + c) * p c) (fun c hc => by rw [M13 x' c hxx (by omega)])]
          exact x7 p hp2
  · rw [W9, M6, har, hrr, hcx, h.2.2.2.2.2.2.1]
  · rw [s11, m9]; exact h.2.2.2.2.2.2.2
end SB
