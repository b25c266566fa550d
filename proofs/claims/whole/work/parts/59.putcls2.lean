/-! put in: the class's rows, and the whole of it -/
theorem row_shape (w : CW) (A A2 : Nat → Nat → Int64) (rt rt2 : Nat → Int64) (rs rs2 : Nat → Int32) : sC_rowRest (sC_tab (sC_rowRest (sC_tab w (sT_right (sT_a (gC_tab w) A) rt)) rs) (sT_right (sT_a (gC_tab (sC_rowRest (sC_tab w (sT_right (sT_a (gC_tab w) A) rt)) rs)) A2) rt2)) rs2 = sC_rowRest (sC_tab w (sT_right (sT_a (gC_tab w) A2) rt2)) rs2 := rfl
/-- what became of the row o when x was put in by r -/
def rowPut (w : CW) (C r x : Nat) (g : Nat → Int64) (A' : Nat → Nat → Int64) (rt : Nat → Int64) (rs : Nat → Int32) (o : Nat) : Prop := (o ≠ r ∧ gT_kind (gC_tab w) o ≠ -1 ∧ gT_a (gC_tab w) o x ≠ 0 → (∀ c, c < C → A' o c = if c = x then 0 else gT_a (gC_tab w) o c + gT_a (gC_tab w) o x * g c) ∧ rt o = gT_right (gC_tab w) o - gT_a (gC_tab w) o x * gT_a (gC_tab w) r x * gT_right (gC_tab w) r ∧ rs o = gC_rowRest w o ||| gC_rowRest w r) ∧ (¬ (o ≠ r ∧ gT_kind (gC_tab w) o ≠ -1 ∧ gT_a (gC_tab w) o x ≠ 0) → A' o = gT_a (gC_tab w) o ∧ rt o = gT_right (gC_tab w) o ∧ rs o = gC_rowRest w o)
def rowAs (w : CW) (A' : Nat → Nat → Int64) (rt : Nat → Int64) (rs : Nat → Int32) (o : Nat) : Prop := A' o = gT_a (gC_tab w) o ∧ rt o = gT_right (gC_tab w) o ∧ rs o = gC_rowRest w o
theorem cl_putRows {w : CW} {C R r x : Nat} {g : Nat → Int64} (hC : C ≤ 12) (hR : R ≤ 12) (hr : r < R) (hx : x < C) (hw : gT_columns (gC_tab w) = nI C) (hwr : gT_rows (gC_tab w) = nI R) (hf : FCt w C r x g) (hgx : g x = 0) : ∃ A' rt rs, iter (X1_putInFor_L107 (nI r) (nI x)) 5000 (w, 0) = some (sC_rowRest (sC_tab w (sT_right (sT_a (gC_tab w) A') rt)) rs) ∧ ∀ o, o < R → rowPut w C r x g A' rt rs o := by
  have hx12 : x < 12 := by omega
  have hr12 : r < 12 := by omega
  obtain ⟨e, q1, A', rt, rs, q2, q3⟩ := iter_run (step := X1_putInFor_L107 (nI r) (nI x)) (fun d s => ∃ (i : Nat) (A' : Nat → Nat → Int64) (rt : Nat → Int64) (rs : Nat → Int32), i + d = R ∧ s = (sC_rowRest (sC_tab w (sT_right (sT_a (gC_tab w) A') rt)) rs, nI i) ∧ (∀ o, o < i → rowPut w C r x g A' rt rs o) ∧ (∀ o, i ≤ o → rowAs w A' rt rs o) ∧ rowAs w A' rt rs r) (fun e => ∃ A' rt rs, e = sC_rowRest (sC_tab w (sT_right (sT_a (gC_tab w) A') rt)) rs ∧ ∀ o, o < R → rowPut w C r x g A' rt rs o) (fun d s hs => by
    obtain ⟨i, A', rt, rs, hid, rfl, h1, h2, h3⟩ := hs
    have hw2 : gT_rows (gC_tab (sC_rowRest (sC_tab w (sT_right (sT_a (gC_tab w) A') rt)) rs)) = nI R := hwr
    by_cases hic : i < R
    · have hi12 : i < 12 := by omega
      have hgn : X6_isGone (gC_tab (sC_rowRest (sC_tab w (sT_right (sT_a (gC_tab w) A') rt)) rs)) (nI i) = some (if gT_kind (gC_tab w) i = -1 then 1 else 0) := by
        unfold X6_isGone
        rw [if_pos (inR12 hi12), cl12 hi12]
        show (if gT_kind (gC_tab w) i = -1 then _ else _) = _
        split <;> rfl
      have hai : gT_a (gC_tab (sC_rowRest (sC_tab w (sT_right (sT_a (gC_tab w) A') rt)) rs)) i x = gT_a (gC_tab w) i x := by
        show A' i x = _
        rw [(h2 i (Nat.le_refl _)).1]
      have stay : ¬ (i ≠ r ∧ gT_kind (gC_tab w) i ≠ -1 ∧ gT_a (gC_tab w) i x ≠ 0) → X1_putInFor_L107 (nI r) (nI x) (sC_rowRest (sC_tab w (sT_right (sT_a (gC_tab w) A') rt)) rs, nI i) = some (.inl (sC_rowRest (sC_tab w (sT_right (sT_a (gC_tab w) A') rt)) rs, nI (i + 1))) → (∃ y, X1_putInFor_L107 (nI r) (nI x) (sC_rowRest (sC_tab w (sT_right (sT_a (gC_tab w) A') rt)) rs, nI i) = some (.inl y) ∧ ∃ d', d' < d ∧ ∃ (i : Nat) (A' : Nat → Nat → Int64) (rt : Nat → Int64) (rs : Nat → Int32), i + d' = R ∧ y = (sC_rowRest (sC_tab w (sT_right (sT_a (gC_tab w) A') rt)) rs, nI i) ∧ (∀ o, o < i → rowPut w C r x g A' rt rs o) ∧ (∀ o, i ≤ o → rowAs w A' rt rs o) ∧ rowAs w A' rt rs r) := fun hn hst => by
        refine ⟨_, hst, d - 1, by omega, i + 1, A', rt, rs, by omega, rfl, fun o ho => ?_, fun o ho => h2 o (by omega), h3⟩
        by_cases e : o = i
        · subst e
          exact ⟨fun z => absurd z hn, fun _ => h2 o (Nat.le_refl _)⟩
        · exact h1 o (by omega)
      by_cases e1 : i = r
      · refine Or.inl (stay (fun z => z.1 e1) ?_)
        have e2 : nI i = nI r := by rw [e1]
        simp only [X1_putInFor_L107, hw2, nC_le hR hr, if_false, e2, if_true, X1_putInFor_J162, nI_1, e1]
      · have e2 : ¬ nI i = nI r := by rw [neq (by omega) (by omega)]; exact e1
        by_cases e3 : gT_kind (gC_tab w) i = -1
        · refine Or.inl (stay (fun z => z.2.1 e3) ?_)
          simp only [X1_putInFor_L107, hw2, nC_le hR hic, if_false, e2, hgn, e3, if_true, Option.bind_some, i10, X1_putInFor_J162, nI_1]
        · by_cases e4 : gT_a (gC_tab w) i x = 0
          · refine Or.inl (stay (fun z => z.2.2 e4) ?_)
            simp only [X1_putInFor_L107, hw2, nC_le hR hic, if_false, e2, hgn, e3, if_true, Option.bind_some, inR12 hi12, cl12 hi12, inR12 hx12, cl12 hx12, hai, e4, X1_putInFor_J162, nI_1]
          · have hfr : FCt (sC_rowRest (sC_tab w (sT_right (sT_a (gC_tab w) A') rt)) rs) C r x g := FCt_of hC hr12 hx hf (fun c _ => by show A' r c = _; rw [h3.1])
            obtain ⟨A2, rt2, rs2, p1, p2, p3, p4, p5⟩ := cl_putRow (w := sC_rowRest (sC_tab w (sT_right (sT_a (gC_tab w) A') rt)) rs) hC hr12 hi12 e1 hx hw hfr hgx
            rw [row_shape] at p1
            have s1 : ∀ c, gT_a (gC_tab (sC_rowRest (sC_tab w (sT_right (sT_a (gC_tab w) A') rt)) rs)) i c = gT_a (gC_tab w) i c := fun c => by show A' i c = _; rw [(h2 i (Nat.le_refl _)).1]
            have s2 : gT_right (gC_tab (sC_rowRest (sC_tab w (sT_right (sT_a (gC_tab w) A') rt)) rs)) i = gT_right (gC_tab w) i := (h2 i (Nat.le_refl _)).2.1
            have s3 : gC_rowRest (sC_rowRest (sC_tab w (sT_right (sT_a (gC_tab w) A') rt)) rs) i = gC_rowRest w i := (h2 i (Nat.le_refl _)).2.2
            have s4 : gT_a (gC_tab (sC_rowRest (sC_tab w (sT_right (sT_a (gC_tab w) A') rt)) rs)) r x = gT_a (gC_tab w) r x := by show A' r x = _; rw [h3.1]
            have s5 : gT_right (gC_tab (sC_rowRest (sC_tab w (sT_right (sT_a (gC_tab w) A') rt)) rs)) r = gT_right (gC_tab w) r := h3.2.1
            have s6 : gC_rowRest (sC_rowRest (sC_tab w (sT_right (sT_a (gC_tab w) A') rt)) rs) r = gC_rowRest w r := h3.2.2
            have p2' : ∀ r', r' ≠ i → A2 r' = A' r' ∧ rt2 r' = rt r' ∧ rs2 r' = rs r' := p2
            refine Or.inl ⟨(sC_rowRest (sC_tab w (sT_right (sT_a (gC_tab w) A2) rt2)) rs2, nI (i + 1)), ?_, d - 1, by omega, i + 1, A2, rt2, rs2, by omega, rfl, fun o ho => ?_, fun o ho => ?_, ?_⟩
            · simp only [X1_putInFor_L107, hw2, nC_le hR hic, if_false, e2, hgn, e3, if_true, Option.bind_some, inR12 hi12, cl12 hi12, inR12 hx12, cl12 hx12, hai, e4, p1, X1_putInFor_J162, nI_1]
            · by_cases e : o = i
              · subst e
                refine ⟨fun _ => ⟨fun c hc => ?_, ?_, ?_⟩, fun z => absurd ⟨e1, e3, e4⟩ z⟩
                · rw [p3 c hc, s1, s1]
                · rw [p4, s2, s1, s4, s5]
                · rw [p5, s3, s6]
              · obtain ⟨z1, z2, z3⟩ := p2' o e
                have hh := h1 o (by omega)
                unfold rowPut at hh ⊢
                rw [z1, z2, z3]
                exact hh
            · obtain ⟨z1, z2, z3⟩ := p2' o (by omega)
              have hh := h2 o (by omega)
              unfold rowAs at hh ⊢
              rw [z1, z2, z3]
              exact hh
            · obtain ⟨z1, z2, z3⟩ := p2' r (fun z => e1 z.symm)
              have hh := h3
              unfold rowAs at hh ⊢
              rw [z1, z2, z3]
              exact hh
    · have : i = R := by omega
      subst this
      refine Or.inr ⟨_, ?_, A', rt, rs, rfl, h1⟩
      simp only [X1_putInFor_L107, hw2, Int32.le_refl, if_true]) R 5000 (w, 0) (by omega) ⟨0, gT_a (gC_tab w), gT_right (gC_tab w), gC_rowRest w, by omega, rfl, fun o ho => by omega, fun o _ => ⟨rfl, rfl, rfl⟩, rfl, rfl, rfl⟩
  subst q2
  exact ⟨A', rt, rs, q1, q3⟩
/-- x put in by r: the class's world, but for the act -/
def putW (w w5 : CW) (C R r x P : Nat) (g : Nat → Int64) (A' : Nat → Nat → Int64) (rt : Nat → Int64) (rs : Nat → Int32) : Prop := CS w w5 ∧ gT_state (gC_tab w5) = upd (gT_state (gC_tab w)) x 2 ∧ gT_kind (gC_tab w5) = upd (gT_kind (gC_tab w)) r (-1) ∧ (∀ c, c < C → gT_cost (gC_tab w5) c = gT_cost (gC_tab w) c + g c * gT_cost (gC_tab w) x) ∧ (gT_a (gC_tab w5) = A' ∧ gT_right (gC_tab w5) = rt ∧ gC_rowRest w5 = rs ∧ ∀ o, o < R → rowPut w C r x g A' rt rs o) ∧ gC_offset w5 = gC_offset w + gT_a (gC_tab w) r x * gT_right (gC_tab w) r * gT_cost (gC_tab w) x ∧ gC_putIns w5 = nI (P + 1) ∧ (gC_putInColumn w5 P = nI x ∧ gC_putInShift w5 P = gT_a (gC_tab w) r x * gT_right (gC_tab w) r ∧ ∀ c, c < C → gC_putInFactors w5 P c = g c) ∧ ∀ i, i ≠ P → gC_putInColumn w5 i = gC_putInColumn w i ∧ gC_putInShift w5 i = gC_putInShift w i ∧ gC_putInFactors w5 i = gC_putInFactors w i
theorem cl_putFor {w : CW} {C R r x P : Nat} {g : Nat → Int64} (hC : C ≤ 12) (hR : R ≤ 12) (hr : r < R) (hx : x < C) (hw : gT_columns (gC_tab w) = nI C) (hwr : gT_rows (gC_tab w) = nI R) (hP : gC_putIns w = nI P) (hP12 : P < 12) (hf : FCt w C r x g) (hgx : g x = 0) : ∃ w5 A' rt rs, X1_putInFor w (nI r) (nI x) = (X0_note w5 (gC_rule w) (nI r) (nI x) 5 (gT_a (gC_tab w) r x * gT_right (gC_tab w) r)).bind (fun z => some z) ∧ putW w w5 C R r x P g A' rt rs := by
  have hx12 : x < 12 := by omega
  have hr12 : r < 12 := by omega
  obtain ⟨w1, a1, a2, a3, a4, a5, a6, a7, a8⟩ := cl_record hC hw hP hP12 hf (gT_a (gC_tab w) r x * gT_right (gC_tab w) r)
  have hf1 : FCt w1 C r x g := FCt_of hC hr12 hx hf (fun c _ => by rw [a3])
  obtain ⟨cs, b1, b2⟩ := cl_costs (w := w1) hC hr12 hx (by rw [a3]; exact hw) hf1 hgx
  rw [a3] at b1 b2
  have hcx : cs x = gT_cost (gC_tab w) x := by rw [b2 x hx, hgx, Int64.zero_mul, Int64.add_zero]
  obtain ⟨w2, hw2⟩ : ∃ w2, w2 = sC_offset (sC_tab w1 (sT_cost (gC_tab w) cs)) (gC_offset w1 + gT_a (gC_tab w) r x * gT_right (gC_tab w) r * gT_cost (gC_tab w) x) := ⟨_, rfl⟩
  have t2 : gC_tab w2 = sT_cost (gC_tab w) cs := by rw [hw2]
  have hf2 : FCt w2 C r x g := FCt_of hC hr12 hx hf (fun c _ => by rw [t2])
  obtain ⟨A', rt, rs, c1, c2⟩ := cl_putRows (w := w2) (g := g) hC hR hr hx (by rw [t2]; exact hw) (by rw [t2]; exact hwr) hf2 hgx
  rw [t2] at c1
  have r2 : gC_rowRest w2 = gC_rowRest w := by rw [hw2]; exact a4
  have o2 : gC_offset w2 = gC_offset w + gT_a (gC_tab w) r x * gT_right (gC_tab w) r * gT_cost (gC_tab w) x := by rw [hw2, ← a5]
  have cs2 : CS w w2 := by
    refine CS.trans a2 ?_
    rw [hw2]
    unfold CS
    rw [a3]
    exact ⟨⟨rfl, rfl, rfl, rfl, rfl, rfl⟩, rfl, rfl, rfl, rfl, rfl, rfl⟩
  have p2 : gC_putIns w2 = gC_putIns w1 ∧ gC_putInColumn w2 = gC_putInColumn w1 ∧ gC_putInShift w2 = gC_putInShift w1 ∧ gC_putInFactors w2 = gC_putInFactors w1 := by rw [hw2]; exact ⟨rfl, rfl, rfl, rfl⟩
  obtain ⟨w5, hw5⟩ : ∃ w5, w5 = sC_tab (sC_rowRest (sC_tab w2 (sT_right (sT_a (sT_cost (gC_tab w) cs) A') rt)) rs) (sT_kind (sT_state (sT_right (sT_a (sT_cost (gC_tab w) cs) A') rt) (upd (gT_state (gC_tab w)) x 2)) (upd (gT_kind (gC_tab w)) r (-1))) := ⟨_, rfl⟩
  have ru5 : gC_rule w5 = gC_rule w := by
    have : gC_rule w5 = gC_rule w2 := by rw [hw5]
    rw [this]; exact cs2.2.2.2.2.2.2
  refine ⟨w5, A', rt, rs, ?_, ?_⟩
  · have hcz : gT_cost (gC_tab (sC_tab w1 (sT_cost (gC_tab w) cs))) x = gT_cost (gC_tab w) x := hcx
    have ho1 : gC_offset (sC_tab w1 (sT_cost (gC_tab w) cs)) = gC_offset w1 := rfl
    simp only [X1_putInFor, inR12 hr12, cl12 hr12, inR12 hx12, cl12 hx12, if_true, a1, Option.bind_some, b1, bnd, hcz, ho1]
    rw [← hw2, c1]
    simp only [Option.bind_some]
    rw [← ru5, hw5]
  · refine ⟨?_, ?_, ?_, ?_, ⟨?_, ?_, ?_, ?_⟩, ?_, ?_, ⟨?_, ?_, ?_⟩, ?_⟩
    · refine CS.trans cs2 ?_
      rw [hw5]
      unfold CS
      rw [t2]
      exact ⟨⟨rfl, rfl, rfl, rfl, rfl, rfl⟩, rfl, rfl, rfl, rfl, rfl, rfl⟩
    · rw [hw5]
    · rw [hw5]
    · intro c hc
      rw [hw5]
      exact b2 c hc
    · rw [hw5]
    · rw [hw5]
    · rw [hw5]
    · intro o ho
      have := c2 o ho
      unfold rowPut at this ⊢
      rw [t2, r2] at this
      exact this
    · rw [hw5]; exact o2
    · rw [hw5]; exact p2.1.trans a6
    · rw [hw5]
      show gC_putInColumn w2 P = _
      rw [p2.2.1]; exact a7.1
    · rw [hw5]
      show gC_putInShift w2 P = _
      rw [p2.2.2.1]; exact a7.2.1
    · intro c hc
      rw [hw5]
      show gC_putInFactors w2 P c = _
      rw [p2.2.2.2]; exact a7.2.2 c hc
    · intro i hi
      rw [hw5]
      show gC_putInColumn w2 i = _ ∧ gC_putInShift w2 i = _ ∧ gC_putInFactors w2 i = _
      rw [p2.2.1, p2.2.2.1, p2.2.2.2]
      exact a8 i hi
