/-! put in: the class's steps -/
/-- what a column put in leaves as it was -/
def CS (w w' : CW) : Prop := (w'.1 = w.1 ∧ w'.2.2.2 = w.2.2.2 ∧ gT_columns (gC_tab w') = gT_columns (gC_tab w) ∧ gT_rows (gC_tab w') = gT_rows (gC_tab w) ∧ gT_low (gC_tab w') = gT_low (gC_tab w) ∧ gT_high (gC_tab w') = gT_high (gC_tab w)) ∧ gC_lowRest w' = gC_lowRest w ∧ gC_highRest w' = gC_highRest w ∧ gC_numbers w' = gC_numbers w ∧ gC_count w' = gC_count w ∧ gC_certificate w' = gC_certificate w ∧ gC_rule w' = gC_rule w
theorem CS.refl (w : CW) : CS w w := ⟨⟨rfl, rfl, rfl, rfl, rfl, rfl⟩, rfl, rfl, rfl, rfl, rfl, rfl⟩
theorem CS.trans {a b c : CW} (h1 : CS a b) (h2 : CS b c) : CS a c := by
  obtain ⟨⟨p1, p2, p3, p4, p5, p6⟩, p7, p8, p9, p10, p11, p12⟩ := h1
  obtain ⟨⟨q1, q2, q3, q4, q5, q6⟩, q7, q8, q9, q10, q11, q12⟩ := h2
  exact ⟨⟨q1.trans p1, q2.trans p2, q3.trans p3, q4.trans p4, q5.trans p5, q6.trans p6⟩, q7.trans p7, q8.trans p8, q9.trans p9, q10.trans p10, q11.trans p11, q12.trans p12⟩
/-- the factors that a world's row r gives -/
def FCt (w : CW) (C r x : Nat) (g : Nat → Int64) : Prop := ∀ y, y < C → X1_factorOf w (nI r) (nI x) (nI y) = some (g y)
theorem FCt_of {w w' : CW} {C r x : Nat} {g : Nat → Int64} (hC : C ≤ 12) (hr : r < 12) (hx : x < C) (h : FCt w C r x g) (ha : ∀ c, c < C → gT_a (gC_tab w') r c = gT_a (gC_tab w) r c) : FCt w' C r x g := fun y hy => by
  rw [← h y hy]
  unfold X1_factorOf
  rw [cl12 hr, cl12 (show x < 12 by omega), cl12 (show y < 12 by omega), ha x hx, ha y hy]
/-- the record of a put in -/
theorem cl_record {w : CW} {C r x P : Nat} {g : Nat → Int64} (hC : C ≤ 12) (hw : gT_columns (gC_tab w) = nI C) (hP : gC_putIns w = nI P) (hP12 : P < 12) (hf : FCt w C r x g) (sh : Int64) : ∃ w1, X1_recordPutIn w (nI r) (nI x) sh = some w1 ∧ CS w w1 ∧ gC_tab w1 = gC_tab w ∧ gC_rowRest w1 = gC_rowRest w ∧ gC_offset w1 = gC_offset w ∧ gC_putIns w1 = nI (P + 1) ∧ (gC_putInColumn w1 P = nI x ∧ gC_putInShift w1 P = sh ∧ ∀ c, c < C → gC_putInFactors w1 P c = g c) ∧ ∀ i, i ≠ P → gC_putInColumn w1 i = gC_putInColumn w i ∧ gC_putInShift w1 i = gC_putInShift w i ∧ gC_putInFactors w1 i = gC_putInFactors w i := by
  have hlt : gC_putIns w < 12 := by rw [hP]; exact nI_lt (b := 12) hP12 (by omega)
  have hin : inR (gC_putIns w) 12 = true := by rw [hP]; exact inR12 hP12
  have hcl : (gC_putIns w).toNatClampNeg = P := by rw [hP]; exact cl12 hP12
  obtain ⟨e, q1, A', q2, q3, q4⟩ := iter_run (step := X1_recordPutIn_L42 w (nI r) (nI x)) (fun d s => ∃ (i : Nat) (A' : Nat → Nat → Int64), i + d = C ∧ s = (sC_putInFactors (sC_putInShift (sC_putInColumn w (upd (gC_putInColumn w) P (nI x))) (vp_updL (gC_putInShift w) P sh)) A', nI i) ∧ (∀ j, j ≠ P → A' j = gC_putInFactors w j) ∧ ∀ c, c < i → A' P c = g c) (fun e => ∃ A', e = sC_putInFactors (sC_putInShift (sC_putInColumn w (upd (gC_putInColumn w) P (nI x))) (vp_updL (gC_putInShift w) P sh)) A' ∧ (∀ j, j ≠ P → A' j = gC_putInFactors w j) ∧ ∀ c, c < C → A' P c = g c) (fun d s hs => by
    obtain ⟨i, A', hid, rfl, h1, h2⟩ := hs
    have hw2 : gT_columns (gC_tab (sC_putInFactors (sC_putInShift (sC_putInColumn w (upd (gC_putInColumn w) P (nI x))) (vp_updL (gC_putInShift w) P sh)) A')) = nI C := hw
    by_cases hic : i < C
    · have hi12 : i < 12 := by omega
      have hf2 : X1_factorOf (sC_putInFactors (sC_putInShift (sC_putInColumn w (upd (gC_putInColumn w) P (nI x))) (vp_updL (gC_putInShift w) P sh)) A') (nI r) (nI x) (nI i) = some (g i) := hf i hic
      refine Or.inl ⟨(sC_putInFactors (sC_putInShift (sC_putInColumn w (upd (gC_putInColumn w) P (nI x))) (vp_updL (gC_putInShift w) P sh)) (va_up A' P (vp_updL (A' P) i (g i))), nI (i + 1)), ?_, d - 1, by omega, i + 1, _, by omega, rfl, fun j hj => by rw [va_up_ne _ _ hj, h1 j hj], fun c hc => ?_⟩
      · simp only [X1_recordPutIn_L42, hw2, nC_le hC hic, if_false, hin, hcl, if_true, hf2, Option.bind_some, inR12 hi12, cl12 hi12, bnd, nI_1]
      · rw [va_up_self]
        unfold vp_updL
        by_cases e : c = i
        · rw [if_pos e, e]
        · rw [if_neg e]; exact h2 c (by omega)
    · have : i = C := by omega
      subst this
      refine Or.inr ⟨_, ?_, A', rfl, h1, h2⟩
      simp only [X1_recordPutIn_L42, hw2, Int32.le_refl, if_true]) C 5000 (sC_putInShift (sC_putInColumn w (upd (gC_putInColumn w) P (nI x))) (vp_updL (gC_putInShift w) P sh), 0) (by omega) ⟨0, gC_putInFactors w, by omega, rfl, fun _ _ => rfl, fun c hc => by omega⟩
  subst q2
  refine ⟨sC_putIns (sC_putInFactors (sC_putInShift (sC_putInColumn w (upd (gC_putInColumn w) P (nI x))) (vp_updL (gC_putInShift w) P sh)) A') (nI (P + 1)), ?_, ⟨⟨rfl, rfl, rfl, rfl, rfl, rfl⟩, rfl, rfl, rfl, rfl, rfl, rfl⟩, rfl, rfl, rfl, rfl, ⟨?_, ?_, q4⟩, fun i hi => ⟨?_, ?_, q3 i hi⟩⟩
  · have q1' : iter (X1_recordPutIn_L42 w (nI r) (nI x)) 5000 (sC_putInShift (sC_putInColumn w (upd (gC_putInColumn w) P (nI x))) (vp_updL (gC_putInShift (sC_putInColumn w (upd (gC_putInColumn w) P (nI x)))) P sh), 0) = _ := q1
    simp only [X1_recordPutIn, hlt, if_true, hin, hcl, bnd, q1', Option.bind_some]
    rw [hP, nI_1]
  · show upd (gC_putInColumn w) P (nI x) P = nI x
    simp only [upd, if_true]
  · show vp_updL (gC_putInShift w) P sh P = sh
    simp only [vp_updL, if_true]
  · show upd (gC_putInColumn w) P (nI x) i = _
    simp only [upd, hi, if_false]
  · show vp_updL (gC_putInShift w) P sh i = _
    simp only [vp_updL, hi, if_false]
/-- the costs -/
theorem cl_costs {w : CW} {C r x : Nat} {g : Nat → Int64} (hC : C ≤ 12) (hr : r < 12) (hx : x < C) (hw : gT_columns (gC_tab w) = nI C) (hf : FCt w C r x g) (hgx : g x = 0) : ∃ cs, iter (X1_putInFor_L32 (nI r) (nI x)) 5000 (w, 0) = some (sC_tab w (sT_cost (gC_tab w) cs)) ∧ ∀ c, c < C → cs c = gT_cost (gC_tab w) c + g c * gT_cost (gC_tab w) x := by
  have hx12 : x < 12 := by omega
  obtain ⟨e, q1, cs, q2, q3⟩ := iter_run (step := X1_putInFor_L32 (nI r) (nI x)) (fun d s => ∃ (i : Nat) (cs : Nat → Int64), i + d = C ∧ s = (sC_tab w (sT_cost (gC_tab w) cs), nI i) ∧ ∀ c, c < C → cs c = if c < i then gT_cost (gC_tab w) c + g c * gT_cost (gC_tab w) x else gT_cost (gC_tab w) c) (fun e => ∃ cs, e = sC_tab w (sT_cost (gC_tab w) cs) ∧ ∀ c, c < C → cs c = gT_cost (gC_tab w) c + g c * gT_cost (gC_tab w) x) (fun d s hs => by
    obtain ⟨i, cs, hid, rfl, h2⟩ := hs
    have hw2 : gT_columns (gC_tab (sC_tab w (sT_cost (gC_tab w) cs))) = nI C := hw
    by_cases hic : i < C
    · have hi12 : i < 12 := by omega
      have hf2 : X1_factorOf (sC_tab w (sT_cost (gC_tab w) cs)) (nI r) (nI x) (nI i) = some (g i) := hf i hic
      have hci : gT_cost (gC_tab (sC_tab w (sT_cost (gC_tab w) cs))) i = gT_cost (gC_tab w) i := by
        show cs i = _
        rw [h2 i hic, if_neg (Nat.lt_irrefl i)]
      have hcx : gT_cost (gC_tab (sC_tab w (sT_cost (gC_tab w) cs))) x = gT_cost (gC_tab w) x := by
        show cs x = _
        rw [h2 x hx, hgx, Int64.zero_mul, Int64.add_zero]
        split <;> rfl
      refine Or.inl ⟨(sC_tab w (sT_cost (gC_tab w) (vp_updL cs i (gT_cost (gC_tab w) i + g i * gT_cost (gC_tab w) x))), nI (i + 1)), ?_, d - 1, by omega, i + 1, _, by omega, rfl, fun c hc => ?_⟩
      · simp only [X1_putInFor_L32, hw2, nC_le hC hic, if_false, inR12 hi12, cl12 hi12, if_true, hf2, Option.bind_some, inR12 hx12, cl12 hx12, bnd, nI_1, hci, hcx]
      · unfold vp_updL
        by_cases e : c = i
        · subst e; rw [if_pos rfl, if_pos (by omega)]
        · rw [if_neg e, h2 c hc]
          by_cases e2 : c < i
          · rw [if_pos e2, if_pos (by omega)]
          · rw [if_neg e2, if_neg (by omega)]
    · have : i = C := by omega
      subst this
      refine Or.inr ⟨_, ?_, cs, rfl, fun c hc => by rw [h2 c hc, if_pos hc]⟩
      simp only [X1_putInFor_L32, hw2, Int32.le_refl, if_true]) C 5000 (w, 0) (by omega) ⟨0, gT_cost (gC_tab w), by omega, rfl, fun c hc => by rw [if_neg (by omega)]⟩
  subst q2
  exact ⟨cs, q1, q3⟩
/-- x is put in in another row -/
theorem cl_putRow {w : CW} {C r x o : Nat} {g : Nat → Int64} (hC : C ≤ 12) (hr : r < 12) (ho : o < 12) (hor : o ≠ r) (hx : x < C) (hw : gT_columns (gC_tab w) = nI C) (hf : FCt w C r x g) (hgx : g x = 0) : ∃ A' rt rs, X1_putInRow w (nI r) (nI x) (nI o) = some (sC_rowRest (sC_tab w (sT_right (sT_a (gC_tab w) A') rt)) rs) ∧ (∀ r', r' ≠ o → A' r' = gT_a (gC_tab w) r' ∧ rt r' = gT_right (gC_tab w) r' ∧ rs r' = gC_rowRest w r') ∧ (∀ c, c < C → A' o c = if c = x then 0 else gT_a (gC_tab w) o c + gT_a (gC_tab w) o x * g c) ∧ rt o = gT_right (gC_tab w) o - gT_a (gC_tab w) o x * gT_a (gC_tab w) r x * gT_right (gC_tab w) r ∧ rs o = gC_rowRest w o ||| gC_rowRest w r := by
  have hx12 : x < 12 := by omega
  obtain ⟨e, q1, A', q2, q3, q4⟩ := iter_run (step := X1_putInRow_L16 w (nI r) (nI x) (nI o)) (fun d s => ∃ (i : Nat) (A' : Nat → Nat → Int64), i + d = C ∧ s = (sC_tab w (sT_a (gC_tab w) A'), nI i) ∧ (∀ r', r' ≠ o → A' r' = gT_a (gC_tab w) r') ∧ ∀ c, c < C → A' o c = if c < i then gT_a (gC_tab w) o c + gT_a (gC_tab w) o x * g c else gT_a (gC_tab w) o c) (fun e => ∃ A', e = sC_tab w (sT_a (gC_tab w) A') ∧ (∀ r', r' ≠ o → A' r' = gT_a (gC_tab w) r') ∧ ∀ c, c < C → A' o c = gT_a (gC_tab w) o c + gT_a (gC_tab w) o x * g c) (fun d s hs => by
    obtain ⟨i, A', hid, rfl, h1, h2⟩ := hs
    have hw2 : gT_columns (gC_tab (sC_tab w (sT_a (gC_tab w) A'))) = nI C := hw
    by_cases hic : i < C
    · have hi12 : i < 12 := by omega
      have hf2 : X1_factorOf (sC_tab w (sT_a (gC_tab w) A')) (nI r) (nI x) (nI i) = some (g i) := FCt_of hC hr hx hf (fun c _ => by show A' r c = _; rw [h1 r (fun e => hor e.symm)]) i hic
      have hoi : gT_a (gC_tab (sC_tab w (sT_a (gC_tab w) A'))) o i = gT_a (gC_tab w) o i := by
        show A' o i = _
        rw [h2 i hic, if_neg (Nat.lt_irrefl i)]
      refine Or.inl ⟨(sC_tab w (sT_a (gC_tab w) (va_up A' o (vp_updL (A' o) i (gT_a (gC_tab w) o i + gT_a (gC_tab w) o x * g i)))), nI (i + 1)), ?_, d - 1, by omega, i + 1, _, by omega, rfl, fun r' hr' => by rw [va_up_ne _ _ hr', h1 r' hr'], fun c hc => ?_⟩
      · simp only [X1_putInRow_L16, hw2, nC_le hC hic, if_false, inR12 hi12, cl12 hi12, inR12 ho, cl12 ho, cl12 hx12, if_true, hf2, Option.bind_some, bnd, nI_1, hoi]
      · rw [va_up_self]
        unfold vp_updL
        by_cases e : c = i
        · subst e; rw [if_pos rfl, if_pos (by omega)]
        · rw [if_neg e, h2 c hc]
          by_cases e2 : c < i
          · rw [if_pos e2, if_pos (by omega)]
          · rw [if_neg e2, if_neg (by omega)]
    · have : i = C := by omega
      subst this
      refine Or.inr ⟨_, ?_, A', rfl, h1, fun c hc => by rw [h2 c hc, if_pos hc]⟩
      simp only [X1_putInRow_L16, hw2, Int32.le_refl, if_true]) C 5000 (w, 0) (by omega) ⟨0, gT_a (gC_tab w), by omega, rfl, fun _ _ => rfl, fun c hc => by rw [if_neg (by omega)]⟩
  subst q2
  have hor' : r ≠ o := fun e => hor e.symm
  have u1 : va_up A' o (vp_updL (A' o) x 0) r x = gT_a (gC_tab w) r x := by rw [va_up_ne _ _ hor', q3 r hor']
  refine ⟨va_up A' o (vp_updL (A' o) x 0), vp_updL (gT_right (gC_tab w)) o (gT_right (gC_tab w) o - gT_a (gC_tab w) o x * gT_a (gC_tab w) r x * gT_right (gC_tab w) r), upd (gC_rowRest w) o (gC_rowRest w o ||| gC_rowRest w r), ?_, fun r' hr' => ⟨by rw [va_up_ne _ _ hr', q3 r' hr'], by unfold vp_updL; rw [if_neg hr'], by unfold upd; rw [if_neg hr']⟩, fun c hc => ?_, by unfold vp_updL; rw [if_pos rfl], by unfold upd; rw [if_pos rfl]⟩
  · have v1 : gT_a (gC_tab (sC_tab (sC_tab w (sT_a (gC_tab w) A')) (sT_a (gC_tab (sC_tab w (sT_a (gC_tab w) A'))) (va_up (gT_a (gC_tab (sC_tab w (sT_a (gC_tab w) A')))) o (vp_updL (gT_a (gC_tab (sC_tab w (sT_a (gC_tab w) A'))) o) x 0))))) r x = gT_a (gC_tab w) r x := u1
    simp only [X1_putInRow, inR12 ho, cl12 ho, inR12 hx12, cl12 hx12, inR12 hr, cl12 hr, if_true, q1, Option.bind_some, bnd, v1]
  · rw [va_up_self]
    unfold vp_updL
    by_cases e : c = x
    · rw [if_pos e, if_pos e]
    · rw [if_neg e, if_neg e, q4 c hc]
