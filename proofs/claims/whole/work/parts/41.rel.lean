/-! the relation of the class's world and the reference's -/
def tm (m : MW) (r c : Nat) : Int64 := if gM_state m c = 0 then gM_coef m (12 * r + c) else 0
def big (B : Int) (x : Int64) : Prop := -B ≤ x.toInt ∧ x.toInt ≤ B
def mk (x : Int32) : Prop := x &&& (-4096) = 0
theorem mk_or {x y : Int32} (hx : mk x) (hy : mk y) : mk (x ||| y) := by
  unfold mk at *
  have e : (x ||| y) &&& (-4096) = (x &&& (-4096)) ||| (y &&& (-4096)) := Int32.toBitVec_inj.mp (by
    rw [Int32.toBitVec_and, Int32.toBitVec_or, Int32.toBitVec_or, Int32.toBitVec_and, Int32.toBitVec_and]
    exact BitVec.and_or_distrib_right)
  rw [e, hx, hy]
  rfl
theorem mk_ne {x : Int32} (hx : mk x) : x ≠ -1 := by
  intro h; subst h; revert hx; unfold mk; decide
theorem mk_0 : mk 0 := by unfold mk; decide
abbrev lo (m : MW) (c : Nat) : Int64 := (gM_low m c).toInt64
abbrev hi (m : MW) (c : Nat) : Int64 := (gM_high m c).toInt64
def colOK (w : CW) (m : MW) (c : Nat) : Prop := (gT_state (gC_tab w) c = gM_state m c ∧ gT_low (gC_tab w) c = lo m c ∧ gT_high (gC_tab w) c = hi m c ∧ gT_cost (gC_tab w) c = gM_cost m c ∧ gC_lowRest w c = gM_lowRest m c ∧ gC_highRest w c = gM_highRest m c) ∧ mk (gM_lowRest m c) ∧ mk (gM_highRest m c) ∧ -10000 ≤ (gM_low m c).toInt ∧ (gM_low m c).toInt ≤ (gM_high m c).toInt ∧ (gM_high m c).toInt ≤ 10000 ∧ big 1000000 (gM_cost m c)
def rowOK (C N : Nat) (w : CW) (m : MW) (r : Nat) : Prop := (gT_right (gC_tab w) r = gM_right m r ∧ gC_rowRest w r = gM_rest m r) ∧ mk (gM_rest m r) ∧ (gM_kind m r = 0 ∨ gM_kind m r = 1) ∧ big (200000000000 + 10000000000 * N) (gM_right m r) ∧ ((gM_gone m r = 0 ∧ gT_kind (gC_tab w) r = gM_kind m r ∧ ∀ c, c < C → gT_a (gC_tab w) r c = tm m r c ∧ big 1000000 (tm m r c)) ∨ (gM_gone m r = 1 ∧ gT_kind (gC_tab w) r = -1))
def actOK (w : CW) (m : MW) (i : Nat) : Prop := gC_numbers w (5 * i) = (gM_actRule m i).toInt64 ∧ gC_numbers w (5 * i + 1) = (gM_actRow m i).toInt64 ∧ gC_numbers w (5 * i + 2) = (gM_actColumn m i).toInt64 ∧ gC_numbers w (5 * i + 3) = (gM_actWhat m i).toInt64 ∧ gC_numbers w (5 * i + 4) = gM_actValue m i
def gActs (N : Nat) (w : CW) (m : MW) : Prop := ∃ k, k ≤ N ∧ gC_count w = nI k ∧ gM_acts m = nI k ∧ ∀ i, i < k → i < 400 → actOK w m i
def inBox (C : Nat) (m : MW) (p : Nat → Int64) : Prop := ∀ c, c < C → lo m c ≤ p c ∧ p c ≤ hi m c
def putOK (C : Nat) (w : CW) (m : MW) (i : Nat) : Prop := ∃ x, x < C ∧ gM_putIn m i = nI x ∧ gC_putInColumn w i = nI x ∧ gM_state m x = 2 ∧ gC_putInShift w i = gM_base m x ∧ (∀ c, c < C → gC_putInFactors w i c = gM_often m (12 * x + c)) ∧ ∀ p : Nat → Int64, inBox C m p → lo m x ≤ gM_base m x + sumN (fun c => gM_often m (12 * x + c) * p c) C ∧ gM_base m x + sumN (fun c => gM_often m (12 * x + c) * p c) C ≤ hi m x
def gPuts (C : Nat) (w : CW) (m : MW) : Prop := ∃ P, P = cntN (fun c => gM_state m c == 2) C ∧ gC_putIns w = nI P ∧ gM_putIns m = nI P ∧ ∀ i, i < P → putOK C w m i
abbrev FR : Type := cT × cM × mT0 × mT3 × Int32 × Int32
def gFrame (F : FR) (w : CW) (m : MW) : Prop := w.1 = F.1 ∧ w.2.2.2 = F.2.1 ∧ m.1 = F.2.2.1 ∧ m.2.2.2 = F.2.2.2.1 ∧ gM_isSmall m = F.2.2.2.2.1 ∧ gC_rule w = F.2.2.2.2.2
def gDim (C R : Nat) (w : CW) (m : MW) : Prop := gT_columns (gC_tab w) = nI C ∧ gT_rows (gC_tab w) = nI R ∧ gM_columns m = nI C ∧ gM_rows m = nI R ∧ C ≤ 12 ∧ R ≤ 12
def Rl (C R : Nat) (F : FR) (N : Nat) (w : CW) (m : MW) : Prop := gDim C R w m ∧ gFrame F w m ∧ (∀ c, c < C → colOK w m c) ∧ (∀ r, r < R → rowOK C N w m r) ∧ gActs N w m ∧ gPuts C w m ∧ gC_offset w = gM_offset m ∧ gC_certificate w = gM_certificate m
def good (b : Int32) (m : MW) : Prop := b = if gM_certificate m = -1 then 1 else 0
theorem i10 : ((1 : Int32) = 0) = False := eq_false (by decide)
section RD
variable {C R : Nat} {F : FR} {N : Nat} {w : CW} {m : MW}
theorem Rl.a (h : Rl C R F N w m) {r c : Nat} (hr : r < R) (hg : gM_gone m r = 0) (hc : c < C) : gT_a (gC_tab w) r c = tm m r c := by
  rcases (h.2.2.2.1 r hr).2.2.2.2 with ⟨-, -, h3⟩ | ⟨h1, -⟩
  · exact (h3 c hc).1
  · rw [hg] at h1; exact absurd h1 (by decide)
theorem Rl.ab (h : Rl C R F N w m) {r c : Nat} (hr : r < R) (hg : gM_gone m r = 0) (hc : c < C) : big 1000000 (tm m r c) := by
  rcases (h.2.2.2.1 r hr).2.2.2.2 with ⟨-, -, h3⟩ | ⟨h1, -⟩
  · exact (h3 c hc).2
  · rw [hg] at h1; exact absurd h1 (by decide)
theorem Rl.kd (h : Rl C R F N w m) {r : Nat} (hr : r < R) (hg : gM_gone m r = 0) : gT_kind (gC_tab w) r = gM_kind m r := by
  rcases (h.2.2.2.1 r hr).2.2.2.2 with ⟨-, h3, -⟩ | ⟨h1, -⟩
  · exact h3
  · rw [hg] at h1; exact absurd h1 (by decide)
theorem Rl.C12 (h : Rl C R F N w m) : C ≤ 12 := h.1.2.2.2.2.1
theorem Rl.R12 (h : Rl C R F N w m) : R ≤ 12 := h.1.2.2.2.2.2
/-- what a row's end takes of a column -/
def fR (m : MW) (r : Nat) (bt gr : Int32) (c : Nat) : Int64 := if tm m r c = 0 then 0 else if nI c = bt then 0 else tm m r c * (if (if tm m r c ≤ 0 then (0 : Int32) else 1) = gr then hi m c else lo m c)
def fS (m : MW) (r : Nat) (bt gr : Int32) (c : Nat) : Int32 := if tm m r c = 0 then 0 else if nI c = bt then 0 else (if (if tm m r c ≤ 0 then (0 : Int32) else 1) = gr then gM_highRest m c else gM_lowRest m c)
theorem cl_reach (h : Rl C R F N w m) {r : Nat} (hr : r < R) (hg : gM_gone m r = 0) (bt gr : Int32) : X5_reach w (nI r) bt gr = some (sumN (fR m r bt gr) C) := by
  have hC := h.C12
  have hR := h.R12
  have hr12 : r < 12 := by omega
  have e := iter_to (step := X5_reach_L6 w (nI r) bt gr) C (fun i => (sumN (fR m r bt gr) i, nI i)) (sumN (fR m r bt gr) C) (fun i hi => by
    have hi12 : i < 12 := by omega
    have ha := h.a hr hg hi
    have hl := (h.2.2.1 i hi).1.2.1
    have hh := (h.2.2.1 i hi).1.2.2.1
    have hn : ¬ nI C ≤ nI i := by rw [nle (by omega) (by omega)]; omega
    simp only [X5_reach_L6, X5_reach_J92, X5_reach_J88, X5_reach_J61, h.1.1, hn, inR12 hr12, inR12 hi12, cl12 hr12, cl12 hi12, ha, hl, hh, if_true, if_false, nI_1, sumN, fR]
    by_cases h1 : tm m r i = 0
    · simp [h1]
    · by_cases h2 : nI i = bt
      · simp [h1, h2]
      · by_cases h3 : tm m r i ≤ 0
        · by_cases h4 : (0 : Int32) = gr <;> simp [h1, h2, h3, h4]
        · by_cases h4 : (1 : Int32) = gr <;> simp [h1, h2, h3, h4]) (by
    simp only [X5_reach_L6, h.1.1, Int32.le_refl, if_true]) (f := 5000) (by omega)
  have e2 : iter (X5_reach_L6 w (nI r) bt gr) 5000 (0, 0) = some (sumN (fR m r bt gr) C) := e
  simp only [X5_reach, e2, Option.bind_some]
theorem rf_term (h : Rl C R F N w m) {r c : Nat} (hr : r < R) (hc : c < C) : X9_isTerm m (nI r) (nI c) = some (if tm m r c = 0 then 0 else 1) := by
  have hC := h.C12
  have hR := h.R12
  have hr12 : r < 12 := by omega
  have hc12 : c < 12 := by omega
  simp only [X9_isTerm, ix144, inR12 hc12, cl12 hc12, inR144 hr12 hc12, cl144 hr12 hc12, tm, if_true]
  by_cases h1 : gM_state m c = 0
  · by_cases h2 : gM_coef m (12 * r + c) = 0 <;> simp [h1, h2]
  · simp [h1]
theorem tm_coef {r c : Nat} (h : tm m r c ≠ 0) : gM_coef m (12 * r + c) = tm m r c := by
  unfold tm at *
  by_cases h1 : gM_state m c = 0
  · rw [if_pos h1]
  · rw [if_neg h1] at h; exact absurd rfl h
theorem rf_end (h : Rl C R F N w m) {r : Nat} (hr : r < R) (bt gr : Int32) : X9_end m (nI r) bt gr = some (sumN (fR m r bt gr) C) := by
  have hC := h.C12
  have hR := h.R12
  have hr12 : r < 12 := by omega
  have e := iter_to (step := X9_end_L6 m (nI r) bt gr) C (fun i => (sumN (fR m r bt gr) i, nI i)) (sumN (fR m r bt gr) C) (fun i hi => by
    have hi12 : i < 12 := by omega
    have hn : ¬ nI C ≤ nI i := by rw [nle (by omega) (by omega)]; omega
    have ht := rf_term h hr hi
    simp only [X9_end_L6, X9_end_J87, X9_end_J82, X9_end_J61, h.1.2.2.1, hn, ht, ix144, inR144 hr12 hi12, cl144 hr12 hi12, inR12 hi12, cl12 hi12, if_true, if_false, nI_1, sumN, fR, Option.bind_some]
    by_cases h1 : tm m r i = 0
    · by_cases h2 : nI i = bt <;> simp [h1, h2]
    · rw [tm_coef h1]
      by_cases h2 : nI i = bt
      · simp [h1, h2]
      · by_cases h3 : tm m r i ≤ 0
        · by_cases h4 : (0 : Int32) = gr
          · subst h4; simp only [h1, h2, h3, i10, if_true, if_false]
          · simp only [h1, h2, h3, h4, i10, if_true, if_false]
        · by_cases h4 : (1 : Int32) = gr
          · subst h4; simp only [h1, h2, h3, i10, if_true, if_false]
          · simp only [h1, h2, h3, h4, i10, if_true, if_false]) (by
    simp only [X9_end_L6, h.1.2.2.1, Int32.le_refl, if_true]) (f := 5000) (by omega)
  have e2 : iter (X9_end_L6 m (nI r) bt gr) 5000 (0, 0) = some (sumN (fR m r bt gr) C) := e
  simp only [X9_end, e2, Option.bind_some]
theorem cl_reachRest (h : Rl C R F N w m) {r : Nat} (hr : r < R) (hg : gM_gone m r = 0) (bt gr : Int32) : X5_reachRest w (nI r) bt gr = some (orN (fS m r bt gr) C) := by
  have hC := h.C12
  have hR := h.R12
  have hr12 : r < 12 := by omega
  have e := iter_to (step := X5_reachRest_L6 w (nI r) bt gr) C (fun i => (orN (fS m r bt gr) i, nI i)) (orN (fS m r bt gr) C) (fun i hi => by
    have hi12 : i < 12 := by omega
    have ha := h.a hr hg hi
    have hl := (h.2.2.1 i hi).1.2.2.2.2.1
    have hh := (h.2.2.1 i hi).1.2.2.2.2.2
    have hn : ¬ nI C ≤ nI i := by rw [nle (by omega) (by omega)]; omega
    simp only [X5_reachRest_L6, X5_reachRest_J83, X5_reachRest_J80, X5_reachRest_J59, h.1.1, hn, inR12 hr12, inR12 hi12, cl12 hr12, cl12 hi12, ha, hl, hh, if_true, if_false, nI_1, orN, fS]
    by_cases h1 : tm m r i = 0
    · simp [h1]
    · by_cases h2 : nI i = bt
      · simp [h1, h2]
      · by_cases h3 : tm m r i ≤ 0
        · by_cases h4 : (0 : Int32) = gr <;> simp [h1, h2, h3, h4]
        · by_cases h4 : (1 : Int32) = gr <;> simp [h1, h2, h3, h4]) (by
    simp only [X5_reachRest_L6, h.1.1, Int32.le_refl, if_true]) (f := 5000) (by omega)
  have e2 : iter (X5_reachRest_L6 w (nI r) bt gr) 5000 (0, 0) = some (orN (fS m r bt gr) C) := e
  simp only [X5_reachRest, e2, Option.bind_some]
theorem rf_from (h : Rl C R F N w m) {r : Nat} (hr : r < R) (bt gr : Int32) : X9_from m (nI r) bt gr = some (orN (fS m r bt gr) C) := by
  have hC := h.C12
  have hR := h.R12
  have hr12 : r < 12 := by omega
  have e := iter_to (step := X9_from_L6 m (nI r) bt gr) C (fun i => (orN (fS m r bt gr) i, nI i)) (orN (fS m r bt gr) C) (fun i hi => by
    have hi12 : i < 12 := by omega
    have hn : ¬ nI C ≤ nI i := by rw [nle (by omega) (by omega)]; omega
    have ht := rf_term h hr hi
    simp only [X9_from_L6, X9_from_J79, X9_from_J76, X9_from_J55, h.1.2.2.1, hn, ht, ix144, inR144 hr12 hi12, cl144 hr12 hi12, inR12 hi12, cl12 hi12, if_true, if_false, nI_1, orN, fS, Option.bind_some]
    by_cases h1 : tm m r i = 0
    · by_cases h2 : nI i = bt <;> simp [h1, h2]
    · rw [tm_coef h1]
      by_cases h2 : nI i = bt
      · simp [h1, h2]
      · by_cases h3 : tm m r i ≤ 0
        · by_cases h4 : (0 : Int32) = gr
          · subst h4; simp only [h1, h2, h3, i10, if_true, if_false]
          · simp only [h1, h2, h3, h4, i10, if_true, if_false]
        · by_cases h4 : (1 : Int32) = gr
          · subst h4; simp only [h1, h2, h3, i10, if_true, if_false]
          · simp only [h1, h2, h3, h4, i10, if_true, if_false]) (by
    simp only [X9_from_L6, h.1.2.2.1, Int32.le_refl, if_true]) (f := 5000) (by omega)
  have e2 : iter (X9_from_L6 m (nI r) bt gr) 5000 (0, 0) = some (orN (fS m r bt gr) C) := e
  simp only [X9_from, e2, Option.bind_some]
/-- is there a term -/
def isT (m : MW) (r : Nat) (c : Nat) : Bool := !(decide (tm m r c = 0))
theorem cl_count (h : Rl C R F N w m) {r : Nat} (hr : r < R) (hg : gM_gone m r = 0) : X6_countTerms (gC_tab w) (nI r) = some (nI (cntN (isT m r) C)) := by
  have hC := h.C12
  have hR := h.R12
  have hr12 : r < 12 := by omega
  have e := iter_to (step := X6_countTerms_L4 (gC_tab w) (nI r)) C (fun i => (nI (cntN (isT m r) i), nI i)) (nI (cntN (isT m r) C)) (fun i hi => by
    have hi12 : i < 12 := by omega
    have ha := h.a hr hg hi
    have hn : ¬ nI C ≤ nI i := by rw [nle (by omega) (by omega)]; omega
    simp only [X6_countTerms_L4, X6_countTerms_J28, h.1.1, hn, inR12 hr12, inR12 hi12, cl12 hr12, cl12 hi12, ha, if_true, if_false, nI_1, cntN, isT]
    by_cases h1 : tm m r i = 0 <;> simp [h1]) (by
    simp only [X6_countTerms_L4, h.1.1, Int32.le_refl, if_true]) (f := 5000) (by omega)
  have e2 : iter (X6_countTerms_L4 (gC_tab w) (nI r)) 5000 (0, 0) = some (nI (cntN (isT m r) C)) := e
  simp only [X6_countTerms, e2, Option.bind_some]
theorem rf_terms (h : Rl C R F N w m) {r : Nat} (hr : r < R) : X9_terms m (nI r) = some (nI (cntN (isT m r) C)) := by
  have hC := h.C12
  have hR := h.R12
  have hr12 : r < 12 := by omega
  have e := iter_to (step := X9_terms_L4 m (nI r)) C (fun i => (nI (cntN (isT m r) i), nI i)) (nI (cntN (isT m r) C)) (fun i hi => by
    have hi12 : i < 12 := by omega
    have hn : ¬ nI C ≤ nI i := by rw [nle (by omega) (by omega)]; omega
    have ht := rf_term h hr hi
    simp only [X9_terms_L4, X9_terms_J27, h.1.2.2.1, hn, ht, if_false, nI_1, cntN, isT, Option.bind_some]
    by_cases h1 : tm m r i = 0
    · simp [h1]
    · simp [h1, nI_1]) (by
    simp only [X9_terms_L4, h.1.2.2.1, Int32.le_refl, if_true]) (f := 5000) (by omega)
  have e2 : iter (X9_terms_L4 m (nI r)) 5000 (0, 0) = some (nI (cntN (isT m r) C)) := e
  simp only [X9_terms, e2, Option.bind_some]
/-- the first term from i on -/
def nx (m : MW) (C r i : Nat) : Nat := fstN (isT m r) (C - i) i
theorem cl_next (h : Rl C R F N w m) {r : Nat} (hr : r < R) (hg : gM_gone m r = 0) {i : Nat} (hi : i ≤ C) : X6_nextTerm (gC_tab w) (nI r) (nI i) = some (if nx m C r i < C then nI (nx m C r i) else -1) := by
  have hC := h.C12
  have hR := h.R12
  have hr12 : r < 12 := by omega
  obtain ⟨s1, s2, s3, s4⟩ := fstN_spec (isT m r) (C - i) i
  change i ≤ nx m C r i at s1
  change nx m C r i ≤ i + (C - i) at s2
  change ∀ j, i ≤ j → j < nx m C r i → isT m r j = false at s3
  change nx m C r i < i + (C - i) → isT m r (nx m C r i) = true at s4
  have stp : ∀ j, j < C → X6_nextTerm_L2 (gC_tab w) (nI r) (nI j) = if tm m r j = 0 then some (.inl (nI (j + 1))) else some (.inr (.inl (nI j))) := fun j hj => by
    have hj12 : j < 12 := by omega
    have ha := h.a hr hg hj
    have hn : ¬ nI C ≤ nI j := by rw [nle (by omega) (by omega)]; omega
    simp only [X6_nextTerm_L2, h.1.1, hn, inR12 hr12, inR12 hj12, cl12 hr12, cl12 hj12, ha, if_true, if_false, nI_1]
  by_cases hk : nx m C r i < C
  · have e := iter_to (step := X6_nextTerm_L2 (gC_tab w) (nI r)) (nx m C r i - i) (fun j => nI (i + j)) (.inl (nI (nx m C r i))) (fun j hj => by
      have := s3 (i + j) (by omega) (by omega)
      rw [stp (i + j) (by omega), if_pos (by simpa [isT] using this)]
      rfl) (by
      have := s4 (by omega)
      show X6_nextTerm_L2 (gC_tab w) (nI r) (nI (i + (nx m C r i - i))) = _
      rw [show i + (nx m C r i - i) = nx m C r i by omega, stp _ hk, if_neg (by simpa [isT] using this)]) (f := 5000) (by omega)
    have e2 : iter (X6_nextTerm_L2 (gC_tab w) (nI r)) 5000 (nI i) = some (.inl (nI (nx m C r i))) := e
    simp only [X6_nextTerm, e2, Option.bind_some, Sum.elim_inl, hk, if_true]
  · have e := iter_to (step := X6_nextTerm_L2 (gC_tab w) (nI r)) (C - i) (fun j => nI (i + j)) (.inr ()) (fun j hj => by
      have := s3 (i + j) (by omega) (by omega)
      rw [stp (i + j) (by omega), if_pos (by simpa [isT] using this)]
      rfl) (by
      show X6_nextTerm_L2 (gC_tab w) (nI r) (nI (i + (C - i))) = _
      rw [show i + (C - i) = C by omega]
      simp only [X6_nextTerm_L2, h.1.1, Int32.le_refl, if_true]) (f := 5000) (by omega)
    have e2 : iter (X6_nextTerm_L2 (gC_tab w) (nI r)) 5000 (nI i) = some (.inr ()) := e
    simp only [X6_nextTerm, e2, Option.bind_some, Sum.elim_inr, hk, if_false]
theorem nx_spec (m : MW) {C r i : Nat} (hi : i ≤ C) : i ≤ nx m C r i ∧ nx m C r i ≤ C ∧ (∀ j, i ≤ j → j < nx m C r i → tm m r j = 0) ∧ (nx m C r i < C → tm m r (nx m C r i) ≠ 0) := by
  obtain ⟨s1, s2, s3, s4⟩ := fstN_spec (isT m r) (C - i) i
  change i ≤ nx m C r i at s1
  change nx m C r i ≤ i + (C - i) at s2
  change ∀ j, i ≤ j → j < nx m C r i → isT m r j = false at s3
  change nx m C r i < i + (C - i) → isT m r (nx m C r i) = true at s4
  exact ⟨s1, by omega, fun j h1 h2 => by simpa [isT] using s3 j h1 h2, fun h => by simpa [isT] using s4 (by omega)⟩
end RD
