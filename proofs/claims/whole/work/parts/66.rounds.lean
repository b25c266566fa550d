/-! rounds -/
def Fk (F : FR) (k : Int32) : FR := (F.1, F.2.1, F.2.2.1, F.2.2.2.1, F.2.2.2.2.1, k)
theorem bit01 (x : Int32) : x &&& 1 = 0 ∨ x &&& 1 = 1 := by
  have e : (x &&& 1).toBitVec = (BitVec.ofBool (x.toBitVec.getLsbD 0)).setWidth 32 := by
    rw [Int32.toBitVec_and]; exact BitVec.and_one_eq_setWidth_ofBool_getLsbD
  cases hb : x.toBitVec.getLsbD 0
  · left; apply Int32.toBitVec_inj.mp; rw [e, hb] <;> rfl
  · right; apply Int32.toBitVec_inj.mp; rw [e, hb] <;> rfl
section SG
variable {C R : Nat} {F : FR} {N : Nat} {w : CW} {m : MW}
theorem Rl_rule (h : Rl C R F N w m) (k : Int32) : Rl C R (Fk F k) N (sC_rule w k) m := ⟨h.1, ⟨h.2.1.1, h.2.1.2.1, h.2.1.2.2.1, h.2.1.2.2.2.1, h.2.1.2.2.2.2.1, rfl⟩, h.2.2.1, h.2.2.2.1, h.2.2.2.2.1, h.2.2.2.2.2.1, h.2.2.2.2.2.2.1, h.2.2.2.2.2.2.2⟩
theorem StO_wrap {x : Option (Int32 × CW)} {y : Option MW} (h : StO C R F N x y) : StO C R F N (x.bind (fun z : Int32 × CW => (if isB z.1 = true then some (z.1, z.2) else none))) (y.bind (fun z : MW => some z)) := by
  obtain ⟨b, w', m', h1, h2, h3, h4⟩ := h
  subst h1 h2
  refine ⟨b, w', m', ?_, rfl, h3, h4⟩
  simp only [Option.bind_some, isBg h4, if_true]
theorem s_row (h : Rl C R F N w m) (hN : N + 30 < 1000000) (hcert : gM_certificate m = -1) {k : Int32} (hk : k = 1 ∨ k = 2 ∨ k = 3 ∨ k = 4 ∨ k = 5 ∨ k = 7 ∨ k = 9 ∨ k = 10) (hru : F.2.2.2.2.2 = k) {r : Nat} (hr : r < R) (hg : gM_gone m r = 0) : StO C R F (N + 30) (X3_doRule_J34 k (nI r) w) (X9_byRow m k (nI r)) := by
  rcases hk with rfl | rfl | rfl | rfl | rfl | rfl | rfl | rfl
  · have e := StO_wrap (r_empty h hN hcert hru hr hg)
    simpa only [X3_doRule_J34, X9_byRow, if_true] using e
  · have e := StO_wrap (r_shared h hN hcert hru hr hg)
    simpa only [X3_doRule_J34, X9_byRow, show ((2 : Int32) = 1) = False from by decide, if_true, if_false] using e
  · have e := StO_wrap (r_single h hN hcert hru hr hg)
    simpa only [X3_doRule_J34, X9_byRow, show ((3 : Int32) = 1) = False from by decide, show ((3 : Int32) = 2) = False from by decide, if_true, if_false] using e
  · have e := StO_wrap (r_span h hN hcert hru hr hg)
    simpa only [X3_doRule_J34, X9_byRow, show ((4 : Int32) = 1) = False from by decide, show ((4 : Int32) = 2) = False from by decide, show ((4 : Int32) = 3) = False from by decide, if_true, if_false] using e
  · have e := StO_wrap (r_tight h hN hcert hru hr hg)
    simpa only [X3_doRule_J34, X9_byRow, show ((5 : Int32) = 1) = False from by decide, show ((5 : Int32) = 2) = False from by decide, show ((5 : Int32) = 3) = False from by decide, show ((5 : Int32) = 4) = False from by decide, if_true, if_false] using e
  · have e := StO_wrap (r_twins h hN hcert hru hr hg)
    simpa only [X3_doRule_J34, X9_byRow, show ((7 : Int32) = 1) = False from by decide, show ((7 : Int32) = 2) = False from by decide, show ((7 : Int32) = 3) = False from by decide, show ((7 : Int32) = 4) = False from by decide, show ((7 : Int32) = 5) = False from by decide, show ((7 : Int32) = 6) = False from by decide, if_true, if_false] using e
  · have e := StO_wrap (r_puts h hN hcert hru hr hg)
    simpa only [X3_doRule_J34, X9_byRow, show ((9 : Int32) = 1) = False from by decide, show ((9 : Int32) = 2) = False from by decide, show ((9 : Int32) = 3) = False from by decide, show ((9 : Int32) = 4) = False from by decide, show ((9 : Int32) = 5) = False from by decide, show ((9 : Int32) = 6) = False from by decide, show ((9 : Int32) = 7) = False from by decide, show ((9 : Int32) = 8) = False from by decide, if_true, if_false] using e
  · have e := StO_wrap (r_less h hN hcert hru hr hg)
    simpa only [X3_doRule_J34, X9_byRow, show ((10 : Int32) = 1) = False from by decide, show ((10 : Int32) = 2) = False from by decide, show ((10 : Int32) = 3) = False from by decide, show ((10 : Int32) = 4) = False from by decide, show ((10 : Int32) = 5) = False from by decide, show ((10 : Int32) = 6) = False from by decide, show ((10 : Int32) = 7) = False from by decide, show ((10 : Int32) = 8) = False from by decide, show ((10 : Int32) = 9) = False from by decide, if_true, if_false] using e
theorem s_col (h : Rl C R F N w m) (hN : N + 30 < 1000000) (hcert : gM_certificate m = -1) {k : Int32} (hk : k = 6 ∨ k = 8 ∨ k = 11) (hru : F.2.2.2.2.2 = k) {c : Nat} (hc : c < C) (hs : gM_state m c = 0) : StO C R F (N + 30) (X3_doRule_J34 k (nI c) w) (X9_byColumn m k (nI c)) := by
  rcases hk with rfl | rfl | rfl
  · have e := StO_wrap (r_fix h hN hcert hru hc hs)
    simpa only [X3_doRule_J34, X9_byColumn, show ((6 : Int32) = 1) = False from by decide, show ((6 : Int32) = 2) = False from by decide, show ((6 : Int32) = 3) = False from by decide, show ((6 : Int32) = 4) = False from by decide, show ((6 : Int32) = 5) = False from by decide, if_true, if_false] using e
  · have e := StO_wrap (r_side h hN hcert hru hc hs)
    simpa only [X3_doRule_J34, X9_byColumn, show ((8 : Int32) = 1) = False from by decide, show ((8 : Int32) = 2) = False from by decide, show ((8 : Int32) = 3) = False from by decide, show ((8 : Int32) = 4) = False from by decide, show ((8 : Int32) = 5) = False from by decide, show ((8 : Int32) = 6) = False from by decide, show ((8 : Int32) = 7) = False from by decide, if_true, if_false] using e
  · have e := StO_wrap (r_free h hN hcert hru hc hs)
    simpa only [X3_doRule_J34, X9_byColumn, show ((11 : Int32) = 1) = False from by decide, show ((11 : Int32) = 2) = False from by decide, show ((11 : Int32) = 3) = False from by decide, show ((11 : Int32) = 4) = False from by decide, show ((11 : Int32) = 5) = False from by decide, show ((11 : Int32) = 6) = False from by decide, show ((11 : Int32) = 7) = False from by decide, show ((11 : Int32) = 8) = False from by decide, show ((11 : Int32) = 9) = False from by decide, show ((11 : Int32) = 10) = False from by decide, if_true, if_false] using e
theorem cl_doRow (h : Rl C R F N w m) {k : Int32} (hk : X3_isByColumns k = some 0) {r : Nat} (hr : r < R) : X3_doRule w k (nI r) = if gM_gone m r = 0 then X3_doRule_J34 k (nI r) w else some (1, w) := by
  simp only [X3_doRule, hk, Option.bind_some, if_true, cl_gone h hr]
  by_cases hg : gM_gone m r = 0
  · simp only [hg, if_true]
  · simp only [hg, if_false, i10]
theorem cl_doCol (h : Rl C R F N w m) {k : Int32} (hk : X3_isByColumns k = some 1) {c : Nat} (hc : c < C) : X3_doRule w k (nI c) = if gM_state m c = 0 then X3_doRule_J34 k (nI c) w else some (1, w) := by
  have hc12 : c < 12 := by have := h.C12; omega
  simp only [X3_doRule, hk, Option.bind_some, i10, if_false, X6_isThere, inR12 hc12, cl12 hc12, if_true, (h.2.2.1 c hc).1.1]
  by_cases hg : gM_state m c = 0
  · simp only [hg, if_true, Option.bind_some, i10, if_false]
  · simp only [hg, if_false, Option.bind_some, if_true]
theorem noL26 {m : MW} (hcert : gM_certificate m ≠ -1) (hR : gM_rows m = nI R) (hR12 : R ≤ 12) (k : Int32) {i d f : Nat} (hid : i + d = R) (hf : d < f) : iter (X9_rule_L26 k 0) f (m, nI i) = some m := by
  have e := iter_to (step := X9_rule_L26 k 0) d (fun j => (m, nI (i + j))) m (fun j hj => by
    have hi12 : i + j < 12 := by omega
    simp only [X9_rule_L26, hR, nC_le hR12 (show i + j < R by omega), if_false, if_true, inR12 hi12, cl12 hi12, rf_no hcert, Option.bind_some, X9_rule_J60, nI_1]
    split <;> rfl) (by
    show X9_rule_L26 k 0 (m, nI (i + d)) = _
    rw [hid]; simp only [X9_rule_L26, hR, Int32.le_refl, if_true]) hf
  exact e
theorem noL68 {m : MW} (hcert : gM_certificate m ≠ -1) (hC : gM_columns m = nI C) (hC12 : C ≤ 12) (k : Int32) {i d f : Nat} (hid : i + d = C) (hf : d < f) : iter (X9_rule_L68 k 1) f (m, nI i) = some m := by
  have e := iter_to (step := X9_rule_L68 k 1) d (fun j => (m, nI (i + j))) m (fun j hj => by
    have hi12 : i + j < 12 := by omega
    simp only [X9_rule_L68, hC, nC_le hC12 (show i + j < C by omega), if_false, i10, if_true, inR12 hi12, cl12 hi12, rf_no hcert, Option.bind_some, X9_rule_J102, nI_1]
    split <;> rfl) (by
    show X9_rule_L68 k 1 (m, nI (i + d)) = _
    rw [hid]; simp only [X9_rule_L68, hC, Int32.le_refl, if_true]) hf
  exact e
def endOK (C R : Nat) (F : FR) (N : Nat) (ea : CW ⊕ CW) (eb : MW) : Prop := (∃ w', ea = .inl w' ∧ Rl C R F N w' eb ∧ gM_certificate eb ≠ -1) ∨ (∃ w', ea = .inr w' ∧ Rl C R F N w' eb ∧ gM_certificate eb = -1)
theorem rows_sim (h : Rl C R F N w m) (hN : N + 400 < 1000000) (hcert : gM_certificate m = -1) {k : Int32} (hk : k = 1 ∨ k = 2 ∨ k = 3 ∨ k = 4 ∨ k = 5 ∨ k = 7 ∨ k = 9 ∨ k = 10) (hru : F.2.2.2.2.2 = k) (hb : X3_isByColumns k = some 0) : ∃ ea eb, iter (X3_doRound_L54 k (nI R)) 5000 (w, 0) = some ea ∧ iter (X9_rule_L26 k 0) 5000 (m, 0) = some eb ∧ endOK C R F (N + 360) ea eb := by
  have hR := h.R12
  refine iter_sim (fun d a b => ∃ i w m, i + d = R ∧ a = (w, nI i) ∧ b = (m, nI i) ∧ Rl C R F (N + 30 * i) w m ∧ gM_certificate m = -1) (endOK C R F (N + 360)) (fun d a b hI => ?_) R 5000 5000 (w, 0) (m, 0) (by omega) (by omega) ⟨0, w, m, by omega, rfl, rfl, h, hcert⟩
  obtain ⟨i, w, m, hid, rfl, rfl, h', hc⟩ := hI
  by_cases hi : i < R
  · have hi12 : i < 12 := by omega
    by_cases hg : gM_gone m i = 0
    · obtain ⟨b, w', m', x1, x2, x3, x4⟩ := s_row h' (by omega) hc hk hru hi hg
      have st : X9_rule_L26 k 0 (m, nI i) = some (.inl (m', nI (i + 1))) := by
        simp only [X9_rule_L26, h'.1.2.2.2.1, nC_le hR hi, if_false, if_true, inR12 hi12, cl12 hi12, hg, rf_go hc, Option.bind_some, i10, x2, X9_rule_J60, nI_1]
      rcases good_cases x4 with ⟨rfl, c1⟩ | ⟨rfl, c1⟩
      · exact Or.inl ⟨(w', nI (i + 1)), (m', nI (i + 1)), by simp only [X3_doRound_L54, nC_le hR hi, if_false, cl_doRow h' hb hi, hg, if_true, x1, Option.bind_some, i10, nI_1], st, d - 1, by omega, i + 1, w', m', by omega, rfl, rfl, x3.mono (by omega), c1⟩
      · refine Or.inr ⟨.inl w', by simp only [X3_doRound_L54, nC_le hR hi, if_false, cl_doRow h' hb hi, hg, if_true, x1, Option.bind_some], fun f hf => ⟨m', ?_, Or.inl ⟨w', rfl, x3.mono (by omega), c1⟩⟩⟩
        obtain ⟨f, rfl⟩ : ∃ g, f = g + 1 := ⟨f - 1, by omega⟩
        rw [iter_in st]
        exact noL26 (d := d - 1) c1 x3.1.2.2.2.1 hR k (by omega) (by omega)
    · exact Or.inl ⟨(w, nI (i + 1)), (m, nI (i + 1)), by simp only [X3_doRound_L54, nC_le hR hi, if_false, cl_doRow h' hb hi, hg, Option.bind_some, i10, nI_1], by simp only [X9_rule_L26, h'.1.2.2.2.1, nC_le hR hi, if_false, if_true, inR12 hi12, cl12 hi12, hg, X9_rule_J60, nI_1], d - 1, by omega, i + 1, w, m, by omega, rfl, rfl, h'.mono (by omega), hc⟩
  · have e : i = R := by omega
    subst e
    exact Or.inr ⟨.inr w, by simp only [X3_doRound_L54, Int32.le_refl, if_true], fun f hf => ⟨m, iter_end (by simp only [X9_rule_L26, h'.1.2.2.2.1, Int32.le_refl, if_true]) (by omega), Or.inr ⟨w, rfl, h'.mono (by omega), hc⟩⟩⟩
theorem cols_sim (h : Rl C R F N w m) (hN : N + 400 < 1000000) (hcert : gM_certificate m = -1) {k : Int32} (hk : k = 6 ∨ k = 8 ∨ k = 11) (hru : F.2.2.2.2.2 = k) (hb : X3_isByColumns k = some 1) : ∃ ea eb, iter (X3_doRound_L54 k (nI C)) 5000 (w, 0) = some ea ∧ iter (X9_rule_L68 k 1) 5000 (m, 0) = some eb ∧ endOK C R F (N + 360) ea eb := by
  have hC := h.C12
  refine iter_sim (fun d a b => ∃ i w m, i + d = C ∧ a = (w, nI i) ∧ b = (m, nI i) ∧ Rl C R F (N + 30 * i) w m ∧ gM_certificate m = -1) (endOK C R F (N + 360)) (fun d a b hI => ?_) C 5000 5000 (w, 0) (m, 0) (by omega) (by omega) ⟨0, w, m, by omega, rfl, rfl, h, hcert⟩
  obtain ⟨i, w, m, hid, rfl, rfl, h', hc⟩ := hI
  by_cases hi : i < C
  · have hi12 : i < 12 := by omega
    by_cases hg : gM_state m i = 0
    · obtain ⟨b, w', m', x1, x2, x3, x4⟩ := s_col h' (by omega) hc hk hru hi hg
      have st : X9_rule_L68 k 1 (m, nI i) = some (.inl (m', nI (i + 1))) := by
        simp only [X9_rule_L68, h'.1.2.2.1, nC_le hC hi, if_false, if_true, inR12 hi12, cl12 hi12, hg, rf_go hc, Option.bind_some, i10, x2, X9_rule_J102, nI_1]
      rcases good_cases x4 with ⟨rfl, c1⟩ | ⟨rfl, c1⟩
      · exact Or.inl ⟨(w', nI (i + 1)), (m', nI (i + 1)), by simp only [X3_doRound_L54, nC_le hC hi, if_false, cl_doCol h' hb hi, hg, if_true, x1, Option.bind_some, i10, nI_1], st, d - 1, by omega, i + 1, w', m', by omega, rfl, rfl, x3.mono (by omega), c1⟩
      · refine Or.inr ⟨.inl w', by simp only [X3_doRound_L54, nC_le hC hi, if_false, cl_doCol h' hb hi, hg, if_true, x1, Option.bind_some], fun f hf => ⟨m', ?_, Or.inl ⟨w', rfl, x3.mono (by omega), c1⟩⟩⟩
        obtain ⟨f, rfl⟩ : ∃ g, f = g + 1 := ⟨f - 1, by omega⟩
        rw [iter_in st]
        exact noL68 (d := d - 1) c1 x3.1.2.2.1 hC k (by omega) (by omega)
    · exact Or.inl ⟨(w, nI (i + 1)), (m, nI (i + 1)), by simp only [X3_doRound_L54, nC_le hC hi, if_false, cl_doCol h' hb hi, hg, Option.bind_some, i10, nI_1], by simp only [X9_rule_L68, h'.1.2.2.1, nC_le hC hi, if_false, if_true, inR12 hi12, cl12 hi12, hg, i10, X9_rule_J102, nI_1], d - 1, by omega, i + 1, w, m, by omega, rfl, rfl, h'.mono (by omega), hc⟩
  · have e : i = C := by omega
    subst e
    exact Or.inr ⟨.inr w, by simp only [X3_doRound_L54, Int32.le_refl, if_true], fun f hf => ⟨m, iter_end (by simp only [X9_rule_L68, h'.1.2.2.1, Int32.le_refl, if_true]) (by omega), Or.inr ⟨w, rfl, h'.mono (by omega), hc⟩⟩⟩
theorem s_rule (h : Rl C R F N w m) (hN : N + 400 < 1000000) (hcert : gM_certificate m = -1) {k : Int32} (hk : (k = 1 ∨ k = 2 ∨ k = 3 ∨ k = 4 ∨ k = 5 ∨ k = 7 ∨ k = 9 ∨ k = 10) ∨ (k = 6 ∨ k = 8 ∨ k = 11)) (hru : F.2.2.2.2.2 = k) : ∃ w' m', ((X3_isByColumns k).bind (fun r27 : Int32 => (if r27 = 0 then (X3_doRound_J50 w k (gT_rows (gC_tab w))) else (X3_doRound_J50 w k (gT_columns (gC_tab w)))))) = (if gM_certificate m' = -1 then some (.inl (w', k + 1)) else some (.inr (.inl w'))) ∧ X9_rule m k = some m' ∧ Rl C R F (N + 360) w' m' := by
  rcases hk with hk | hk
  · have hb : X3_isByColumns k = some 0 := by rcases hk with rfl | rfl | rfl | rfl | rfl | rfl | rfl | rfl <;> decide
    have hr : X9_rule m k = X9_rule_J23 k m 0 := by rcases hk with rfl | rfl | rfl | rfl | rfl | rfl | rfl | rfl <;> simp only [X9_rule] <;> (rw [if_neg (by decide), if_neg (by decide), if_neg (by decide)])
    obtain ⟨ea, eb, q1, q2, q3⟩ := rows_sim h hN hcert hk hru hb
    have q4 : iter (X9_rule_L68 k 0) 5000 (eb, 0) = some eb := iter_end (by
      simp only [X9_rule_L68, if_true]
      split <;> rfl) (by omega)
    rw [hr]
    simp only [hb, Option.bind_some, if_true, h.1.2.1, X3_doRound_J50, q1, X9_rule_J23, q2, q4]
    rcases q3 with ⟨w', e1, e2, e3⟩ | ⟨w', e1, e2, e3⟩
    · subst e1
      exact ⟨w', eb, by simp only [Sum.elim_inl, e3, if_false], rfl, e2⟩
    · subst e1
      exact ⟨w', eb, by simp only [Sum.elim_inr, e3, if_true, X3_doRound_J78], rfl, e2⟩
  · have hb : X3_isByColumns k = some 1 := by rcases hk with rfl | rfl | rfl <;> decide
    have hr : X9_rule m k = X9_rule_J23 k m 1 := by
      rcases hk with rfl | rfl | rfl
      · simp only [X9_rule, if_true, X9_rule_J18]
      · simp only [X9_rule, if_true, X9_rule_J18]; rw [if_neg (by decide)]
      · simp only [X9_rule, if_true, X9_rule_J18]; rw [if_neg (by decide), if_neg (by decide)]
    obtain ⟨ea, eb, q1, q2, q3⟩ := cols_sim h hN hcert hk hru hb
    have q4 : iter (X9_rule_L26 k 1) 5000 (m, 0) = some m := iter_end (by
      simp only [X9_rule_L26, i10, if_false]
      split <;> rfl) (by omega)
    rw [hr]
    simp only [hb, Option.bind_some, i10, if_false, h.1.1, X3_doRound_J50, q1, X9_rule_J23, q2, q4]
    rcases q3 with ⟨w', e1, e2, e3⟩ | ⟨w', e1, e2, e3⟩
    · subst e1
      exact ⟨w', eb, by simp only [Sum.elim_inl, e3, if_false], rfl, e2⟩
    · subst e1
      exact ⟨w', eb, by simp only [Sum.elim_inr, e3, if_true, X3_doRound_J78], rfl, e2⟩
theorem ks {k : Nat} (h1 : 1 ≤ k) (h2 : k ≤ 11) : (nI k = 1 ∨ nI k = 2 ∨ nI k = 3 ∨ nI k = 4 ∨ nI k = 5 ∨ nI k = 7 ∨ nI k = 9 ∨ nI k = 10) ∨ (nI k = 6 ∨ nI k = 8 ∨ nI k = 11) := by
  have : k = 1 ∨ k = 2 ∨ k = 3 ∨ k = 4 ∨ k = 5 ∨ k = 6 ∨ k = 7 ∨ k = 8 ∨ k = 9 ∨ k = 10 ∨ k = 11 := by omega
  rcases this with rfl | rfl | rfl | rfl | rfl | rfl | rfl | rfl | rfl | rfl | rfl <;> decide
theorem noL74 {m : MW} (hcert : gM_certificate m ≠ -1) (a0 : Int32) {i d f : Nat} (hid : i + d = 12) (hf : d < f) : iter (X9_shrink_L74 a0) f (m, nI i) = some m := by
  have e := iter_to (step := X9_shrink_L74 a0) d (fun j => (m, nI (i + j))) m (fun j hj => by
    have hk : ¬ (11 : Int32) < nI (i + j) := by rw [show (11 : Int32) = nI 11 from rfl, nlt (by omega) (by omega)]; omega
    simp only [X9_shrink_L74, hk, if_false, rf_no hcert, Option.bind_some, if_true, X9_shrink_J106, nI_1]
    split <;> rfl) (by
    show X9_shrink_L74 a0 (m, nI (i + d)) = _
    rw [hid]
    have hk : (11 : Int32) < nI 12 := by decide
    simp only [X9_shrink_L74, hk, if_true]) hf
  exact e
theorem s_round (h : Rl C R F N w m) (hN : N + 4400 < 1000000) (hcert : gM_certificate m = -1) (a0 : Int32) : ∃ b w' m' ru, X3_doRound w a0 = some (b, w') ∧ iter (X9_shrink_L74 a0) 5000 (m, 1) = some m' ∧ Rl C R (Fk F ru) (N + 3960) w' m' ∧ good b m' := by
  obtain ⟨ea, eb, q1, q2, q3⟩ := iter_sim (sa := X3_doRound_L2 a0) (sb := X9_shrink_L74 a0) (fun d a b => ∃ k w m ru, k + d = 12 ∧ 1 ≤ k ∧ a = (w, nI k) ∧ b = (m, nI k) ∧ Rl C R (Fk F ru) (N + 360 * (k - 1)) w m ∧ gM_certificate m = -1) (fun ea eb => ∃ ru, endOK C R (Fk F ru) (N + 3960) ea eb) (fun d a b hI => by
    obtain ⟨k, w, m, ru, hid, hk1, rfl, rfl, h', hc⟩ := hI
    by_cases hk : k ≤ 11
    · have hkn : ¬ (11 : Int32) < nI k := by rw [show (11 : Int32) = nI 11 from rfl, nlt (by omega) (by omega)]; omega
      rcases bit01 (a0 >>> ((nI k - 1) &&& 31)) with hb | hb
      · exact Or.inl ⟨(w, nI (k + 1)), (m, nI (k + 1)), by simp only [X3_doRound_L2, hkn, if_false, hb, if_true, X3_doRound_J78, nI_1], by simp only [X9_shrink_L74, hkn, if_false, hb, i01, X9_shrink_J106, nI_1], d - 1, by omega, k + 1, w, m, ru, by omega, by omega, rfl, rfl, h'.mono (by omega), hc⟩
      · obtain ⟨w', m', x1, x2, x3⟩ := s_rule (F := Fk (Fk F ru) (nI k)) (Rl_rule h' (nI k)) (by omega) hc (ks hk1 hk) rfl
        have st : X9_shrink_L74 a0 (m, nI k) = some (.inl (m', nI (k + 1))) := by
          simp only [X9_shrink_L74, hkn, if_false, hb, if_true, rf_go hc, Option.bind_some, i10, x2, X9_shrink_J106, nI_1]
        by_cases c1 : gM_certificate m' = -1
        · rw [if_pos c1] at x1
          exact Or.inl ⟨(w', nI (k + 1)), (m', nI (k + 1)), by simp only [X3_doRound_L2, hkn, if_false, hb, i10, bnd, x1, nI_1], st, d - 1, by omega, k + 1, w', m', nI k, by omega, by omega, rfl, rfl, x3.mono (by omega), c1⟩
        · rw [if_neg c1] at x1
          refine Or.inr ⟨.inl w', by simp only [X3_doRound_L2, hkn, if_false, hb, i10, bnd, x1], fun f hf => ⟨m', ?_, nI k, Or.inl ⟨w', rfl, x3.mono (by omega), c1⟩⟩⟩
          obtain ⟨f, rfl⟩ : ∃ g, f = g + 1 := ⟨f - 1, by omega⟩
          rw [iter_in st]
          exact noL74 (d := d - 1) c1 a0 (by omega) (by omega)
    · have e : k = 12 := by omega
      subst e
      have hkn : (11 : Int32) < nI 12 := by decide
      exact Or.inr ⟨.inr w, by simp only [X3_doRound_L2, hkn, if_true], fun f hf => ⟨m, iter_end (by simp only [X9_shrink_L74, hkn, if_true]) (by omega), ru, Or.inr ⟨w, rfl, h'.mono (by omega), hc⟩⟩⟩) 11 5000 5000 (w, 1) (m, 1) (by omega) (by omega) ⟨1, w, m, F.2.2.2.2.2, by omega, by omega, rfl, rfl, h, hcert⟩
  obtain ⟨ru, q3⟩ := q3
  rcases q3 with ⟨w', e1, e2, e3⟩ | ⟨w', e1, e2, e3⟩
  · subst e1
    exact ⟨0, w', eb, ru, by simp only [X3_doRound, q1, Option.bind_some, Sum.elim_inl], q2, e2, good_nope e3⟩
  · subst e1
    exact ⟨1, w', eb, ru, by simp only [X3_doRound, q1, Option.bind_some, Sum.elim_inr], q2, e2, good_yes e3⟩
theorem cnt_eq (h : Rl C R F N w m) : gC_count w = gM_acts m := by
  obtain ⟨k, -, h1, h2, -⟩ := h.2.2.2.2.1
  rw [h1, h2]
theorem s_rounds (h : Rl C R F 0 w m) (hcert : gM_certificate m = -1) (a0 : Int32) {n : Nat} (hn : n ≤ 50) : ∃ ea em, iter (X8_shrink_L57 a0 (nI n)) 5000 (w, 0, 1) = some ea ∧ iter (X9_shrink_L48 a0 (nI n)) 5000 (m, 0, 1) = some em ∧ ∃ ru w', Rl C R (Fk F ru) 198000 w' em.1 ∧ ((ea = .inl w' ∧ gM_certificate em.1 ≠ -1) ∨ (ea = .inr (w', em.2) ∧ gM_certificate em.1 = -1)) := by
  refine iter_sim (sa := X8_shrink_L57 a0 (nI n)) (sb := X9_shrink_L48 a0 (nI n)) (fun d a b => ∃ i x w m ru, i + d = n ∧ a = (w, nI i, x) ∧ b = (m, nI i, x) ∧ Rl C R (Fk F ru) (3960 * i) w m ∧ gM_certificate m = -1) (fun ea em => ∃ ru w', Rl C R (Fk F ru) 198000 w' em.1 ∧ ((ea = .inl w' ∧ gM_certificate em.1 ≠ -1) ∨ (ea = .inr (w', em.2) ∧ gM_certificate em.1 = -1))) (fun d a b hI => ?_) n 5000 5000 (w, 0, 1) (m, 0, 1) (by omega) (by omega) ⟨0, 1, w, m, F.2.2.2.2.2, by omega, rfl, rfl, h, hcert⟩
  obtain ⟨i, x, w, m, ru, hid, rfl, rfl, h', hc⟩ := hI
  by_cases hi : i < n
  · have hin : ¬ nI n ≤ nI i := by rw [nle (by omega) (by omega)]; omega
    by_cases hx : x = 0
    · exact Or.inr ⟨.inr (w, nI i), by simp only [X8_shrink_L57, hin, if_false, hx, if_true], fun f hf => ⟨(m, nI i), iter_end (by simp only [X9_shrink_L48, hx, if_true]) (by omega), ru, w, h'.mono (by omega), Or.inr ⟨rfl, hc⟩⟩⟩
    · obtain ⟨b, w', m', ru', x1, x2, x3, x4⟩ := s_round h' (by omega) hc a0
      have ce := cnt_eq h'
      have ce' := cnt_eq x3
      have st : X9_shrink_L48 a0 (nI n) (m, nI i, x) = some (.inl (m', nI (i + 1), if gM_acts m' ≤ gM_acts m then 0 else 1)) := by
        simp only [X9_shrink_L48, hx, if_false, hin, rf_go hc, Option.bind_some, i10, x2, X9_shrink_J129, nI_1]
        split <;> rfl
      rcases good_cases x4 with ⟨rfl, c1⟩ | ⟨rfl, c1⟩
      · refine Or.inl ⟨(w', nI (i + 1), if gM_acts m' ≤ gM_acts m then 0 else 1), _, ?_, st, d - 1, by omega, i + 1, _, w', m', ru', by omega, rfl, rfl, x3.mono (by omega), c1⟩
        simp only [X8_shrink_L57, hin, if_false, hx, x1, Option.bind_some, i10, ce, ce', X8_shrink_J112, nI_1]
        split <;> rfl
      · refine Or.inr ⟨.inl w', by simp only [X8_shrink_L57, hin, if_false, hx, x1, Option.bind_some, if_true], fun f hf => ⟨(m', nI (i + 1)), ?_, ru', w', x3.mono (by omega), Or.inl ⟨rfl, c1⟩⟩⟩
        obtain ⟨f, rfl⟩ : ∃ g, f = g + 1 := ⟨f - 1, by omega⟩
        rw [iter_in st]
        refine iter_end ?_ (by omega)
        simp only [X9_shrink_L48, rf_no c1, Option.bind_some, if_true, ite_self]
  · have e : i = n := by omega
    subst e
    refine Or.inr ⟨.inr (w, nI i), by simp only [X8_shrink_L57, Int32.le_refl, if_true], fun f hf => ⟨(m, nI i), iter_end (by simp only [X9_shrink_L48, Int32.le_refl, if_true]; split <;> rfl) (by omega), ru, w, h'.mono (by omega), Or.inr ⟨rfl, hc⟩⟩⟩
end SG
