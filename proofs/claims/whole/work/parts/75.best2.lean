/-! certified and best, as asked -/
theorem le4000 {n : Nat} (h : n ≤ 4000) : nI n ≤ (4000 : Int32) := by rw [show (4000 : Int32) = nI 4000 from rfl, nle (by omega) (by omega)]; exact h
section ST
variable {C R : Nat} {w : CW} {m : MW} {b : Bool}
theorem s_bestAll (hW : Wh C R w m) (hS : b = true → ∃ F N, Rl C R F N w m) (hT : TB b C R w m) : (X6_countPoints (gC_tb b (sC_hasBest w 0)) = some (-1) ∧ X9_best_J45 (bI b) (sM_hasBest (sM_thrown m 0) 0) = some (-1, (sM_hasBest (sM_thrown m 0) 0))) ∨ (∃ n wn rs s P hb lv bn be lv', n ≤ 4000 ∧ X6_countPoints (gC_tb b (sC_hasBest w 0)) = some (nI n) ∧ X8_findBest (sC_hasBest w 0) b (nI n) (ofB b m) = some (WB (sC_hasBest w 0) b wn rs s hb lv bn) ∧ X9_best_J45 (bI b) (sM_hasBest (sM_thrown m 0) 0) = some (hb, MB (sM_hasBest (sM_thrown m 0) 0) P hb be lv') ∧ BS C hb lv bn be lv') := by
  have hT1 : TB b C R (sC_hasBest w 0) (sM_hasBest (sM_thrown m 0) 0) := hT
  have hW1 : Wh C R (sC_hasBest w 0) (sM_hasBest (sM_thrown m 0) 0) := hW
  have hS1 : b = true → ∃ F N, Rl C R F N (sC_hasBest w 0) (sM_hasBest (sM_thrown m 0) 0) := fun hb => by
    obtain ⟨F, N, hR⟩ := hS hb
    obtain ⟨F', h'⟩ := Rl_fr (w' := (sC_hasBest w 0)) (m' := (sM_hasBest (sM_thrown m 0) 0)) hR rfl rfl rfl rfl rfl rfl
    exact ⟨F', N, h'⟩
  rcases s_points hT1 with ⟨p1, p2⟩ | ⟨n, hn, p1, p2⟩
  · refine Or.inl ⟨p1, ?_⟩
    have : ¬ (4001 : Int32) ≤ 4000 := by decide
    simp only [X9_best_J45, p2, Option.bind_some, this, if_false]
  · obtain ⟨wn, rs, s, b1, b2, b3⟩ := cl_beginAt hT1
    obtain ⟨P, f1, f2⟩ := rf_first hT1
    have pr := PR_first hT1 b3 f2
    obtain ⟨wn', rs', s', P', hb, lv2, bn', be', lv2', g1, g2, g3⟩ := s_best hW1 hS1 hT1 hn b2 pr (gC_leastValue w) (gC_bestNumbers w) (gM_best m) (gM_bestValue m)
    have g1' : iter (X8_findBest_L11 b (nI n) (ofB b m)) 5000 (WB (sC_hasBest w 0) b wn rs s (gC_hasBest (sC_hasBest w 0)) (gC_leastValue (sC_hasBest w 0)) (gC_bestNumbers (sC_hasBest w 0)), 0) = _ := g1
    have g2' : iter (X9_best_L67 (bI b) (nI n)) 5000 (sM_point (sM_hasBest (sM_thrown m 0) 0) P, 0) = _ := g2
    refine Or.inr ⟨n, wn', rs', s', P', hb, lv2, bn', be', lv2', hn, p1, ?_, ?_, g3⟩
    · simp only [X8_findBest, b1, Option.bind_some, g1']
    · simp only [X9_best_J45, p2, Option.bind_some, le4000 hn, if_true, f1, g2', mb_P, mb_hb, mb_be, mb_lv, mb_sP, mb_shb, mb_sbe, mb_slv, mb_C, mb_R, mb_los, mb_his, mb_cos, mb_lo, mb_hi, mb_st, mb_co, mb_of, mb_ce]
      rcases g3 with rfl | ⟨rfl, -⟩
      · exact if_pos rfl
      · exact if_neg (show ¬ (1 : Int32) = 0 by decide)
theorem Gl_best (h : Gl w m) : Gl (sC_hasBest w 0) (sM_hasBest (sM_thrown m 0) 0) := by
  obtain ⟨C, R, hW, hS, hP, hT, hB⟩ := h
  refine ⟨C, R, hW, ⟨hS.1, ?_⟩, hP, hT, ⟨rfl, Or.inl rfl⟩⟩
  rcases hS.2 with e | ⟨e, F, hF⟩
  · exact Or.inl e
  · exact Or.inr ⟨e, Rl_fr hF rfl rfl rfl rfl rfl rfl⟩
theorem Gl_walk (hW : Wh C R w m) (hS : Sm C R w m) (hP : Pt C w m) (hT : Tn C w m) {wn rs : Nat → Int64} {s : Int64} {P : Nat → Int32} {hb : Int32} {lv : Int64} {bn : Nat → Int64} {be : Nat → Int32} {lv' : Int64} (hB : BS C hb lv bn be lv') : Gl (WB w b wn rs s hb lv bn) (MB m P hb be lv') := by
  refine ⟨C, R, hW, ⟨hS.1, ?_⟩, hP, hT, ⟨rfl, ?_⟩⟩
  · rcases hS.2 with e | ⟨e, F, hF⟩
    · exact Or.inl e
    · exact Or.inr ⟨e, Rl_fr hF rfl rfl rfl rfl rfl rfl⟩
  · rcases hB with e | ⟨e, e2, e3⟩
    · exact Or.inl e
    · exact Or.inr ⟨e, e2, e3⟩
end ST
theorem o_best {w : CW} {m : MW} (h : Gl w m) (b : Bool) : OpW (X8_best w (bI b)) (X9_best m (bI b)) Ks := by
  have h' := h
  obtain ⟨C, R, hW, hS, hP, hT, hB⟩ := h'
  have gb := Gl_best h
  have hW1 : Wh C R (sC_hasBest w 0) (sM_hasBest (sM_thrown m 0) 0) := hW
  have hS1 : Sm C R (sC_hasBest w 0) (sM_hasBest (sM_thrown m 0) 0) := ⟨hS.1, by
    rcases hS.2 with e | ⟨e, F, hF⟩
    · exact Or.inl e
    · exact Or.inr ⟨e, Rl_fr hF rfl rfl rfl rfl rfl rfl⟩⟩
  have hP1 : Pt C (sC_hasBest w 0) (sM_hasBest (sM_thrown m 0) 0) := hP
  have hT1 : Tn C (sC_hasBest w 0) (sM_hasBest (sM_thrown m 0) 0) := hT
  have fin : ∀ (b : Bool) (hb : Int32), (hb = 0 ∨ hb = 1) → (if hb = 0 then (some (.inr (0, (sC_hasBest w 0))) : Option ((String × CW) ⊕ (Int32 × CW))) else some (.inr (1, (sC_hasBest w 0)))) = some (.inr (hb, (sC_hasBest w 0))) := fun b hb e => by
    rcases e with rfl | rfl
    · exact if_pos rfl
    · exact if_neg (show ¬ (1 : Int32) = 0 by decide)
  cases b
  · have tb : gC_tb false (sC_hasBest w 0) = gC_whole (sC_hasBest w 0) := rfl
    rcases s_bestAll (b := false) hW (fun z => absurd z (by decide)) (TB_w hW) with ⟨p1, p2⟩ | ⟨n, wn, rs, s, P, hb, lv, bn, be, lv', hn, p1, p2, p3, p4⟩
    · rw [tb] at p1
      refine Or.inr ⟨-1, (sC_hasBest w 0), (sM_hasBest (sM_thrown m 0) 0), ?_, ?_, rfl, gb⟩
      · simp only [show bI false = 0 from rfl, X8_best, if_true, X8_best_J8, bnd, X8_best_J29, p1, Option.bind_some]
      · have p2' : X9_best_J45 0 (sM_hasBest (sM_thrown m 0) 0) = _ := p2
        simp only [show bI false = 0 from rfl, X9_best, if_true, X9_best_J16, X9_best_J17, ps_00, Option.bind_some, i10, if_false, bnd, p2']
    · rw [tb] at p1
      have hb01 : hb = 0 ∨ hb = 1 := by rcases p4 with e | ⟨e, -⟩
                                        · exact Or.inl e
                                        · exact Or.inr e
      refine Or.inr ⟨hb, _, _, ?_, ?_, rfl, Gl_walk (wn := wn) (rs := rs) (s := s) (P := P) (b := false) hW1 hS1 hP1 hT1 p4⟩
      · have p2' : X8_findBest (sC_hasBest w 0) false (nI n) 0 = _ := p2
        simp only [show bI false = 0 from rfl, X8_best, if_true, X8_best_J8, bnd, X8_best_J29, p1, Option.bind_some, nm1 (show n ≤ 5000 by omega), if_false, p2', wb_tab, wb_tb, wb_wn, wb_rs, wb_s, wb_hb, wb_lv, wb_bn, wb_swn, wb_srs, wb_ss, wb_shb, wb_slv, wb_sbn]
        rcases hb01 with rfl | rfl
        · exact if_pos rfl
        · exact if_neg (show ¬ (1 : Int32) = 0 by decide)
      · have p3' : X9_best_J45 0 (sM_hasBest (sM_thrown m 0) 0) = _ := p3
        simp only [show bI false = 0 from rfl, X9_best, if_true, X9_best_J16, X9_best_J17, ps_00, Option.bind_some, i10, if_false, bnd, p3']
  · have b1 : bI true = 1 := rfl
    by_cases hs : gM_isSmall m = 0
    · refine Or.inl ⟨"java/lang/IllegalStateException", 1, 0, w, sM_thrown m 1, ?_, ?_, rfl, Gl_thrown h 1, ⟨rfl, rfl⟩⟩
      · simp only [b1, X8_best, i10, if_false, cl_nSm0 hS hs, Option.bind_some, Sum.elim_inl]
      · simp only [b1, X9_best, i10, if_false, hs, if_true, X9_best_J17, ps_1, Option.bind_some]
    · obtain ⟨F, hR⟩ := hS.rl hs
      have ce : gC_certificate (sC_hasBest w 0) = gM_certificate m := hR.2.2.2.2.2.2.2
      have cm : gM_certificate (sM_hasBest (sM_thrown m 0) 0) = gM_certificate m := rfl
      by_cases hc : gM_certificate m = -1
      · have tb : gC_tb true (sC_hasBest w 0) = gC_tab (sC_hasBest w 0) := rfl
        have off : gC_offset (sC_hasBest w 0) = ofB true m := hR.2.2.2.2.2.2.1
        rcases s_bestAll (b := true) hW (fun _ => ⟨F, _, hR⟩) (TB_s hR) with ⟨p1, p2⟩ | ⟨n, wn, rs, s, P, hb, lv, bn, be, lv', hn, p1, p2, p3, p4⟩
        · rw [tb] at p1
          rw [b1] at p2
          refine Or.inr ⟨-1, (sC_hasBest w 0), (sM_hasBest (sM_thrown m 0) 0), ?_, ?_, rfl, gb⟩
          · simp only [b1, X8_best, i10, if_false, cl_nSm1 hS hs, Option.bind_some, Sum.elim_inr, X8_best_J8, bnd, X5_isImpossible, ce, hc, if_true, X8_best_J29, p1]
          · simp only [b1, X9_best, i10, if_false, hs, X9_best_J16, X9_best_J17, ps_00, Option.bind_some, bnd, cm, hc, if_true, p2]
        · rw [tb] at p1
          rw [b1] at p3
          have hb01 : hb = 0 ∨ hb = 1 := by rcases p4 with e | ⟨e, -⟩
                                            · exact Or.inl e
                                            · exact Or.inr e
          refine Or.inr ⟨hb, _, _, ?_, ?_, rfl, Gl_walk (wn := wn) (rs := rs) (s := s) (P := P) (b := true) hW1 hS1 hP1 hT1 p4⟩
          · simp only [b1, X8_best, i10, if_false, cl_nSm1 hS hs, Option.bind_some, Sum.elim_inr, X8_best_J8, bnd, X5_isImpossible, ce, hc, if_true, X8_best_J29, p1, nm1 (show n ≤ 5000 by omega), off, p2, wb_tab, wb_tb, wb_wn, wb_rs, wb_s, wb_hb, wb_lv, wb_bn, wb_swn, wb_srs, wb_ss, wb_shb, wb_slv, wb_sbn]
            rcases hb01 with rfl | rfl
            · exact if_pos rfl
            · exact if_neg (show ¬ (1 : Int32) = 0 by decide)
          · simp only [b1, X9_best, i10, if_false, hs, X9_best_J16, X9_best_J17, ps_00, Option.bind_some, bnd, cm, hc, if_true, p3]
      · refine Or.inr ⟨0, (sC_hasBest w 0), (sM_hasBest (sM_thrown m 0) 0), ?_, ?_, rfl, gb⟩
        · simp only [b1, X8_best, i10, if_false, cl_nSm1 hS hs, Option.bind_some, Sum.elim_inr, X8_best_J8, bnd, X5_isImpossible, ce, hc]
        · simp only [b1, X9_best, i10, if_false, hs, X9_best_J16, X9_best_J17, ps_00, Option.bind_some, bnd, cm, hc]
section SU
variable {C R : Nat} {w : CW} {m : MW}
def cHold (m : MW) (C : Nat) (P : Nat → Int32) (r : Nat) : Bool := decide (((gM_certificate m >>> (nI r &&& 31)) &&& 1) = 0) || hB false m r (rsum false m C r P)
theorem rf_cert (hW : Wh C R w m) (P : Nat → Int32) (hb : Int32) (be : Nat → Int32) (lv : Int64) (ok i : Int32) : iter (X9_certified_L65 ((MB m P hb be lv), ok, i)) 5000 (1, 0) = some (if allN (cHold m C P) R = true then 1 else 0) := by
  obtain ⟨d1, d2, d3, d4, d5, d6⟩ := hW.1
  have e := iter_to (step := X9_certified_L65 ((MB m P hb be lv), ok, i)) R (fun i => ((if allN (cHold m C P) i = true then (1 : Int32) else 0), nI i)) (if allN (cHold m C P) R = true then 1 else 0) (fun j hj => by
    have hh := rf_hB (b := false) hW P hb be lv hj
    rw [if_pos (show bI false = 0 from rfl)] at hh
    simp only [X9_certified_L65, mb_P, mb_hb, mb_be, mb_lv, mb_sP, mb_shb, mb_sbe, mb_slv, mb_C, mb_R, mb_los, mb_his, mb_cos, mb_lo, mb_hi, mb_st, mb_co, mb_of, mb_ce, d4, nC_le d6 hj, if_false, X9_certified_J105, X9_certified_J104, X9_certified_J100, nI_1, allN_s, hh, Option.bind_some]
    cases hA : allN (cHold m C P) j
    · simp
    · by_cases q1 : ((gM_certificate m >>> (nI j &&& 31)) &&& 1) = 0
      · simp [cHold, q1]
      · by_cases q2 : hB false m j (rsum false m C j P) = true
        · simp [cHold, q1, q2]
        · simp [cHold, q1, q2]) (by
    simp only [X9_certified_L65, mb_P, mb_hb, mb_be, mb_lv, mb_sP, mb_shb, mb_sbe, mb_slv, mb_C, mb_R, mb_los, mb_his, mb_cos, mb_lo, mb_hi, mb_st, mb_co, mb_of, mb_ce, d4, Int32.le_refl, if_true]) (f := 5000) (by omega)
  exact e
theorem cert_step (hW : Wh C R w m) {n : Nat} (hn : n ≤ 4000) {i : Nat} (hi : i < n) {wn rs : Nat → Int64} {s : Int64} {P : Nat → Int32} (hK : KI false C R w wn rs s) (hP : PR false C m wn P) (hb : Int32) (be : Nat → Int32) (lv : Int64) (hb2 : Int32) (lv2 : Int64) (bn2 : Nat → Int64) (ok : Int32) : ∃ wn' rs' s' P', X7_goOn (WB w false wn rs s hb2 lv2 bn2) false = some (WB w false wn' rs' s' hb2 lv2 bn2) ∧ X9_certified_L54 (nI n) ((MB m P hb be lv), ok, nI i) = some (.inl (MB m P' hb be lv, (if allN (cHold m C P) R = true then 0 else ok), nI (i + 1))) ∧ KI false C R w wn' rs' s' ∧ PR false C m wn' P' := by
  have hin : ¬ nI n ≤ nI i := by rw [nle (by omega) (by omega)]; omega
  obtain ⟨wn', rs', s', P', g1, g2, g3, g4⟩ := s_goOn (TB_w hW) hK hP hb2 lv2 bn2 hb be lv
  have g2' : X9_nextPoint (MB m P hb be lv) 0 = some (MB m P' hb be lv) := g2
  refine ⟨wn', rs', s', P', g1, ?_, g3, g4⟩
  simp only [X9_certified_L54, hin, if_false, rf_cert hW, Option.bind_some, X9_certified_J123, g2', nI_1]
  by_cases q : allN (cHold m C P) R = true
  · simp only [q, if_true, i10, if_false]
  · simp only [q, if_false, if_true, Bool.false_eq_true]
theorem cert_rest (hW : Wh C R w m) {n : Nat} (hn : n ≤ 4000) (hb : Int32) (be : Nat → Int32) (lv : Int64) : ∀ (d i f : Nat) (wn rs : Nat → Int64) (s : Int64) (P : Nat → Int32), i + d = n → d < f → KI false C R w wn rs s → PR false C m wn P → ∃ P', iter (X9_certified_L54 (nI n)) f ((MB m P hb be lv), 0, nI i) = some (MB m P' hb be lv, 0)
  | 0, i, f, wn, rs, s, P, hid, hf, hK, hP => ⟨P, iter_end (by
      have : nI n ≤ nI i := by rw [show i = n by omega]; exact Int32.le_refl _
      simp only [X9_certified_L54, this, if_true]) hf⟩
  | d + 1, i, f, wn, rs, s, P, hid, hf, hK, hP => by
    obtain ⟨f, rfl⟩ : ∃ g, f = g + 1 := ⟨f - 1, by omega⟩
    obtain ⟨wn', rs', s', P1, g1, g2, g3, g4⟩ := cert_step hW hn (show i < n by omega) hK hP hb be lv 0 0 (fun _ => 0) 0
    rw [ite_self] at g2
    obtain ⟨P', y⟩ := cert_rest hW hn hb be lv d (i + 1) f wn' rs' s' P1 (by omega) (by omega) g3 g4
    exact ⟨P', by rw [iter_in g2]; exact y⟩
theorem s_cert (hW : Wh C R w m) (hce : gC_certificate w = gM_certificate m) {n : Nat} (hn : n ≤ 4000) {wn rs : Nat → Int64} {s : Int64} {P : Nat → Int32} (hK : KI false C R w wn rs s) (hP : PR false C m wn P) (hb : Int32) (be : Nat → Int32) (lv : Int64) (hb2 : Int32) (lv2 : Int64) (bn2 : Nat → Int64) : ∃ ea eb wn' rs' s' P', iter (X8_certified_L52 (nI n)) 5000 (WB w false wn rs s hb2 lv2 bn2, 0) = some ea ∧ iter (X9_certified_L54 (nI n)) 5000 ((MB m P hb be lv), 1, 0) = some eb ∧ eb.1 = MB m P' hb be lv ∧ ((ea = .inl (WB w false wn' rs' s' hb2 lv2 bn2) ∧ eb.2 = 0) ∨ (ea = .inr (WB w false wn' rs' s' hb2 lv2 bn2) ∧ eb.2 = 1)) := by
  obtain ⟨ea, eb, r1, r2, wn', rs', s', P', r3, r4⟩ := iter_sim (sa := X8_certified_L52 (nI n)) (sb := X9_certified_L54 (nI n)) (fun d x y => ∃ i wn rs s P, i + d = n ∧ x = (WB w false wn rs s hb2 lv2 bn2, nI i) ∧ y = ((MB m P hb be lv), 1, nI i) ∧ KI false C R w wn rs s ∧ PR false C m wn P) (fun ea eb => ∃ wn' rs' s' P', eb.1 = MB m P' hb be lv ∧ ((ea = .inl (WB w false wn' rs' s' hb2 lv2 bn2) ∧ eb.2 = 0) ∨ (ea = .inr (WB w false wn' rs' s' hb2 lv2 bn2) ∧ eb.2 = 1))) (fun d x y hI => by
    obtain ⟨i, wn, rs, s, P, hid, rfl, rfl, hK, hP⟩ := hI
    by_cases hi : i < n
    · have hin : ¬ nI n ≤ nI i := by rw [nle (by omega) (by omega)]; omega
      obtain ⟨wn', rs', s', P1, g1, g2, g3, g4⟩ := cert_step hW hn hi hK hP hb be lv hb2 lv2 bn2 1
      have hall := cl_holdsAll (b := false) hW (fun z => absurd z (by decide)) (TB_w hW) hK hP hb2 lv2 bn2 (gM_certificate m)
      have hall' : X7_holdsAll (WB w false wn rs s hb2 lv2 bn2) false (gC_certificate (WB w false wn rs s hb2 lv2 bn2)) = some (if allN (cHold m C P) R = true then 1 else 0) := by
        rw [show gC_certificate (WB w false wn rs s hb2 lv2 bn2) = gM_certificate m from hce]
        exact hall
      by_cases q : allN (cHold m C P) R = true
      · rw [if_pos q] at hall' g2
        refine Or.inr ⟨.inl (WB w false wn rs s hb2 lv2 bn2), by simp only [X8_certified_L52, hin, if_false, hall', Option.bind_some, i10], fun f hf => ?_⟩
        obtain ⟨f, rfl⟩ : ∃ g, f = g + 1 := ⟨f - 1, by omega⟩
        obtain ⟨P', y⟩ := cert_rest hW hn hb be lv (d - 1) (i + 1) f wn' rs' s' P1 (by omega) (by omega) g3 g4
        exact ⟨_, by rw [iter_in g2]; exact y, wn, rs, s, P', rfl, Or.inl ⟨rfl, rfl⟩⟩
      · rw [if_neg q] at hall' g2
        exact Or.inl ⟨_, _, by simp only [X8_certified_L52, hin, if_false, hall', Option.bind_some, if_true, g1, nI_1] <;> rfl, g2, d - 1, by omega, i + 1, wn', rs', s', P1, by omega, rfl, rfl, g3, g4⟩
    · have e : i = n := by omega
      subst e
      exact Or.inr ⟨_, by simp only [X8_certified_L52, Int32.le_refl, if_true] <;> rfl, fun f hf => ⟨_, iter_end (by simp only [X9_certified_L54, Int32.le_refl, if_true] <;> rfl) (by omega), wn, rs, s, P, rfl, Or.inr ⟨rfl, rfl⟩⟩⟩) n 5000 5000 (WB w false wn rs s hb2 lv2 bn2, 0) ((MB m P hb be lv), 1, 0) (by omega) (by omega) ⟨0, wn, rs, s, P, by omega, rfl, rfl, hK, hP⟩
  exact ⟨ea, eb, wn', rs', s', P', r1, r2, r3, r4⟩
end SU
theorem o_certified {w : CW} {m : MW} (h : Gl w m) : OpW (X8_certified w) (X9_certified m) Ks := by
  have h' := h
  obtain ⟨C, R, hW, hS, hP, hT, hB⟩ := h'
  have bad : X9_certified_J16 m = some (0, sM_thrown m 1) := by
    simp only [X9_certified_J16, X9_certified_J21, ps_1, Option.bind_some, if_true]
  by_cases hs : gM_isSmall m = 0
  · exact Or.inl ⟨"java/lang/IllegalStateException", 1, 0, w, sM_thrown m 1, by simp only [X8_certified, cl_nSm0 hS hs, Option.bind_some, Sum.elim_inl], by simp only [X9_certified, hs, if_true, bad], rfl, Gl_thrown h 1, ⟨rfl, rfl⟩⟩
  · obtain ⟨F, hR⟩ := hS.rl hs
    have ce := hR.2.2.2.2.2.2.2
    by_cases hc : gM_certificate m = -1
    · exact Or.inl ⟨"java/lang/IllegalStateException", 1, 0, w, sM_thrown m 1, by simp only [X8_certified, cl_nSm1 hS hs, Option.bind_some, Sum.elim_inr, X5_isImpossible, ce, hc, if_true], by simp only [X9_certified, hs, hc, if_true, if_false, bad], rfl, Gl_thrown h 1, ⟨rfl, rfl⟩⟩
    · have pre : X9_certified m = X9_certified_J21 m 0 := by simp only [X9_certified, hs, hc, if_false]
      have hW0 : Wh C R w (sM_thrown m 0) := hW
      have tb : gC_tb false w = gC_whole w := rfl
      have b0 : bI false = 0 := rfl
      rcases s_points (TB_w hW0) with ⟨p1, p2⟩ | ⟨n, hn, p1, p2⟩
      · rw [tb] at p1
        rw [b0] at p2
        refine Or.inr ⟨-1, w, sM_thrown m 0, ?_, ?_, rfl, Gl_thrown h 0⟩
        · simp only [X8_certified, cl_nSm1 hS hs, Option.bind_some, Sum.elim_inr, X5_isImpossible, ce, hc, if_false, i10, p1, if_true]
        · have : ¬ (4001 : Int32) ≤ 4000 := by decide
          rw [pre]
          simp only [X9_certified_J21, ps_00, Option.bind_some, i10, if_false, p2, this]
      · rw [tb] at p1
        rw [b0] at p2
        obtain ⟨wn, rs, s, b1, b2, b3⟩ := cl_beginAt (TB_w hW0)
        obtain ⟨P, f1, f2⟩ := rf_first (TB_w hW0)
        rw [b0] at f1
        have pr := PR_first (TB_w hW0) b3 f2
        obtain ⟨ea, eb, wn', rs', s', P', r1, r2, r3, r4⟩ := s_cert hW0 ce hn b2 pr (gM_hasBest m) (gM_best m) (gM_bestValue m) (gC_hasBest w) (gC_leastValue w) (gC_bestNumbers w)
        have r2' : iter (X9_certified_L54 (nI n)) 5000 (sM_point (sM_thrown m 0) P, 1, 0) = some eb := r2
        have bs : BS C (gC_hasBest w) (gC_leastValue w) (gC_bestNumbers w) (gM_best m) (gM_bestValue m) := by
          rcases hB.2 with e | ⟨e, e2, e3⟩
          · exact Or.inl (hB.1.trans e)
          · exact Or.inr ⟨hB.1.trans e, e2, e3⟩
        have hS0 : Sm C R w (sM_thrown m 0) := ⟨hS.1, by
          rcases hS.2 with e | ⟨e, F, hF⟩
          · exact Or.inl e
          · exact Or.inr ⟨e, Rl_fr hF rfl rfl rfl rfl rfl rfl⟩⟩
        have gl := Gl_walk (wn := wn') (rs := rs') (s := s') (P := P') (b := false) (m := sM_thrown m 0) hW0 hS0 hP hT bs
        rw [hB.1] at gl
        have gl' : Gl (WB w false wn' rs' s' (gC_hasBest w) (gC_leastValue w) (gC_bestNumbers w)) eb.1 := by
          rw [r3, hB.1]; exact gl
        have thr : gM_thrown eb.1 = 0 := by rw [r3]; rfl
        rcases r4 with ⟨rfl, e2⟩ | ⟨rfl, e2⟩
        · refine Or.inr ⟨0, _, eb.1, ?_, ?_, thr, gl'⟩
          · simp only [X8_certified, cl_nSm1 hS hs, Option.bind_some, Sum.elim_inr, X5_isImpossible, ce, hc, if_false, i10, p1, nm1 (show n ≤ 5000 by omega), b1, r1, Sum.elim_inl]
          · rw [pre]
            simp only [X9_certified_J21, ps_00, Option.bind_some, i10, if_false, p2, le4000 hn, if_true, f1, r2', e2]
        · refine Or.inr ⟨1, _, eb.1, ?_, ?_, thr, gl'⟩
          · simp only [X8_certified, cl_nSm1 hS hs, Option.bind_some, Sum.elim_inr, X5_isImpossible, ce, hc, if_false, i10, p1, nm1 (show n ≤ 5000 by omega), b1, r1]
          · rw [pre]
            simp only [X9_certified_J21, ps_00, Option.bind_some, i10, if_false, p2, le4000 hn, if_true, f1, r2', e2]
