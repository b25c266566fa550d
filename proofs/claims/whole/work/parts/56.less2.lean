/-! rule 10, one term -/
theorem rf_less156 (m : MW) {r c : Nat} (hr12 : r < 12) (hc12 : c < 12) (a g : Int64) {z : Int32} (hz : X9_from m (nI r) (nI c) 1 = some z) : X9_less_J156 (nI r) m (nI c) a g 0 = (X9_act (sM_right (sM_coef (sM_rest m (upd (gM_rest m) r (gM_rest m r ||| ((z ||| gM_lowRest m c) ||| gM_highRest m c)))) (vp_updL (gM_coef m) (12 * r + c) (gM_right m r - g))) (vp_updL (gM_right m) r (gM_right m r))) 10 (nI r) (-1) 3 (vp_updL (gM_right m) r (gM_right m r) r)).bind (fun x => some (.inl (x, nI (c + 1)))) := by
  unfold X9_less_J156
  rw [if_pos (inR12 hr12), hz]
  dsimp only [Option.bind_some]
  rw [if_pos (inR12 hc12), if_pos (inR12 hc12), if_pos (inR12 hr12), cl12 hr12, cl12 hc12]
  dsimp only [bnd]
  rw [if_pos rfl, if_pos (inR12 hr12), ix144]
  unfold X9_less_J224
  rw [if_pos (inR144 hr12 hc12), cl144 hr12 hc12]
  dsimp only [bnd]
  rw [if_pos rfl, if_pos (inR12 hr12), cl12 hr12]
  unfold X9_less_J246
  rw [if_pos (inR12 hr12), cl12 hr12]
  dsimp only [bnd]
  rw [if_pos (inR12 hr12)]
  unfold X9_less_J262
  rw [nI_1]
theorem rf_less156b (m : MW) {r c : Nat} (hr12 : r < 12) (hc12 : c < 12) (a g : Int64) {z : Int32} (hz : X9_from m (nI r) (nI c) 1 = some z) : X9_less_J156 (nI r) m (nI c) a g 1 = (X9_act (sM_right (sM_coef (sM_rest m (upd (gM_rest m) r (gM_rest m r ||| ((z ||| gM_lowRest m c) ||| gM_highRest m c)))) (vp_updL (gM_coef m) (12 * r + c) (a - (gM_right m r - g)))) (vp_updL (gM_right m) r g)) 10 (nI r) (-1) 3 (vp_updL (gM_right m) r g r)).bind (fun x => some (.inl (x, nI (c + 1)))) := by
  unfold X9_less_J156
  rw [if_pos (inR12 hr12), hz]
  dsimp only [Option.bind_some]
  rw [if_pos (inR12 hc12), if_pos (inR12 hc12), if_pos (inR12 hr12), cl12 hr12, cl12 hc12]
  dsimp only [bnd]
  rw [if_neg (by decide), if_pos (inR12 hr12), ix144]
  unfold X9_less_J224
  rw [if_pos (inR144 hr12 hc12), cl144 hr12 hc12]
  dsimp only [bnd]
  rw [if_neg (by decide)]
  unfold X9_less_J246
  rw [if_pos (inR12 hr12), cl12 hr12]
  dsimp only [bnd]
  rw [if_pos (inR12 hr12)]
  unfold X9_less_J262
  rw [nI_1]
section S12
variable {C R : Nat} {F : FR} {N : Nat} {w : CW} {m : MW}
theorem cl_bin (h : Rl C R F N w m) {c : Nat} (hc : c < C) : X6_isBinary (gC_tab w) (nI c) = some (if gM_low m c = 0 then (if gM_high m c = 1 then 1 else 0) else 0) := by
  have hc12 : c < 12 := by have := h.C12; omega
  obtain ⟨⟨c1, c2, c3, c4, c5, c6⟩, -⟩ := h.2.2.1 c hc
  have e1 : (lo m c = 0) = (gM_low m c = 0) := propext ⟨fun e => Int32.toInt_inj.mp (by rw [← (toI c).1, e]; rfl), fun e => by show (gM_low m c).toInt64 = 0; rw [e]; rfl⟩
  have e2 : (hi m c = 1) = (gM_high m c = 1) := propext ⟨fun e => Int32.toInt_inj.mp (by rw [← (toI c).2, e]; rfl), fun e => by show (gM_high m c).toInt64 = 1; rw [e]; rfl⟩
  simp only [X6_isBinary, inR12 hc12, cl12 hc12, if_true, c2, c3, e1, e2]
  by_cases h1 : gM_low m c = 0
  · by_cases h2 : gM_high m c = 1 <;> simp only [h1, h2, if_true, if_false]
  · simp only [h1, if_false]
/-- one term: class and reference -/
theorem s_less (h : Rl C R F N w m) (hN : N < 1000000) (hcert : gM_certificate m = -1) (hru : F.2.2.2.2.2 = 10) {r c : Nat} (hr : r < R) (hc : c < C) (hg : gM_gone m r = 0) (hk : gM_kind m r = 0) (h1 : tm m r c ≠ 0) (hb1 : gM_low m c = 0) (hb2 : gM_high m c = 1) : ∃ w' m', X4_makeTermLess w (nI r) (nI c) = some w' ∧ X9_less_L2 (nI r) (m, nI c) = some (.inl (m', nI (c + 1))) ∧ Rl C R F (N + 1) w' m' ∧ gM_certificate m' = -1 ∧ gM_gone m' r = 0 ∧ gM_kind m' r = 0 := by
  have hC := h.C12
  have hR := h.R12
  have hr12 : r < 12 := by omega
  have hc12 : c < 12 := by omega
  have hs := tm_state h1
  have hcf := tm_coef h1
  obtain ⟨⟨r1, r2⟩, r3, r4, r5, r6⟩ := h.2.2.2.1 r hr
  have ha := h.a hr hg hc
  have hz : (0 : Int64).toInt = 0 := rfl
  obtain ⟨A1, A2⟩ := h.ab hr hg hc
  obtain ⟨G1, G2⟩ := reach_big h hr hg (nI c) 1
  obtain ⟨B1, B2⟩ := r5
  generalize hgg : sumN (fR m r (nI c) 1) C = g at *
  have hga : (g + tm m r c).toInt = g.toInt + (tm m r c).toInt := add_ex (by omega)
  have hrg : (gM_right m r - g).toInt = (gM_right m r).toInt - g.toInt := sub_ex (by omega)
  have hag : (tm m r c - (gM_right m r - g)).toInt = (tm m r c).toInt - ((gM_right m r).toInt - g.toInt) := by rw [sub_ex (by rw [hrg]; omega), hrg]
  have eC : X4_makeTermLess w (nI r) (nI c) = if tm m r c ≤ 0 then X4_makeTermLess_J91 (nI r) (nI c) w (tm m r c) (gM_right m r) g else if gM_right m r ≤ g then X4_makeTermLess_J91 (nI r) (nI c) w (tm m r c) (gM_right m r) g else if g + tm m r c ≤ gM_right m r then X4_makeTermLess_J91 (nI r) (nI c) w (tm m r c) (gM_right m r) g else X4_makeTermLess_J135 (nI r) (nI c) (sC_tab w (sT_right (sT_a (gC_tab w) (va_up (gT_a (gC_tab w)) r (vp_updL (gT_a (gC_tab w) r) c (tm m r c - (gM_right m r - g))))) (vp_updL (gT_right (gC_tab w)) r g))) := by
    simp only [X4_makeTermLess, inR12 hr12, cl12 hr12, inR12 hc12, cl12 hc12, if_true, cl_reach h hr hg, hgg, Option.bind_some, ha, r1, bnd]
  have eJ : X4_makeTermLess_J91 (nI r) (nI c) w (tm m r c) (gM_right m r) g = if 0 ≤ tm m r c then some w else if gM_right m r ≤ g + tm m r c then some w else if g ≤ gM_right m r then some w else X4_makeTermLess_J135 (nI r) (nI c) (sC_tab w (sT_a (gC_tab w) (va_up (gT_a (gC_tab w)) r (vp_updL (gT_a (gC_tab w) r) c (gM_right m r - g))))) := by
    simp only [X4_makeTermLess_J91, inR12 hr12, cl12 hr12, inR12 hc12, cl12 hc12, if_true, bnd]
  have eR : X9_less_L2 (nI r) (m, nI c) = if tm m r c ≤ 0 then X9_less_J105 (nI r) m (nI c) (tm m r c) g 0 else if gM_right m r ≤ g then X9_less_J105 (nI r) m (nI c) (tm m r c) g 0 else if g + tm m r c ≤ gM_right m r then X9_less_J105 (nI r) m (nI c) (tm m r c) g 0 else X9_less_J105 (nI r) m (nI c) (tm m r c) g 1 := by
    simp only [X9_less_L2, h.1.2.2.1, nC_le hC hc, if_false, inR12 hr12, cl12 hr12, inR12 hc12, cl12 hc12, if_true, hk, rf_term0 m hr12 hc12, h1, i10, hb1, hb2, ix144, inR144 hr12 hc12, cl144 hr12 hc12, rf_end h hr, hgg, Option.bind_some, hcf, X9_less_J104]
  have n10 : ¬ ((1 : Int32) = 0) := by decide
  have eS : ∀ fl : Int32, X9_less_J105 (nI r) m (nI c) (tm m r c) g fl = if 0 ≤ tm m r c then X9_less_J144 (nI r) m (nI c) (tm m r c) g fl 0 else if gM_right m r ≤ g + tm m r c then X9_less_J144 (nI r) m (nI c) (tm m r c) g fl 0 else if g ≤ gM_right m r then X9_less_J144 (nI r) m (nI c) (tm m r c) g fl 0 else X9_less_J144 (nI r) m (nI c) (tm m r c) g fl 1 := fun fl => by
    simp only [X9_less_J105, X9_less_J143, inR12 hr12, cl12 hr12, if_true]
  have eN : X9_less_J144 (nI r) m (nI c) (tm m r c) g 0 0 = some (.inl (m, nI (c + 1))) := by
    simp only [X9_less_J144, if_true, X9_less_J262, nI_1]
  have stay : ∃ w' m', some w = some w' ∧ (some (Sum.inl (m, nI (c + 1))) : Option ((MW × Int32) ⊕ MW)) = some (.inl (m', nI (c + 1))) ∧ Rl C R F (N + 1) w' m' ∧ gM_certificate m' = -1 ∧ gM_gone m' r = 0 ∧ gM_kind m' r = 0 := ⟨w, m, rfl, rfl, h.mono (by omega), hcert, hg, hk⟩
  rw [eC, eR, eJ, eS 0, eS 1, eN]
  rcases i64_pos h1 with ⟨x1, x2⟩ | ⟨x1, x2⟩
  · rw [if_pos x1, if_pos x1, if_neg x2, if_neg x2]
    by_cases y1 : gM_right m r ≤ g + tm m r c
    · rw [if_pos y1, if_pos y1]; exact stay
    · rw [if_neg y1, if_neg y1]
      by_cases y2 : g ≤ gM_right m r
      · rw [if_pos y2, if_pos y2]; exact stay
      · rw [if_neg y2, if_neg y2]
        have v1 : ¬ (gM_right m r).toInt ≤ (g + tm m r c).toInt := fun z => y1 (Int64.le_iff_toInt_le.mpr z)
        have v2 : ¬ g.toInt ≤ (gM_right m r).toInt := fun z => y2 (Int64.le_iff_toInt_le.mpr z)
        rw [hga] at v1
        obtain ⟨w', a1, a2, a3, a4, a5, k, z1, z2, z3⟩ := s_lessAct h hN hru hr hc hg hs (a' := gM_right m r - g) (by unfold big; rw [hrg]; omega) (rt := gT_right (gC_tab w)) (rt' := vp_updL (gM_right m) r (gM_right m r)) (fun r' hr' hne => ⟨(h.2.2.2.1 r' hr').1.1, by unfold vp_updL; rw [if_neg hne]⟩) (by unfold vp_updL; rw [if_pos rfl]; exact r1) (by unfold vp_updL; rw [if_pos rfl]; exact ⟨B1, B2⟩)
        refine ⟨w', _, z1, ?_, z3, hcert, hg, hk⟩
        unfold X9_less_J144
        rw [if_pos rfl, if_neg n10, rf_less156 m hr12 hc12 _ _ (rf_from h hr (nI c) 1), z2]
        rfl
  · rw [if_neg x1, if_neg x1]
    by_cases y1 : gM_right m r ≤ g
    · rw [if_pos y1, if_pos y1, if_pos x2, if_pos x2]; exact stay
    · rw [if_neg y1, if_neg y1]
      by_cases y2 : g + tm m r c ≤ gM_right m r
      · rw [if_pos y2, if_pos y2, if_pos x2, if_pos x2]; exact stay
      · rw [if_neg y2, if_neg y2, if_pos x2]
        have v1 : ¬ (gM_right m r).toInt ≤ g.toInt := fun z => y1 (Int64.le_iff_toInt_le.mpr z)
        have v2 : ¬ (g + tm m r c).toInt ≤ (gM_right m r).toInt := fun z => y2 (Int64.le_iff_toInt_le.mpr z)
        rw [hga] at v2
        obtain ⟨w', a1, a2, a3, a4, a5, k, z1, z2, z3⟩ := s_lessAct h hN hru hr hc hg hs (a' := tm m r c - (gM_right m r - g)) (by unfold big; rw [hag]; omega) (rt := vp_updL (gT_right (gC_tab w)) r g) (rt' := vp_updL (gM_right m) r g) (fun r' hr' hne => ⟨by unfold vp_updL; rw [if_neg hne]; exact (h.2.2.2.1 r' hr').1.1, by unfold vp_updL; rw [if_neg hne]⟩) (by unfold vp_updL; rw [if_pos rfl, if_pos rfl]) (by unfold vp_updL; rw [if_pos rfl]; exact ⟨by omega, by omega⟩)
        refine ⟨w', _, z1, ?_, z3, hcert, hg, hk⟩
        unfold X9_less_J144
        rw [if_neg n10, rf_less156b m hr12 hc12 _ _ (rf_from h hr (nI c) 1), z2]
        rfl
theorem r_less (h : Rl C R F N w m) (hN : N + 30 < 1000000) (hcert : gM_certificate m = -1) (hru : F.2.2.2.2.2 = 10) {r : Nat} (hr : r < R) (hg : gM_gone m r = 0) : StO C R F (N + 30) (X4_makeLess w (nI r)) (X9_less m (nI r)) := by
  have hC := h.C12
  have hR := h.R12
  have hr12 : r < 12 := by omega
  by_cases hk : gM_kind m r = 0
  · obtain ⟨ea, eb, e1, e2, e3, e4⟩ := iter_sim (sa := X4_makeLess_L16 (nI r)) (sb := X9_less_L2 (nI r)) (fun d a b => ∃ i, i + d = C ∧ a.2 = nI i ∧ b.2 = nI i ∧ Rl C R F (N + i) a.1 b.1 ∧ gM_certificate b.1 = -1 ∧ gM_gone b.1 r = 0 ∧ gM_kind b.1 r = 0) (fun ea eb => Rl C R F (N + 12) ea eb ∧ gM_certificate eb = -1) (by
      rintro d ⟨w1, i1⟩ ⟨m1, i2⟩ ⟨i, hid, e1, e2, hR1, hc1, hg1, hk1⟩
      dsimp only at e1 e2 hR1 hc1 hg1 hk1
      subst e1 e2
      by_cases hic : i < C
      · have hi12 : i < 12 := by omega
        have ha := hR1.a hr hg1 hic
        by_cases h1 : tm m1 r i = 0
        · refine Or.inl ⟨(w1, nI (i + 1)), (m1, nI (i + 1)), ?_, ?_, d - 1, by omega, i + 1, by omega, rfl, rfl, hR1.mono (by omega), hc1, hg1, hk1⟩
          · simp only [X4_makeLess_L16, hR1.1.1, nC_le hC hic, if_false, inR12 hr12, cl12 hr12, inR12 hi12, cl12 hi12, if_true, ha, h1, X4_makeLess_J60, nI_1]
          · simp only [X9_less_L2, hR1.1.2.2.1, nC_le hC hic, if_false, inR12 hr12, cl12 hr12, if_true, hk1, rf_term0 m1 hr12 hi12, h1, Option.bind_some, X9_less_J262, nI_1]
        · by_cases hb : gM_low m1 i = 0 ∧ gM_high m1 i = 1
          · obtain ⟨w', m', x1, x2, x3, x4, x5, x6⟩ := s_less hR1 (by omega) hc1 hru hr hic hg1 hk1 h1 hb.1 hb.2
            refine Or.inl ⟨(w', nI (i + 1)), (m', nI (i + 1)), ?_, x2, d - 1, by omega, i + 1, by omega, rfl, rfl, x3.mono (by omega), x4, x5, x6⟩
            simp only [X4_makeLess_L16, hR1.1.1, nC_le hC hic, if_false, inR12 hr12, cl12 hr12, inR12 hi12, cl12 hi12, if_true, ha, h1, cl_bin hR1 hic, hb.1, hb.2, Option.bind_some, i10, x1, X4_makeLess_J60, nI_1]
          · refine Or.inl ⟨(w1, nI (i + 1)), (m1, nI (i + 1)), ?_, ?_, d - 1, by omega, i + 1, by omega, rfl, rfl, hR1.mono (by omega), hc1, hg1, hk1⟩
            · simp only [X4_makeLess_L16, hR1.1.1, nC_le hC hic, if_false, inR12 hr12, cl12 hr12, inR12 hi12, cl12 hi12, if_true, ha, h1, cl_bin hR1 hic, Option.bind_some, X4_makeLess_J60, nI_1]
              by_cases hb1 : gM_low m1 i = 0
              · have hb2 : ¬ gM_high m1 i = 1 := fun z => hb ⟨hb1, z⟩
                simp only [hb1, hb2, if_true, if_false]
              · simp only [hb1, if_true, if_false]
            · simp only [X9_less_L2, hR1.1.2.2.1, nC_le hC hic, if_false, inR12 hr12, cl12 hr12, inR12 hi12, cl12 hi12, if_true, hk1, rf_term0 m1 hr12 hi12, h1, Option.bind_some, i10, X9_less_J262, nI_1]
              by_cases hb1 : gM_low m1 i = 0
              · have hb2 : ¬ gM_high m1 i = 1 := fun z => hb ⟨hb1, z⟩
                simp only [hb1, hb2, if_true, if_false]
              · simp only [hb1, if_false]
      · have : i = C := by omega
        subst this
        refine Or.inr ⟨w1, ?_, fun f hf => ⟨m1, iter_end ?_ (by omega), hR1.mono (by omega), hc1⟩⟩
        · simp only [X4_makeLess_L16, hR1.1.1, Int32.le_refl, if_true]
        · simp only [X9_less_L2, hR1.1.2.2.1, Int32.le_refl, if_true]) C 5000 5000 (w, 0) (m, 0) (by omega) (by omega) ⟨0, by omega, rfl, rfl, h, hcert, hg, hk⟩
    refine ⟨1, ea, eb, ?_, ?_, e3.mono (by omega), good_yes e4⟩
    · simp only [X4_makeLess, inR12 hr12, cl12 hr12, if_true, h.kd hr hg, hk, e1, Option.bind_some]
    · simp only [X9_less, e2, Option.bind_some]
  · refine ⟨1, w, m, ?_, ?_, h.mono (by omega), good_yes hcert⟩
    · simp only [X4_makeLess, inR12 hr12, cl12 hr12, if_true, h.kd hr hg, hk, if_false]
    · have e1 : iter (X9_less_L2 (nI r)) 5000 (m, 0) = some m := iter_end (by
        unfold X9_less_L2
        by_cases hq : gM_columns m ≤ 0
        · simp only [hq, if_true]
        · simp only [hq, if_false, inR12 hr12, cl12 hr12, if_true, hk]) (by omega)
      simp only [X9_less, e1, Option.bind_some]
end S12
