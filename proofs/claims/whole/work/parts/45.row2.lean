theorem good_cases {b : Int32} {m : MW} (h : good b m) : (b = 1 ∧ gM_certificate m = -1) ∨ (b = 0 ∧ gM_certificate m ≠ -1) := by
  unfold good at h
  by_cases hc : gM_certificate m = -1
  · rw [if_pos hc] at h; exact Or.inl ⟨h, hc⟩
  · rw [if_neg hc] at h; exact Or.inr ⟨h, hc⟩
theorem good_yes {m : MW} (h : gM_certificate m = -1) : good 1 m := by unfold good; rw [if_pos h]
theorem good_nope {m : MW} (h : gM_certificate m ≠ -1) : good 0 m := by unfold good; rw [if_neg h]
theorem nm1 {k : Nat} (hk : k ≤ 5000) : ¬ nI k = -1 := fun e => by
  have h1 := nI_toInt (n := k) (by omega)
  rw [e] at h1
  have h2 : (-1 : Int32).toInt = -1 := rfl
  omega
theorem i64_pos {a : Int64} (h : a ≠ 0) : (a ≤ 0 ∧ ¬ 0 ≤ a) ∨ (¬ a ≤ 0 ∧ 0 ≤ a) := by
  have h0 : (0 : Int64).toInt = 0 := rfl
  rw [Int64.le_iff_toInt_le, Int64.le_iff_toInt_le, h0]
  have : a.toInt ≠ 0 := fun e => h (Int64.toInt_inj.mp (e.trans h0.symm))
  omega
section S2
variable {C R : Nat} {F : FR} {N : Nat} {w : CW} {m : MW}
theorem StO.mono {N N' : Nat} {x : Option (Int32 × CW)} {y : Option MW} (h : StO C R F N x y) (hN : N ≤ N') : StO C R F N' x y := by
  obtain ⟨b, w', m', h1, h2, h3, h4⟩ := h
  exact ⟨b, w', m', h1, h2, h3.mono hN, h4⟩
theorem s_lv (h : Rl C R F N w m) (hN : N < 1000000) (hcert : gM_certificate m = -1) (hru : F.2.2.2.2.2 = 3) {r : Nat} (hr : r < R) : StO C R F (N + 1) (X4_leaveSingle_J177 (nI r) w) (X9_single_J153 (nI r) m) := by
  obtain ⟨w2, a1, a2, a3, a4, a5, k, q1, q2, q3⟩ := sim_leave h hN hcert hr
  rw [hru] at q2
  exact ⟨1, w2, _, by simp only [X4_leaveSingle_J177, q1, Option.bind_some], by simp only [X9_single_J153, q2, Option.bind_some], q3, good_yes (show gM_certificate m = -1 from hcert)⟩
theorem s_hi (h : Rl C R F N w m) (hN : N + 2 < 1000000) (hcert : gM_certificate m = -1) (hru : F.2.2.2.2.2 = 3) {r c : Nat} (hr : r < R) (hc : c < C) (hs : gM_state m c = 0) {a : Int64} (ha : a ≠ 0) {z : Int32} (hz : mk z) : StO C R F (N + 2) (X4_leaveSingle_J157 (nI r) w (nI c) a (gM_right m r) z) (X9_single_J134 (nI r) m (nI c) a z) := by
  have hr12 : r < 12 := by have := h.R12; omega
  obtain ⟨v, b, w', m', d1, d2, d3, d4, d5, d6, d7, d8⟩ := sim_hi h (by omega) hcert hru hc hs (nI r) (gM_right m r) ha hz
  rcases good_cases d5 with ⟨rfl, h9⟩ | ⟨rfl, h9⟩
  · obtain ⟨b2, w2, m2, e1, e2, e3, e4⟩ := s_lv d4 (by omega) h9 hru hr
    refine ⟨b2, w2, m2, ?_, ?_, e3, e4⟩
    · simp only [X4_leaveSingle_J157, d2, Option.bind_some, i10, if_false, e1]
    · simp only [X9_single_J134, inR12 hr12, cl12 hr12, if_true, d1, Option.bind_some, d3, e2]
  · refine ⟨0, w', m', ?_, ?_, d4.mono (by omega), d5⟩
    · simp only [X4_leaveSingle_J157, d2, Option.bind_some, if_true]
    · simp only [X9_single_J134, inR12 hr12, cl12 hr12, if_true, d1, Option.bind_some, d3, X9_single_J153, no_leave h9]
theorem s_lo (h : Rl C R F N w m) (hN : N + 3 < 1000000) (hcert : gM_certificate m = -1) (hru : F.2.2.2.2.2 = 3) {r c : Nat} (hr : r < R) (hc : c < C) (hs : gM_state m c = 0) {a : Int64} (ha : a ≠ 0) {z : Int32} (hz : mk z) (e : Int32) : StO C R F (N + 3) (X4_leaveSingle_J126 (nI r) w (nI c) a (gM_right m r) z e) (X9_single_J104 (nI r) m (nI c) a e z) := by
  have hr12 : r < 12 := by have := h.R12; omega
  obtain ⟨v, b, w', m', d1, d2, d3, d4, d5, d6, d7, d8⟩ := sim_lo h (by omega) hcert hru hc hs (nI r) (gM_right m r) ha hz
  have hrt : gM_right m' r = gM_right m r := by rw [d6.1.2.2.2.2.2.2.1]
  have hst : gM_state m' c = 0 := by rw [d6.1.2.2.1]; exact hs
  rcases good_cases d5 with ⟨rfl, h9⟩ | ⟨rfl, h9⟩
  · have k1 := s_lv d4 (by omega) h9 hru hr
    have k2 := s_hi d4 (by omega) h9 hru hr hc hst ha hz
    rw [hrt] at k2
    have key : StO C R F (N + 3) (X4_leaveSingle_J146 (nI r) w' (nI c) a (gM_right m r) z e) (X9_single_J123 (nI r) m' (nI c) a e z) := by
      unfold X4_leaveSingle_J146 X9_single_J123
      by_cases he : e = 0
      · rw [if_pos he, if_pos he]
        by_cases hl : a ≤ 0
        · rw [if_pos hl, if_pos hl]; exact k1.mono (by omega)
        · rw [if_neg hl, if_neg hl]; exact k2.mono (by omega)
      · rw [if_neg he, if_neg he]; exact k2.mono (by omega)
    obtain ⟨b2, w2, m2, e1, e2, e3, e4⟩ := key
    refine ⟨b2, w2, m2, ?_, ?_, e3, e4⟩
    · simp only [X4_leaveSingle_J126, d2, Option.bind_some, i10, if_false, e1]
    · simp only [X9_single_J104, inR12 hr12, cl12 hr12, if_true, d1, Option.bind_some, d3, e2]
  · refine ⟨0, w', m', ?_, ?_, d4.mono (by omega), d5⟩
    · simp only [X4_leaveSingle_J126, d2, Option.bind_some, if_true]
    · obtain ⟨q, hq⟩ := fd_some (gM_right m' r) ha
      have k1 : X9_single_J153 (nI r) m' = some m' := by simp only [X9_single_J153, no_leave h9, Option.bind_some]
      have k2 : X9_single_J134 (nI r) m' (nI c) a z = some m' := by simp only [X9_single_J134, inR12 hr12, cl12 hr12, if_true, down_eq, hq, Option.bind_some, no_high h9, k1]
      have k3 : X9_single_J123 (nI r) m' (nI c) a e z = some m' := by
        unfold X9_single_J123
        rw [k1, k2]
        split
        · split <;> rfl
        · rfl
      simp only [X9_single_J104, inR12 hr12, cl12 hr12, if_true, d1, Option.bind_some, d3, k3]
theorem r_single (h : Rl C R F N w m) (hN : N + 30 < 1000000) (hcert : gM_certificate m = -1) (hru : F.2.2.2.2.2 = 3) {r : Nat} (hr : r < R) (hg : gM_gone m r = 0) : StO C R F (N + 30) (X4_leaveSingle w (nI r)) (X9_single m (nI r)) := by
  have hR := h.R12
  have hC := h.C12
  have hr12 : r < 12 := by omega
  have hcl := cntN_le (isT m r) C
  by_cases hct : cntN (isT m r) C = 1
  · have hn : X6_nextTerm (gC_tab w) (nI r) 0 = _ := cl_next h hr hg (i := 0) (Nat.zero_le _)
    obtain ⟨s1, s2, s3, s4⟩ := nx_spec m (C := C) (r := r) (i := 0) (Nat.zero_le _)
    have hk : nx m C r 0 < C := by
      by_cases hk : nx m C r 0 < C
      · exact hk
      · have : cntN (isT m r) C = 0 := cntN_zero.mpr (fun i hi => by simp only [isT]; simpa using s3 i (by omega) (by omega))
        omega
    have ha := s4 hk
    have hs := tm_state ha
    have hloop : iter (X9_single_L12 m (nI r)) 5000 0 = some (nI (nx m C r 0)) := iter_to (step := X9_single_L12 m (nI r)) (nx m C r 0) (fun i => nI i) (nI (nx m C r 0)) (fun i hi => by
      have ht := rf_term h hr (show i < C by omega)
      simp only [X9_single_L12, ht, s3 i (by omega) hi, if_true, Option.bind_some, nI_1]) (by
      have ht := rf_term h hr hk
      simp only [X9_single_L12, ht, ha, if_false, Option.bind_some, i10]) (f := 5000) (by omega)
    generalize hcc : nx m C r 0 = c at *
    have hc12 : c < 12 := by omega
    obtain ⟨⟨r1, r2⟩, r3, r4, r5, r6⟩ := h.2.2.2.1 r hr
    have hkd := h.kd hr hg
    have haa := h.a hr hg hk
    have hcf := tm_coef ha
    obtain ⟨w1, m1, p1, p2, p3, p4, -⟩ := sim_imp h hcert r3
    have k1 := s_lv h (by omega) hcert hru hr
    have k2 := s_hi h (by omega) hcert hru hr hk hs ha r3
    have k3 := s_lo h (by omega) hcert hru hr hk hs ha r3
    have key : ∀ e : Int32, StO C R F (N + 30) (X4_leaveSingle_J115 (nI r) w (nI c) (tm m r c) (gM_right m r) (gM_rest m r) e) (X9_single_J85 (nI r) m (nI c) (tm m r c) e) := fun e => by
      unfold X4_leaveSingle_J115 X9_single_J85
      rw [if_pos (inR12 hr12), cl12 hr12]
      by_cases he : e = 0
      · rw [if_pos he, if_pos he]
        rcases i64_pos ha with ⟨x1, x2⟩ | ⟨x1, x2⟩
        · rw [if_neg x2, if_neg x2]
          exact (k3 e).mono (by omega)
        · rw [if_pos x2, if_pos x2]
          unfold X4_leaveSingle_J146 X9_single_J123
          rw [if_pos he, if_pos he, if_neg x1, if_neg x1]
          exact k2.mono (by omega)
      · rw [if_neg he, if_neg he]
        exact (k3 e).mono (by omega)
    have key2 : ∀ e : Int32, StO C R F (N + 30) (X4_leaveSingle_J83 (nI r) w (nI c) (tm m r c) (gM_right m r) (gM_rest m r) e) (X9_single_J54 (nI r) m (nI c) (tm m r c) e) := fun e => by
      unfold X4_leaveSingle_J83 X9_single_J54
      by_cases he : e = 0
      · rw [if_pos he, if_pos he]; exact key e
      · rw [if_neg he, if_neg he, if_neg ha, if_neg ha, if_pos (inR12 hr12), cl12 hr12, if_neg ha, if_pos (inR12 hr12)]
        by_cases hq : gM_right m r - gM_right m r / tm m r c * tm m r c = 0
        · rw [if_pos hq, if_pos hq]; exact key e
        · rw [if_neg hq, if_neg hq]
          exact ⟨0, w1, m1, by simp only [p1, Option.bind_some, isB0, if_true], by simp only [p2, Option.bind_some], p3.mono (by omega), p4⟩
    have e1 : X4_leaveSingle w (nI r) = if gM_kind m r = 1 then X4_leaveSingle_J83 (nI r) w (nI c) (tm m r c) (gM_right m r) (gM_rest m r) 1 else X4_leaveSingle_J83 (nI r) w (nI c) (tm m r c) (gM_right m r) (gM_rest m r) 0 := by
      simp only [X4_leaveSingle, cl_count h hr hg, hct, Option.bind_some, show nI 1 = 1 from rfl, if_true, hn, hk, nm1 (show c ≤ 5000 by omega), if_false, inR12 hr12, inR12 hc12, cl12 hr12, cl12 hc12, hkd, haa, r1, r2]
    have e2 : X9_single m (nI r) = if gM_kind m r = 1 then X9_single_J54 (nI r) m (nI c) (tm m r c) 1 else X9_single_J54 (nI r) m (nI c) (tm m r c) 0 := by
      simp only [X9_single, rf_terms h hr, hct, Option.bind_some, show nI 1 = 1 from rfl, if_true, hloop, ix144, inR144 hr12 hc12, cl144 hr12 hc12, inR12 hr12, cl12 hr12, hcf]
    rw [e1, e2]
    split
    · exact key2 1
    · exact key2 0
  · have hne : ¬ nI (cntN (isT m r) C) = 1 := fun e => hct ((neq (by omega) (by omega)).mp (e.trans (show (1 : Int32) = nI 1 from rfl)))
    refine ⟨1, w, m, ?_, ?_, h.mono (by omega), good_yes hcert⟩
    · simp only [X4_leaveSingle, cl_count h hr hg, Option.bind_some, hne, if_false]
    · simp only [X9_single, rf_terms h hr, Option.bind_some, hne, if_false]
end S2
