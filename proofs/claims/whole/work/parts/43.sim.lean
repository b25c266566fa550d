/-! bounds narrowed, in class and reference alike -/
theorem i32_back {v : Int64} (h : -10000 ≤ v.toInt ∧ v.toInt ≤ 10000) : v.toInt32.toInt64 = v ∧ v.toInt32.toInt = v.toInt := by
  have e : v.toInt32.toInt = v.toInt := by
    rw [Int64.toInt_toInt32, Int.bmod_eq_of_le (by omega) (by omega)]
  exact ⟨Int64.toInt_inj.mp (by rw [Int32.toInt_toInt64, e]), e⟩
theorem toI {m : MW} (c : Nat) : (lo m c).toInt = (gM_low m c).toInt ∧ (hi m c).toInt = (gM_high m c).toInt := ⟨Int32.toInt_toInt64 _, Int32.toInt_toInt64 _⟩
section SM
variable {C R : Nat} {F : FR} {N : Nat} {w : CW} {m : MW}
theorem sim_imp (h : Rl C R F N w m) (hc : gM_certificate m = -1) {z : Int32} (hz : mk z) : ∃ w' m', X5_endAll w z = some (0, w') ∧ X9_impossible m z = some m' ∧ Rl C R F N w' m' ∧ good 0 m' ∧ NR m m' := by
  refine ⟨sC_certificate w z, sM_certificate m z, rfl, ?_, ?_, ?_, ?_⟩
  · simp only [X9_impossible, X9_impossible_J17, hc, if_true, bnd]
  · exact ⟨h.1, h.2.1, h.2.2.1, h.2.2.2.1, h.2.2.2.2.1, h.2.2.2.2.2.1, h.2.2.2.2.2.2.1, rfl⟩
  · show (0 : Int32) = if z = -1 then 1 else 0
    rw [if_neg (mk_ne hz)]
  · exact ⟨⟨rfl, rfl, rfl, rfl, rfl, rfl, rfl, rfl, rfl, rfl⟩, fun c => ⟨Int64.le_refl _, Int64.le_refl _⟩⟩
def OC (c : Nat) (m m' : MW) : Prop := ∀ c', c' ≠ c → gM_low m' c' = gM_low m c' ∧ gM_high m' c' = gM_high m c' ∧ gM_lowRest m' c' = gM_lowRest m c' ∧ gM_highRest m' c' = gM_highRest m c'
theorem OC.refl (c : Nat) (m : MW) : OC c m m := fun c' _ => ⟨rfl, rfl, rfl, rfl⟩
theorem sim_impO (c : Nat) (h : Rl C R F N w m) (hc : gM_certificate m = -1) {z : Int32} (hz : mk z) : ∃ w' m', X5_endAll w z = some (0, w') ∧ X9_impossible m z = some m' ∧ Rl C R F N w' m' ∧ good 0 m' ∧ NR m m' ∧ OC c m m' := by
  refine ⟨sC_certificate w z, sM_certificate m z, rfl, ?_, ?_, ?_, ?_, fun c' _ => ⟨rfl, rfl, rfl, rfl⟩⟩
  · simp only [X9_impossible, X9_impossible_J17, hc, if_true, bnd]
  · exact ⟨h.1, h.2.1, h.2.2.1, h.2.2.2.1, h.2.2.2.2.1, h.2.2.2.2.2.1, h.2.2.2.2.2.2.1, rfl⟩
  · show (0 : Int32) = if z = -1 then 1 else 0
    rw [if_neg (mk_ne hz)]
  · exact ⟨⟨rfl, rfl, rfl, rfl, rfl, rfl, rfl, rfl, rfl, rfl⟩, fun c => ⟨Int64.le_refl _, Int64.le_refl _⟩⟩
theorem good_no {b : Int32} {m : MW} (h : good b m) (hb : b = 0) : gM_certificate m ≠ -1 := fun h9 => by
  unfold good at h
  rw [if_pos h9, hb] at h
  exact absurd h (by decide)
theorem sim_high (h : Rl C R F N w m) (hN : N < 1000000) (hcert : gM_certificate m = -1) {c : Nat} (hc : c < C) (hs : gM_state m c = 0) (row : Int32) {a d v : Int64} (hd : d ≠ 0) (hv : J9_floorDiv_f86c9 a d = some v) {z : Int32} (hz : mk z) : ∃ b w' m', X5_narrow w row (nI c) 1 a d z = some (b, w') ∧ X9_narrowHigh m F.2.2.2.2.2 row (nI c) v z = some m' ∧ Rl C R F (N + 1) w' m' ∧ good b m' ∧ NR m m' ∧ (gM_certificate m' = -1 → hi m' c ≤ v) ∧ OC c m m' := by
  have hC := h.C12
  have hc12 : c < 12 := by omega
  obtain ⟨⟨c1, c2, c3, c4, c5, c6⟩, c7, c8, c9, c10, c11, c12⟩ := h.2.2.1 c hc
  have hg : X9_goesOn m = some 1 := by simp only [X9_goesOn, hcert, if_true]
  have one : ¬ ((1 : Int32) = 0) := by decide
  by_cases h1 : v < hi m c
  · by_cases h2 : lo m c ≤ v
    · -- narrowed
      have hvI : -10000 ≤ v.toInt ∧ v.toInt ≤ 10000 := by
        have a1 := Int64.lt_iff_toInt_lt.mp h1
        have a2 := Int64.le_iff_toInt_le.mp h2
        rw [(toI c).2] at a1
        rw [(toI c).1] at a2
        omega
      obtain ⟨b1, b2⟩ := i32_back hvI
      obtain ⟨nn, a1, a2, a3, a4, a5, q1, q2, q3⟩ := sim_act (w := (sC_highRest (sC_tab w (sT_high (gC_tab w) (vp_updL (gT_high (gC_tab w)) c v))) (upd (gC_highRest w) c z))) (m := (sM_highRest (sM_high m (upd (gM_high m) c v.toInt32)) (upd (gM_highRest m) c z))) (N := N) (by
        obtain ⟨k, k1, k2, k3, k4⟩ := h.2.2.2.2.1
        exact ⟨k, k1, k2, k3, k4⟩) hN F.2.2.2.2.2 row (nI c) 2 v
      refine ⟨1, wA (sC_highRest (sC_tab w (sT_high (gC_tab w) (vp_updL (gT_high (gC_tab w)) c v))) (upd (gC_highRest w) c z)) nn (gC_count (sC_highRest (sC_tab w (sT_high (gC_tab w) (vp_updL (gT_high (gC_tab w)) c v))) (upd (gC_highRest w) c z)) + 1), mA (sM_highRest (sM_high m (upd (gM_high m) c v.toInt32)) (upd (gM_highRest m) c z)) a1 a2 a3 a4 a5 (gM_acts (sM_highRest (sM_high m (upd (gM_high m) c v.toInt32)) (upd (gM_highRest m) c z)) + 1), ?_, ?_, ⟨h.1, h.2.1, ?_, ?_, q3, ?_, h.2.2.2.2.2.2.1, h.2.2.2.2.2.2.2⟩, ?_, ?_, ?_, ?_⟩
      · have e1 : ¬ v < lo m c := Int64.not_lt.mpr h2
        have e2 : v ≤ hi m c := Int64.le_of_lt h1
        have hru : gC_rule (sC_highRest (sC_tab w (sT_high (gC_tab w) (vp_updL (gT_high (gC_tab w)) c v))) (upd (gC_highRest w) c z)) = F.2.2.2.2.2 := h.2.1.2.2.2.2.2
        have q1' : X0_note (sC_highRest (sC_tab w (sT_high (gC_tab w) (vp_updL (gT_high (gC_tab w)) c v))) (upd (gC_highRest w) c z)) (gC_rule (sC_highRest (sC_tab w (sT_high (gC_tab w) (vp_updL (gT_high (gC_tab w)) c v))) (upd (gC_highRest w) c z))) row (nI c) 2 v = some (wA (sC_highRest (sC_tab w (sT_high (gC_tab w) (vp_updL (gT_high (gC_tab w)) c v))) (upd (gC_highRest w) c z)) nn (gC_count (sC_highRest (sC_tab w (sT_high (gC_tab w) (vp_updL (gT_high (gC_tab w)) c v))) (upd (gC_highRest w) c z)) + 1)) := by rw [hru]; exact q1
        simp only [X5_narrow, hd, one, if_false, hv, Option.bind_some, Int64.neg_neg, X5_narrow_J32, inR12 hc12, cl12 hc12, if_true, c3, c2, h1, X5_narrow_J73, e1, e2, bnd, X5_narrow_J175, X5_narrow_J194]
        rw [q1']
        rfl
      · simp only [X9_narrowHigh, hg, Option.bind_some, one, if_false, inR12 hc12, cl12 hc12, if_true, h1, h2, bnd]
        rw [q2]
        rfl
      · intro c' hc'
        by_cases e : c' = c
        · subst e
          refine ⟨⟨c1, c2, ?_, c4, c5, ?_⟩, c7, ?_, c9, ?_, ?_, c12⟩
          · show vp_updL (gT_high (gC_tab w)) c' v c' = (upd (gM_high m) c' v.toInt32 c').toInt64
            simp only [vp_updL, upd, if_true, b1]
          · show upd (gC_highRest w) c' z c' = upd (gM_highRest m) c' z c'
            simp only [upd, if_true]
          · show mk (upd (gM_highRest m) c' z c')
            simp only [upd, if_true]; exact hz
          · show (gM_low m c').toInt ≤ (upd (gM_high m) c' v.toInt32 c').toInt
            simp only [upd, if_true, b2]
            have a2 := Int64.le_iff_toInt_le.mp h2
            rw [(toI c').1] at a2
            exact a2
          · show (upd (gM_high m) c' v.toInt32 c').toInt ≤ 10000
            simp only [upd, if_true, b2]
            exact hvI.2
        · have hcol := h.2.2.1 c' hc'
          obtain ⟨⟨d1, d2, d3, d4, d5, d6⟩, d7, d8, d9, d10, d11, d12⟩ := hcol
          refine ⟨⟨d1, d2, ?_, d4, d5, ?_⟩, d7, ?_, d9, ?_, ?_, d12⟩
          · show vp_updL (gT_high (gC_tab w)) c v c' = (upd (gM_high m) c v.toInt32 c').toInt64
            simp only [vp_updL, upd, e, if_false]; exact d3
          · show upd (gC_highRest w) c z c' = upd (gM_highRest m) c z c'
            simp only [upd, e, if_false]; exact d6
          · show mk (upd (gM_highRest m) c z c')
            simp only [upd, e, if_false]; exact d8
          · show (gM_low m c').toInt ≤ (upd (gM_high m) c v.toInt32 c').toInt
            simp only [upd, e, if_false]; exact d10
          · show (upd (gM_high m) c v.toInt32 c').toInt ≤ 10000
            simp only [upd, e, if_false]; exact d11
      · exact fun r hr => rowOK_mono (h.2.2.2.1 r hr) (by omega)
      · obtain ⟨P, p1, p2, p3, p4⟩ := h.2.2.2.2.2.1
        refine ⟨P, p1, p2, p3, fun i hi => ?_⟩
        obtain ⟨x, x1, x2, x3, x4, x5, x6, x7⟩ := p4 i hi
        refine ⟨x, x1, x2, x3, x4, x5, x6, fun p hp => ?_⟩
        have hx : x ≠ c := fun e => by rw [e, hs] at x4; exact absurd x4 (by decide)
        have hp2 : inBox C m p := fun c' hc' => by
          have hh := hp c' hc'
          refine ⟨hh.1, ?_⟩
          have h3 : p c' ≤ (upd (gM_high m) c v.toInt32 c').toInt64 := hh.2
          by_cases e : c' = c
          · subst e
            simp only [upd, if_true, b1] at h3
            exact Int64.le_trans h3 (Int64.le_of_lt h1)
          · simp only [upd, e, if_false] at h3
            exact h3
        have hf := x7 p hp2
        refine ⟨hf.1, ?_⟩
        show _ ≤ (upd (gM_high m) c v.toInt32 x).toInt64
        simp only [upd, hx, if_false]
        exact hf.2
      · show (1 : Int32) = if gM_certificate m = -1 then 1 else 0
        rw [if_pos hcert]
      · refine ⟨⟨rfl, rfl, rfl, rfl, rfl, rfl, rfl, rfl, rfl, rfl⟩, fun c' => ⟨Int64.le_refl _, ?_⟩⟩
        show (upd (gM_high m) c v.toInt32 c').toInt64 ≤ hi m c'
        by_cases e : c' = c
        · subst e
          simp only [upd, if_true, b1]
          exact Int64.le_of_lt h1
        · simp only [upd, e, if_false]
          exact Int64.le_refl _
      · intro _
        show (upd (gM_high m) c v.toInt32 c).toInt64 ≤ v
        simp only [upd, if_true, b1]
        exact Int64.le_refl _
      · intro c' e
        refine ⟨rfl, ?_, rfl, ?_⟩
        · show upd (gM_high m) c v.toInt32 c' = _
          simp only [upd, e, if_false]
        · show upd (gM_highRest m) c z c' = _
          simp only [upd, e, if_false]
    · -- impossible
      have e1 : v < lo m c := Int64.not_le.mp h2
      obtain ⟨w', m', i1, i2, i3, i4, i5, i6⟩ := sim_impO c h hcert (mk_or hz c7)
      refine ⟨0, w', m', ?_, ?_, i3.mono (by omega), i4, i5, fun h9 => absurd h9 (good_no i4 rfl), i6⟩
      · simp only [X5_narrow, hd, one, if_false, hv, Option.bind_some, Int64.neg_neg, X5_narrow_J32, inR12 hc12, cl12 hc12, if_true, c3, c2, h1, h2, X5_narrow_J73, e1, X5_narrow_J103, X5_narrow_J125, c5, i1]
        rfl
      · simp only [X9_narrowHigh, hg, Option.bind_some, one, if_false, inR12 hc12, cl12 hc12, if_true, h1, h2, i2]
  · have e1 : hi m c ≤ v := Int64.not_lt.mp h1
    refine ⟨1, w, m, ?_, ?_, h.mono (by omega), ?_, NR.refl m, fun _ => e1, OC.refl c m⟩
    · simp only [X5_narrow, hd, one, if_false, hv, Option.bind_some, Int64.neg_neg, X5_narrow_J32, inR12 hc12, cl12 hc12, if_true, c3, c2, h1]
    · simp only [X9_narrowHigh, hg, Option.bind_some, one, if_false, inR12 hc12, cl12 hc12, if_true, h1]
    · unfold good; rw [if_pos hcert]
theorem sim_low (h : Rl C R F N w m) (hN : N < 1000000) (hcert : gM_certificate m = -1) {c : Nat} (hc : c < C) (hs : gM_state m c = 0) (row : Int32) {a d v : Int64} (hd : d ≠ 0) (hv : J9_floorDiv_f86c9 (-a) d = some (-v)) {z : Int32} (hz : mk z) : ∃ b w' m', X5_narrow w row (nI c) 0 a d z = some (b, w') ∧ X9_narrowLow m F.2.2.2.2.2 row (nI c) v z = some m' ∧ Rl C R F (N + 1) w' m' ∧ good b m' ∧ NR m m' ∧ (gM_certificate m' = -1 → v ≤ lo m' c) ∧ OC c m m' := by
  have hC := h.C12
  have hc12 : c < 12 := by omega
  obtain ⟨⟨c1, c2, c3, c4, c5, c6⟩, c7, c8, c9, c10, c11, c12⟩ := h.2.2.1 c hc
  have hg : X9_goesOn m = some 1 := by simp only [X9_goesOn, hcert, if_true]
  have one : ¬ ((1 : Int32) = 0) := by decide
  by_cases h1 : lo m c < v
  · by_cases h2 : v ≤ hi m c
    · -- narrowed
      have hvI : -10000 ≤ v.toInt ∧ v.toInt ≤ 10000 := by
        have a1 := Int64.lt_iff_toInt_lt.mp h1
        have a2 := Int64.le_iff_toInt_le.mp h2
        rw [(toI c).1] at a1
        rw [(toI c).2] at a2
        omega
      obtain ⟨b1, b2⟩ := i32_back hvI
      obtain ⟨nn, a1, a2, a3, a4, a5, q1, q2, q3⟩ := sim_act (w := (sC_lowRest (sC_tab w (sT_low (gC_tab w) (vp_updL (gT_low (gC_tab w)) c v))) (upd (gC_lowRest w) c z))) (m := (sM_lowRest (sM_low m (upd (gM_low m) c v.toInt32)) (upd (gM_lowRest m) c z))) (N := N) (by
        obtain ⟨k, k1, k2, k3, k4⟩ := h.2.2.2.2.1
        exact ⟨k, k1, k2, k3, k4⟩) hN F.2.2.2.2.2 row (nI c) 1 v
      refine ⟨1, wA (sC_lowRest (sC_tab w (sT_low (gC_tab w) (vp_updL (gT_low (gC_tab w)) c v))) (upd (gC_lowRest w) c z)) nn (gC_count (sC_lowRest (sC_tab w (sT_low (gC_tab w) (vp_updL (gT_low (gC_tab w)) c v))) (upd (gC_lowRest w) c z)) + 1), mA (sM_lowRest (sM_low m (upd (gM_low m) c v.toInt32)) (upd (gM_lowRest m) c z)) a1 a2 a3 a4 a5 (gM_acts (sM_lowRest (sM_low m (upd (gM_low m) c v.toInt32)) (upd (gM_lowRest m) c z)) + 1), ?_, ?_, ⟨h.1, h.2.1, ?_, ?_, q3, ?_, h.2.2.2.2.2.2.1, h.2.2.2.2.2.2.2⟩, ?_, ?_, ?_, ?_⟩
      · have e1 : ¬ v < lo m c := Int64.not_lt.mpr (Int64.le_of_lt h1)
        have e2 : v ≤ hi m c := h2
        have hru : gC_rule (sC_lowRest (sC_tab w (sT_low (gC_tab w) (vp_updL (gT_low (gC_tab w)) c v))) (upd (gC_lowRest w) c z)) = F.2.2.2.2.2 := h.2.1.2.2.2.2.2
        have q1' : X0_note (sC_lowRest (sC_tab w (sT_low (gC_tab w) (vp_updL (gT_low (gC_tab w)) c v))) (upd (gC_lowRest w) c z)) (gC_rule (sC_lowRest (sC_tab w (sT_low (gC_tab w) (vp_updL (gT_low (gC_tab w)) c v))) (upd (gC_lowRest w) c z))) row (nI c) 1 v = some (wA (sC_lowRest (sC_tab w (sT_low (gC_tab w) (vp_updL (gT_low (gC_tab w)) c v))) (upd (gC_lowRest w) c z)) nn (gC_count (sC_lowRest (sC_tab w (sT_low (gC_tab w) (vp_updL (gT_low (gC_tab w)) c v))) (upd (gC_lowRest w) c z)) + 1)) := by rw [hru]; exact q1
        simp only [X5_narrow, hd, one, if_false, hv, Option.bind_some, Int64.neg_neg, X5_narrow_J32, inR12 hc12, cl12 hc12, if_true, c3, c2, h1, X5_narrow_J73, e1, e2, bnd, X5_narrow_J175, X5_narrow_J194]
        rw [q1']
        rfl
      · simp only [X9_narrowLow, hg, Option.bind_some, one, if_false, inR12 hc12, cl12 hc12, if_true, h1, h2, bnd]
        rw [q2]
        rfl
      · intro c' hc'
        by_cases e : c' = c
        · subst e
          refine ⟨⟨c1, ?_, c3, c4, ?_, c6⟩, ?_, c8, ?_, ?_, c11, c12⟩
          · show vp_updL (gT_low (gC_tab w)) c' v c' = (upd (gM_low m) c' v.toInt32 c').toInt64
            simp only [vp_updL, upd, if_true, b1]
          · show upd (gC_lowRest w) c' z c' = upd (gM_lowRest m) c' z c'
            simp only [upd, if_true]
          · show mk (upd (gM_lowRest m) c' z c')
            simp only [upd, if_true]; exact hz
          · show -10000 ≤ (upd (gM_low m) c' v.toInt32 c').toInt
            simp only [upd, if_true, b2]
            exact hvI.1
          · show (upd (gM_low m) c' v.toInt32 c').toInt ≤ (gM_high m c').toInt
            simp only [upd, if_true, b2]
            have a2 := Int64.le_iff_toInt_le.mp h2
            rw [(toI c').2] at a2
            exact a2
        · have hcol := h.2.2.1 c' hc'
          obtain ⟨⟨d1, d2, d3, d4, d5, d6⟩, d7, d8, d9, d10, d11, d12⟩ := hcol
          refine ⟨⟨d1, ?_, d3, d4, ?_, d6⟩, ?_, d8, ?_, ?_, d11, d12⟩
          · show vp_updL (gT_low (gC_tab w)) c v c' = (upd (gM_low m) c v.toInt32 c').toInt64
            simp only [vp_updL, upd, e, if_false]; exact d2
          · show upd (gC_lowRest w) c z c' = upd (gM_lowRest m) c z c'
            simp only [upd, e, if_false]; exact d5
          · show mk (upd (gM_lowRest m) c z c')
            simp only [upd, e, if_false]; exact d7
          · show -10000 ≤ (upd (gM_low m) c v.toInt32 c').toInt
            simp only [upd, e, if_false]; exact d9
          · show (upd (gM_low m) c v.toInt32 c').toInt ≤ (gM_high m c').toInt
            simp only [upd, e, if_false]; exact d10
      · exact fun r hr => rowOK_mono (h.2.2.2.1 r hr) (by omega)
      · obtain ⟨P, p1, p2, p3, p4⟩ := h.2.2.2.2.2.1
        refine ⟨P, p1, p2, p3, fun i hi => ?_⟩
        obtain ⟨x, x1, x2, x3, x4, x5, x6, x7⟩ := p4 i hi
        refine ⟨x, x1, x2, x3, x4, x5, x6, fun p hp => ?_⟩
        have hx : x ≠ c := fun e => by rw [e, hs] at x4; exact absurd x4 (by decide)
        have hp2 : inBox C m p := fun c' hc' => by
          have hh := hp c' hc'
          refine ⟨?_, hh.2⟩
          have h3 : (upd (gM_low m) c v.toInt32 c').toInt64 ≤ p c' := hh.1
          by_cases e : c' = c
          · subst e
            simp only [upd, if_true, b1] at h3
            exact Int64.le_trans (Int64.le_of_lt h1) h3
          · simp only [upd, e, if_false] at h3
            exact h3
        have hf := x7 p hp2
        refine ⟨?_, hf.2⟩
        show (upd (gM_low m) c v.toInt32 x).toInt64 ≤ _
        simp only [upd, hx, if_false]
        exact hf.1
      · show (1 : Int32) = if gM_certificate m = -1 then 1 else 0
        rw [if_pos hcert]
      · refine ⟨⟨rfl, rfl, rfl, rfl, rfl, rfl, rfl, rfl, rfl, rfl⟩, fun c' => ⟨?_, Int64.le_refl _⟩⟩
        show lo m c' ≤ (upd (gM_low m) c v.toInt32 c').toInt64
        by_cases e : c' = c
        · subst e
          simp only [upd, if_true, b1]
          exact Int64.le_of_lt h1
        · simp only [upd, e, if_false]
          exact Int64.le_refl _
      · intro _
        show v ≤ (upd (gM_low m) c v.toInt32 c).toInt64
        simp only [upd, if_true, b1]
        exact Int64.le_refl _
      · intro c' e
        refine ⟨?_, rfl, ?_, rfl⟩
        · show upd (gM_low m) c v.toInt32 c' = _
          simp only [upd, e, if_false]
        · show upd (gM_lowRest m) c z c' = _
          simp only [upd, e, if_false]
    · -- impossible
      have e1 : ¬ v < lo m c := Int64.not_lt.mpr (Int64.le_of_lt h1)
      obtain ⟨w', m', i1, i2, i3, i4, i5, i6⟩ := sim_impO c h hcert (mk_or hz c8)
      refine ⟨0, w', m', ?_, ?_, i3.mono (by omega), i4, i5, fun h9 => absurd h9 (good_no i4 rfl), i6⟩
      · simp only [X5_narrow, hd, one, if_false, hv, Option.bind_some, Int64.neg_neg, X5_narrow_J32, inR12 hc12, cl12 hc12, if_true, c3, c2, h1, h2, X5_narrow_J73, e1, X5_narrow_J103, X5_narrow_J125, c6, i1]
        rfl
      · simp only [X9_narrowLow, hg, Option.bind_some, one, if_false, inR12 hc12, cl12 hc12, if_true, h1, h2, i2]
  · have e1 : v ≤ lo m c := Int64.not_lt.mp h1
    refine ⟨1, w, m, ?_, ?_, h.mono (by omega), ?_, NR.refl m, fun _ => e1, OC.refl c m⟩
    · simp only [X5_narrow, hd, one, if_false, hv, Option.bind_some, Int64.neg_neg, X5_narrow_J32, inR12 hc12, cl12 hc12, if_true, c3, c2, h1]
    · simp only [X9_narrowLow, hg, Option.bind_some, one, if_false, inR12 hc12, cl12 hc12, if_true, h1]
    · unfold good; rw [if_pos hcert]
theorem fd_some (a : Int64) {d : Int64} (hd : d ≠ 0) : ∃ q, J9_floorDiv_f86c9 a d = some q := by
  unfold J9_floorDiv_f86c9
  rw [if_neg hd]
  split
  · exact ⟨_, rfl⟩
  · split
    · exact ⟨_, rfl⟩
    · exact ⟨_, rfl⟩
theorem sim_hi (h : Rl C R F N w m) (hN : N < 1000000) (hcert : gM_certificate m = -1) {ru : Int32} (hru : F.2.2.2.2.2 = ru) {c : Nat} (hc : c < C) (hs : gM_state m c = 0) (row : Int32) (a : Int64) {d : Int64} (hd : d ≠ 0) {z : Int32} (hz : mk z) : ∃ v b w' m', X9_down a d = some v ∧ X5_narrow w row (nI c) 1 a d z = some (b, w') ∧ X9_narrowHigh m ru row (nI c) v z = some m' ∧ Rl C R F (N + 1) w' m' ∧ good b m' ∧ NR m m' ∧ OC c m m' ∧ (gM_certificate m' = -1 → hi m' c ≤ v) := by
  subst hru
  obtain ⟨v, hv⟩ := fd_some a hd
  obtain ⟨b, w', m', h1, h2, h3, h4, h5, h6, h7⟩ := sim_high h hN hcert hc hs row hd hv hz
  exact ⟨v, b, w', m', by rw [down_eq, hv], h1, h2, h3, h4, h5, h7, h6⟩
theorem sim_lo (h : Rl C R F N w m) (hN : N < 1000000) (hcert : gM_certificate m = -1) {ru : Int32} (hru : F.2.2.2.2.2 = ru) {c : Nat} (hc : c < C) (hs : gM_state m c = 0) (row : Int32) (a : Int64) {d : Int64} (hd : d ≠ 0) {z : Int32} (hz : mk z) : ∃ v b w' m', X9_up a d = some v ∧ X5_narrow w row (nI c) 0 a d z = some (b, w') ∧ X9_narrowLow m ru row (nI c) v z = some m' ∧ Rl C R F (N + 1) w' m' ∧ good b m' ∧ NR m m' ∧ OC c m m' ∧ (gM_certificate m' = -1 → v ≤ lo m' c) := by
  subst hru
  obtain ⟨q, hq⟩ := fd_some (-a) hd
  have hv : J9_floorDiv_f86c9 (-a) d = some (- -q) := by rw [Int64.neg_neg]; exact hq
  obtain ⟨b, w', m', h1, h2, h3, h4, h5, h6, h7⟩ := sim_low h hN hcert hc hs row hd hv hz
  exact ⟨-q, b, w', m', by rw [up_eq, hq]; rfl, h1, h2, h3, h4, h5, h7, h6⟩
end SM
