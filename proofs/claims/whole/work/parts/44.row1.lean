/-! rows left out; rules 1, 3, 4, 5 -/
theorem fd1 (x : Int64) : J9_floorDiv_f86c9 x 1 = some x := by
  have h1 : x / 1 = x := Int64.div_one
  unfold J9_floorDiv_f86c9
  rw [if_neg (by decide), h1, Int64.mul_one]
  by_cases hx : 0 ≤ x ^^^ 1
  · rw [if_pos hx]
  · rw [if_neg hx, if_pos rfl]
theorem mk_orN {f : Nat → Int32} {n : Nat} (h : ∀ c, c < n → mk (f c)) : mk (orN f n) := by
  induction n with
  | zero => exact mk_0
  | succ n ih => exact mk_or (ih (fun c hc => h c (by omega))) (h n (by omega))
theorem tm_state {m : MW} {r c : Nat} (h : tm m r c ≠ 0) : gM_state m c = 0 := by
  unfold tm at h
  by_cases h1 : gM_state m c = 0
  · exact h1
  · rw [if_neg h1] at h; exact absurd rfl h
theorem rf_go {m : MW} (h : gM_certificate m = -1) : X9_goesOn m = some 1 := by simp only [X9_goesOn, h, if_true]
theorem rf_no {m : MW} (h : gM_certificate m ≠ -1) : X9_goesOn m = some 0 := by simp only [X9_goesOn, h, if_false]
theorem no_low {m : MW} (h : gM_certificate m ≠ -1) (a b c : Int32) (v : Int64) (z : Int32) : X9_narrowLow m a b c v z = some m := by
  simp only [X9_narrowLow, rf_no h, Option.bind_some, if_true]
theorem no_high {m : MW} (h : gM_certificate m ≠ -1) (a b c : Int32) (v : Int64) (z : Int32) : X9_narrowHigh m a b c v z = some m := by
  simp only [X9_narrowHigh, rf_no h, Option.bind_some, if_true]
theorem no_leave {m : MW} (h : gM_certificate m ≠ -1) (a b : Int32) : X9_leave m a b = some m := by
  simp only [X9_leave, rf_no h, Option.bind_some, if_true]
section S1
variable {C R : Nat} {F : FR} {N : Nat} {w : CW} {m : MW}
theorem Rl.mkS (h : Rl C R F N w m) (r : Nat) (bt gr : Int32) : mk (orN (fS m r bt gr) C) := mk_orN (fun c hc => by
  obtain ⟨-, c7, c8, -⟩ := h.2.2.1 c hc
  unfold fS
  split
  · exact mk_0
  · split
    · exact mk_0
    · by_cases h4 : (if tm m r c ≤ 0 then (0 : Int32) else 1) = gr
      · rw [if_pos h4]; exact c8
      · rw [if_neg h4]; exact c7)
theorem Rl.mkR (h : Rl C R F N w m) {r : Nat} (hr : r < R) : mk (gM_rest m r) := (h.2.2.2.1 r hr).2.1
theorem sim_leave (h : Rl C R F N w m) (hN : N < 1000000) (hcert : gM_certificate m = -1) {r : Nat} (hr : r < R) : ∃ w' a1 a2 a3 a4 a5 k, X5_leaveOut w (nI r) = some w' ∧ X9_leave m F.2.2.2.2.2 (nI r) = some (mA (sM_gone m (upd (gM_gone m) r 1)) a1 a2 a3 a4 a5 k) ∧ Rl C R F (N + 1) w' (mA (sM_gone m (upd (gM_gone m) r 1)) a1 a2 a3 a4 a5 k) := by
  have hR := h.R12
  have hr12 : r < 12 := by omega
  have one : ¬ ((1 : Int32) = 0) := by decide
  obtain ⟨⟨r1, r2⟩, r3, r4, r5, r6⟩ := h.2.2.2.1 r hr
  obtain ⟨nn, a1, a2, a3, a4, a5, q1, q2, q3⟩ := sim_act (w := (sC_tab w (sT_kind (gC_tab w) (upd (gT_kind (gC_tab w)) r (-1))))) (m := sM_gone m (upd (gM_gone m) r 1)) (N := N) (by
        obtain ⟨k, k1, k2, k3, k4⟩ := h.2.2.2.2.1
        exact ⟨k, k1, k2, k3, k4⟩) hN F.2.2.2.2.2 (nI r) (-1) 0 (gM_right m r)
  refine ⟨wA (sC_tab w (sT_kind (gC_tab w) (upd (gT_kind (gC_tab w)) r (-1)))) nn (gC_count w + 1), a1, a2, a3, a4, a5, (gM_acts m + 1), ?_, ?_, ⟨h.1, h.2.1, h.2.2.1, ?_, q3, ?_, h.2.2.2.2.2.2.1, h.2.2.2.2.2.2.2⟩⟩
  · have hru : gC_rule (sC_tab w (sT_kind (gC_tab w) (upd (gT_kind (gC_tab w)) r (-1)))) = F.2.2.2.2.2 := h.2.1.2.2.2.2.2
    have q1' : X0_note (sC_tab w (sT_kind (gC_tab w) (upd (gT_kind (gC_tab w)) r (-1)))) (gC_rule (sC_tab w (sT_kind (gC_tab w) (upd (gT_kind (gC_tab w)) r (-1))))) (nI r) (-1) 0 (gT_right (gC_tab (sC_tab w (sT_kind (gC_tab w) (upd (gT_kind (gC_tab w)) r (-1))))) r) = some (wA (sC_tab w (sT_kind (gC_tab w) (upd (gT_kind (gC_tab w)) r (-1)))) nn (gC_count (sC_tab w (sT_kind (gC_tab w) (upd (gT_kind (gC_tab w)) r (-1)))) + 1)) := by
      rw [hru, show gT_right (gC_tab (sC_tab w (sT_kind (gC_tab w) (upd (gT_kind (gC_tab w)) r (-1))))) r = gM_right m r from r1]
      exact q1
    simp only [X5_leaveOut, inR12 hr12, cl12 hr12, if_true, bnd]
    rw [q1']
    rfl
  · simp only [X9_leave, rf_go hcert, Option.bind_some, one, if_false, inR12 hr12, cl12 hr12, if_true, bnd, show vp_nar .boolean 1 = 1 from rfl]
    rw [q2]
    rfl
  · intro r' hr'
    by_cases e : r' = r
    · subst e
      refine ⟨⟨r1, r2⟩, r3, r4, big_mono r5 (by omega), Or.inr ⟨?_, ?_⟩⟩
      · show upd (gM_gone m) r' 1 r' = 1
        simp only [upd, if_true]
      · show upd (gT_kind (gC_tab w)) r' (-1) r' = -1
        simp only [upd, if_true]
    · obtain ⟨p1, p3, p4, p5, p6⟩ := h.2.2.2.1 r' hr'
      have g1 : gM_gone (sM_gone m (upd (gM_gone m) r 1)) r' = gM_gone m r' := by show upd (gM_gone m) r 1 r' = _; simp only [upd, e, if_false]
      have g2 : gT_kind (gC_tab (sC_tab w (sT_kind (gC_tab w) (upd (gT_kind (gC_tab w)) r (-1))))) r' = gT_kind (gC_tab w) r' := by show upd (gT_kind (gC_tab w)) r (-1) r' = _; simp only [upd, e, if_false]
      refine ⟨p1, p3, p4, big_mono p5 (by omega), ?_⟩
      rcases p6 with ⟨x1, x2, x3⟩ | ⟨x1, x2⟩
      · exact Or.inl ⟨g1.trans x1, g2.trans x2, x3⟩
      · exact Or.inr ⟨g1.trans x1, g2.trans x2⟩
  · exact h.2.2.2.2.2.1
/-- how a rule's two sides end -/
def StO (C R : Nat) (F : FR) (N : Nat) (x : Option (Int32 × CW)) (y : Option MW) : Prop := ∃ b w' m', x = some (b, w') ∧ y = some m' ∧ Rl C R F N w' m' ∧ good b m'
theorem cl_hold0 (h : Rl C R F N w m) {r : Nat} (hr : r < R) (hg : gM_gone m r = 0) (v : Int64) : X6_isHolding (gC_tab w) (nI r) v = some (if gM_kind m r = 0 then (if gM_right m r < v then 0 else 1) else (if gM_right m r = v then 1 else 0)) := by
  have hR := h.R12
  have hr12 : r < 12 := by omega
  have hk := h.kd hr hg
  obtain ⟨⟨r1, r2⟩, r3, r4, r5, r6⟩ := h.2.2.2.1 r hr
  have k1 : ¬ gM_kind m r = -1 := by rcases r4 with e | e <;> rw [e] <;> decide
  simp only [X6_isHolding, X6_isGone, X6_isHolding_J39, inR12 hr12, cl12 hr12, if_true, hk, k1, if_false, Option.bind_some, r1]
  by_cases e : v = gM_right m r
  · subst e
    simp [Int64.lt_irrefl]
  · have e' : ¬ gM_right m r = v := fun q => e q.symm
    by_cases k0 : gM_kind m r = 0
    · by_cases hlt : gM_right m r < v
      · simp [e, k0, hlt, Int64.le_of_lt hlt]
      · have : ¬ gM_right m r ≤ v := fun q => by
          have a1 := Int64.le_iff_toInt_le.mp q
          have a2 : ¬ (gM_right m r).toInt < v.toInt := fun z => hlt (Int64.lt_iff_toInt_lt.mpr z)
          exact e' (Int64.toInt_inj.mp (by omega))
        simp [e, k0, hlt, this]
    · simp [e, e', k0]
theorem isB0 : isB 0 = true := rfl
theorem isB1 : isB 1 = true := rfl
theorem isBg {b : Int32} {m : MW} (h : good b m) : isB b = true := by
  unfold good at h
  rw [h]
  split <;> rfl
theorem r_empty (h : Rl C R F N w m) (hN : N + 30 < 1000000) (hcert : gM_certificate m = -1) (hru : F.2.2.2.2.2 = 1) {r : Nat} (hr : r < R) (hg : gM_gone m r = 0) : StO C R F (N + 30) (X4_leaveEmpty w (nI r)) (X9_empty m (nI r)) := by
  have hR := h.R12
  have hC := h.C12
  have hr12 : r < 12 := by omega
  have hn := cl_next h hr hg (i := 0) (Nat.zero_le _)
  obtain ⟨s1, s2, s3, s4⟩ := nx_spec m (C := C) (r := r) (i := 0) (Nat.zero_le _)
  have hn0 : X6_nextTerm (gC_tab w) (nI r) 0 = _ := hn
  by_cases hk : nx m C r 0 < C
  · have hne : ¬ nI (nx m C r 0) = -1 := fun e => by
      have := nI_toInt (n := nx m C r 0) (by omega)
      rw [e] at this
      have h2 : (-1 : Int32).toInt = -1 := rfl
      omega
    have hct : ¬ cntN (isT m r) C = 0 := fun e => by
      have := cntN_zero.mp e _ hk
      simp only [isT] at this
      exact s4 hk (by simpa using this)
    have hle : ¬ nI (cntN (isT m r) C) ≤ 0 := nI_nle (by omega) (by have := cntN_le (isT m r) C; omega)
    refine ⟨1, w, m, ?_, ?_, h.mono (by omega), ?_⟩
    · simp only [X4_leaveEmpty, hn0, hk, if_true, Option.bind_some, hne, if_false]
    · simp only [X9_empty, rf_terms h hr, Option.bind_some, hle, if_false]
    · unfold good; rw [if_pos hcert]
  · have hct : cntN (isT m r) C = 0 := cntN_zero.mpr (fun i hi => by simp only [isT]; simpa using s3 i (by omega) (by omega))
    have hle : nI (cntN (isT m r) C) ≤ 0 := by rw [hct]; decide
    have hh := cl_hold0 h hr hg 0
    obtain ⟨⟨r1, r2⟩, r3, r4, r5, r6⟩ := h.2.2.2.1 r hr
    obtain ⟨w1, m1, p1, p2, p3, p4, -⟩ := sim_imp h hcert r3
    obtain ⟨w2, a1, a2, a3, a4, a5, k, q1, q2, q3⟩ := sim_leave h (by omega) hcert hr
    rw [hru] at q2
    have two : ((1 : Int32) = 0) = False := i10
    rcases r4 with k0 | k0
    · by_cases hlt : gM_right m r < 0
      · refine ⟨0, w1, m1, ?_, ?_, p3.mono (by omega), p4⟩
        · simp only [X4_leaveEmpty, hn0, hk, if_false, Option.bind_some, if_true, hh, k0, hlt, inR12 hr12, cl12 hr12, r2, p1, isB0]
        · simp only [X9_empty, rf_terms h hr, Option.bind_some, hle, if_true, inR12 hr12, cl12 hr12, k0, hlt, X9_empty_J52, p2]
      · refine ⟨1, w2, _, ?_, ?_, q3.mono (by omega), ?_⟩
        · simp only [X4_leaveEmpty, hn0, hk, if_false, Option.bind_some, if_true, hh, k0, hlt, i10, q1]
        · simp only [X9_empty, rf_terms h hr, Option.bind_some, hle, if_true, inR12 hr12, cl12 hr12, k0, hlt, if_false, X9_empty_J43, q2]
        · show (1 : Int32) = if gM_certificate m = -1 then 1 else 0
          rw [if_pos hcert]
    · by_cases heq : gM_right m r = 0
      · refine ⟨1, w2, _, ?_, ?_, q3.mono (by omega), ?_⟩
        · simp only [X4_leaveEmpty, hn0, hk, if_false, Option.bind_some, if_true, hh, k0, heq, i10, q1]
        · simp only [X9_empty, rf_terms h hr, Option.bind_some, hle, if_true, inR12 hr12, cl12 hr12, k0, i10, heq, if_false, X9_empty_J43, q2]
        · show (1 : Int32) = if gM_certificate m = -1 then 1 else 0
          rw [if_pos hcert]
      · refine ⟨0, w1, m1, ?_, ?_, p3.mono (by omega), p4⟩
        · simp only [X4_leaveEmpty, hn0, hk, if_false, Option.bind_some, if_true, hh, k0, heq, i10, inR12 hr12, cl12 hr12, r2, p1, isB0]
        · simp only [X9_empty, rf_terms h hr, Option.bind_some, hle, if_true, inR12 hr12, cl12 hr12, k0, i10, heq, if_false, X9_empty_J52, p2]
end S1
