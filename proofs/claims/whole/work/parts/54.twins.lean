/-! rule 7 -/
section S10
variable {C R : Nat} {F : FR} {N : Nat} {w : CW} {m : MW}
def pAl (m : MW) (r o : Nat) (sg : Int64) (c : Nat) : Bool := decide (tm m r c = sg * tm m o c)
theorem cl_times (h : Rl C R F N w m) {r o : Nat} (hr : r < R) (ho : o < R) (hg : gM_gone m r = 0) (hg2 : gM_gone m o = 0) (s : Int32) : X4_areTimes w (nI r) (nI o) s = some (if allN (pAl m r o s.toInt64) C = true then 1 else 0) := by
  have hC := h.C12
  have hR := h.R12
  have hr12 : r < 12 := by omega
  have ho12 : o < 12 := by omega
  have e := all_loop (step := X4_areTimes_L3 w (nI r) (nI o) s) (pAl m r o s.toInt64) C hC (fun i hi => by
    have hi12 : i < 12 := by omega
    simp only [X4_areTimes_L3, h.1.1, nC_le hC hi, if_false, inR12 hi12, cl12 hi12, inR12 hr12, cl12 hr12, inR12 ho12, cl12 ho12, if_true, nI_1, h.a hr hg hi, h.a ho hg2 hi, pAl, decide_eq_true_eq]) (by
    simp only [X4_areTimes_L3, h.1.1, Int32.le_refl, if_true])
  simp only [X4_areTimes, e, Option.bind_some]
  by_cases hA : allN (pAl m r o s.toInt64) C = true
  · rw [if_pos hA, if_pos hA]; rfl
  · rw [if_neg hA, if_neg hA]; rfl
theorem rf_alike (h : Rl C R F N w m) {r o : Nat} (hr : r < R) (ho : o < R) (s : Int64) : X9_alike m (nI r) (nI o) s = some (if allN (pAl m r o s) C = true then 1 else 0) := by
  have hC := h.C12
  have hR := h.R12
  have hr12 : r < 12 := by omega
  have ho12 : o < 12 := by omega
  have e := iter_to (step := X9_alike_L6 m (nI r) (nI o) s) C (fun i => ((if allN (pAl m r o s) i = true then (1 : Int32) else 0), nI i)) (if allN (pAl m r o s) C = true then 1 else 0) (fun i hi => by
    have hi12 : i < 12 := by omega
    simp only [X9_alike_L6, h.1.2.2.1, nC_le hC hi, if_false, inR12 hi12, cl12 hi12, ix144, inR144 hr12 hi12, cl144 hr12 hi12, inR144 ho12 hi12, cl144 ho12 hi12, if_true, X9_alike_J65, X9_alike_J64, X9_alike_J60, nI_1, allN]
    by_cases hA : allN (pAl m r o s) i = true
    · simp only [hA, if_true, i10, if_false, Bool.true_and]
      by_cases hs : gM_state m i = 0
      · have e1 := tm_is (r := r) hs
        have e2 := tm_is (r := o) hs
        rw [← e1, ← e2]
        by_cases h3 : tm m r i = s * tm m o i
        · simp [hs, h3, pAl]
        · simp [hs, h3, pAl]
      · have e1 := tm_zero (r := r) hs
        have e2 := tm_zero (r := o) hs
        simp [hs, pAl, e1, e2]
    · simp [hA]) (by
    simp only [X9_alike_L6, h.1.2.2.1, Int32.le_refl, if_true]) (f := 5000) (by omega)
  have e2 : iter (X9_alike_L6 m (nI r) (nI o) s) 5000 (1, 0) = _ := e
  simp only [X9_alike, e2, Option.bind_some]
  by_cases hA : allN (pAl m r o s) C = true
  · rw [if_pos hA]; rfl
  · rw [if_neg hA]; rfl
theorem s_leave (h : Rl C R F N w m) (hN : N < 1000000) (hcert : gM_certificate m = -1) {ru : Int32} (hru : F.2.2.2.2.2 = ru) {r : Nat} (hr : r < R) : StO C R F (N + 1) ((X5_leaveOut w (nI r)).bind (fun x : CW => (some (1, x)))) ((X9_leave m ru (nI r)).bind (fun x : MW => (some x))) := by
  obtain ⟨w2, a1, a2, a3, a4, a5, k, q1, q2, q3⟩ := sim_leave h hN hcert hr
  rw [hru] at q2
  exact ⟨1, w2, _, by simp only [q1, Option.bind_some], by simp only [q2, Option.bind_some], q3, good_yes (show gM_certificate m = -1 from hcert)⟩
theorem s_imp (h : Rl C R F N w m) (hcert : gM_certificate m = -1) {z : Int32} (hz : mk z) : StO C R F N ((X5_endAll w z).bind (fun x : Int32 × CW => (if isB x.1 = true then some (x.1, x.2) else none))) ((X9_impossible m z).bind (fun x : MW => (some x))) := by
  obtain ⟨w1, m1, p1, p2, p3, p4, -⟩ := sim_imp h hcert hz
  exact ⟨0, w1, m1, by simp only [p1, Option.bind_some, isB0, if_true], by simp only [p2, Option.bind_some], p3, p4⟩
theorem add_sub1 (a b : Int32) : a + b - a = b := by
  rw [Int32.add_comm, Int32.add_sub_cancel]
theorem add_sub2 (a b : Int32) : a + b - b = a := Int32.add_sub_cancel a b
theorem s_alike (h : Rl C R F N w m) (hN : N + 2 < 1000000) (hcert : gM_certificate m = -1) (hru : F.2.2.2.2.2 = 7) {r o : Nat} (hr : r < R) (ho : o < R) (hg : gM_gone m r = 0) (hg2 : gM_gone m o = 0) : StO C R F (N + 1) (X4_leaveAlike w (nI r) (nI o)) (if gM_kind m r = 0 then (if gM_kind m o = 0 then (if gM_right m r ≤ gM_right m o then X9_twin_J66 m 7 (nI o) else X9_twin_J66 m 7 (nI r)) else X9_twin_J72 (nI r) (nI o) m (gM_rest m r ||| gM_rest m o)) else X9_twin_J72 (nI r) (nI o) m (gM_rest m r ||| gM_rest m o)) := by
  have hR := h.R12
  have hr12 : r < 12 := by omega
  have ho12 : o < 12 := by omega
  obtain ⟨⟨r1, r2⟩, r3, r4, r5, r6⟩ := h.2.2.2.1 r hr
  obtain ⟨⟨o1, o2⟩, o3, o4, o5, o6⟩ := h.2.2.2.1 o ho
  have lr := s_leave h (by omega) hcert hru hr
  have lo_ := s_leave h (by omega) hcert hru ho
  have im := (s_imp h hcert (mk_or r3 o3)).mono (show N ≤ N + 1 by omega)
  have n01 : ¬ ((0 : Int32) = 1) := by decide
  have n10 : ¬ ((1 : Int32) = 0) := by decide
  unfold X4_leaveAlike X4_leaveAlike_J61 X4_leaveAlike_J66 X4_leaveAlike_J90 X4_leaveAlike_J119 X4_leaveAlike_J136 X4_leaveAlike_J138 X4_leaveAlike_J191 X9_twin_J66 X9_twin_J72 X9_twin_J126 X9_twin_J140 X9_twin_J184
  simp only [inR12 hr12, cl12 hr12, inR12 ho12, cl12 ho12, if_true, h.kd hr hg, h.kd ho hg2, r1, o1, r2, o2, add_sub1, add_sub2]
  rcases r4 with e | e <;> rcases o4 with e' | e' <;> simp only [e, e', if_true, n01, n10, if_false, add_sub1, add_sub2, inR12 hr12, cl12 hr12, inR12 ho12, cl12 ho12]
  · by_cases hq : gM_right m r ≤ gM_right m o
    · simp only [hq, if_true]; exact lo_
    · simp only [hq, if_false]; exact lr
  · by_cases hq : gM_right m r < gM_right m o
    · simp only [hq, if_true]; exact im
    · simp only [hq, if_false, n10]; exact lr
  · by_cases hq : gM_right m o < gM_right m r
    · simp only [hq, if_true]; exact im
    · simp only [hq, if_false, n10]; exact lo_
  · by_cases hq : gM_right m r = gM_right m o
    · simp only [hq, if_true, n10, if_false]; exact lo_
    · simp only [hq, if_false, if_true]; exact im
theorem s_join (h : Rl C R F N w m) (hN : N + 2 < 1000000) (hcert : gM_certificate m = -1) (hru : F.2.2.2.2.2 = 7) {r o : Nat} (hr : r < R) (ho : o < R) (hne : o ≠ r) (hg : gM_gone m r = 0) : StO C R F (N + 2) ((X5_noteAnew (sC_rowRest (sC_tab w (sT_kind (gC_tab w) (upd (gT_kind (gC_tab w)) r 1))) (upd (gC_rowRest w) r (gM_rest m r ||| gM_rest m o))) (nI r)).bind (fun r95 : CW => ((X5_leaveOut r95 (nI o)).bind (fun r103 : CW => (some (1, r103)))))) ((X9_act (sM_rest (sM_kind m (upd (gM_kind m) r 1)) (upd (gM_rest m) r (gM_rest m r ||| gM_rest m o))) 7 (nI r) (-1) 3 (gM_right m r)).bind (fun r280 : MW => ((X9_leave r280 7 (nI o)).bind (fun r287 : MW => (some r287))))) := by
  have hR := h.R12
  have hr12 : r < 12 := by omega
  obtain ⟨⟨r1, r2⟩, r3, r4, r5, r6⟩ := h.2.2.2.1 r hr
  obtain ⟨⟨o1, o2⟩, o3, o4, o5, o6⟩ := h.2.2.2.1 o ho
  obtain ⟨nn, a1, a2, a3, a4, a5, q1, q2, q3⟩ := sim_act (w := (sC_rowRest (sC_tab w (sT_kind (gC_tab w) (upd (gT_kind (gC_tab w)) r 1))) (upd (gC_rowRest w) r (gM_rest m r ||| gM_rest m o)))) (m := (sM_rest (sM_kind m (upd (gM_kind m) r 1)) (upd (gM_rest m) r (gM_rest m r ||| gM_rest m o)))) (N := N) (by
        obtain ⟨k, k1, k2, k3, k4⟩ := h.2.2.2.2.1
        exact ⟨k, k1, k2, k3, k4⟩) (by omega) 7 (nI r) (-1) 3 (gM_right m r)
  have hR1 : Rl C R F (N + 1) (wA (sC_rowRest (sC_tab w (sT_kind (gC_tab w) (upd (gT_kind (gC_tab w)) r 1))) (upd (gC_rowRest w) r (gM_rest m r ||| gM_rest m o))) nn (gC_count w + 1)) (mA (sM_rest (sM_kind m (upd (gM_kind m) r 1)) (upd (gM_rest m) r (gM_rest m r ||| gM_rest m o))) a1 a2 a3 a4 a5 (gM_acts m + 1)) := by
    refine ⟨h.1, h.2.1, h.2.2.1, ?_, q3, h.2.2.2.2.2.1, h.2.2.2.2.2.2.1, h.2.2.2.2.2.2.2⟩
    intro r' hr'
    by_cases e : r' = r
    · subst e
      have u1 : upd (gM_rest m) r' (gM_rest m r' ||| gM_rest m o) r' = gM_rest m r' ||| gM_rest m o := by simp only [upd, if_true]
      refine ⟨⟨r1, ?_⟩, ?_, Or.inr ?_, big_mono r5 (by omega), Or.inl ⟨hg, ?_, ?_⟩⟩
      · show upd (gC_rowRest w) r' (gM_rest m r' ||| gM_rest m o) r' = upd (gM_rest m) r' (gM_rest m r' ||| gM_rest m o) r'
        simp only [upd, if_true]
      · show mk (upd (gM_rest m) r' (gM_rest m r' ||| gM_rest m o) r')
        rw [u1]; exact mk_or r3 o3
      · show upd (gM_kind m) r' 1 r' = 1
        simp only [upd, if_true]
      · show upd (gT_kind (gC_tab w)) r' 1 r' = upd (gM_kind m) r' 1 r'
        simp only [upd, if_true]
      · intro c hc
        exact ⟨h.a hr hg hc, h.ab hr hg hc⟩
    · obtain ⟨⟨p1, p2⟩, p3, p4, p5, p6⟩ := h.2.2.2.1 r' hr'
      have u1 : upd (gM_rest m) r (gM_rest m r ||| gM_rest m o) r' = gM_rest m r' := by simp only [upd, e, if_false]
      have u2 : upd (gC_rowRest w) r (gM_rest m r ||| gM_rest m o) r' = gC_rowRest w r' := by simp only [upd, e, if_false]
      have u3 : upd (gM_kind m) r 1 r' = gM_kind m r' := by simp only [upd, e, if_false]
      have u4 : upd (gT_kind (gC_tab w)) r 1 r' = gT_kind (gC_tab w) r' := by simp only [upd, e, if_false]
      refine ⟨⟨p1, u2.trans (p2.trans u1.symm)⟩, ?_, ?_, big_mono p5 (by omega), ?_⟩
      · show mk (upd (gM_rest m) r (gM_rest m r ||| gM_rest m o) r')
        rw [u1]; exact p3
      · show upd (gM_kind m) r 1 r' = 0 ∨ upd (gM_kind m) r 1 r' = 1
        rw [u3]; exact p4
      · rcases p6 with ⟨x1, x2, x3⟩ | ⟨x1, x2⟩
        · exact Or.inl ⟨x1, u4.trans (x2.trans u3.symm), x3⟩
        · exact Or.inr ⟨x1, u4.trans x2⟩
  have hc1 : gM_certificate (mA (sM_rest (sM_kind m (upd (gM_kind m) r 1)) (upd (gM_rest m) r (gM_rest m r ||| gM_rest m o))) a1 a2 a3 a4 a5 (gM_acts m + 1)) = -1 := hcert
  have lv := s_leave hR1 (by omega) hc1 hru ho
  obtain ⟨b, w', m', l1, l2, l3, l4⟩ := lv
  have hru2 : gC_rule (sC_rowRest (sC_tab w (sT_kind (gC_tab w) (upd (gT_kind (gC_tab w)) r 1))) (upd (gC_rowRest w) r (gM_rest m r ||| gM_rest m o))) = 7 := h.2.1.2.2.2.2.2.trans hru
  have hrt : gT_right (gC_tab (sC_rowRest (sC_tab w (sT_kind (gC_tab w) (upd (gT_kind (gC_tab w)) r 1))) (upd (gC_rowRest w) r (gM_rest m r ||| gM_rest m o)))) r = gM_right m r := r1
  have na : X5_noteAnew (sC_rowRest (sC_tab w (sT_kind (gC_tab w) (upd (gT_kind (gC_tab w)) r 1))) (upd (gC_rowRest w) r (gM_rest m r ||| gM_rest m o))) (nI r) = some (wA (sC_rowRest (sC_tab w (sT_kind (gC_tab w) (upd (gT_kind (gC_tab w)) r 1))) (upd (gC_rowRest w) r (gM_rest m r ||| gM_rest m o))) nn (gC_count w + 1)) := by
    simp only [X5_noteAnew, inR12 hr12, cl12 hr12, if_true]
    rw [hru2, hrt, q1]
    rfl
  refine ⟨b, w', m', ?_, ?_, l3, l4⟩
  · rw [na, Option.bind_some]; exact l1
  · rw [q2, Option.bind_some]; exact l2
theorem s_pair (h : Rl C R F N w m) (hN : N + 2 < 1000000) (hcert : gM_certificate m = -1) (hru : F.2.2.2.2.2 = 7) {r o : Nat} (hr : r < R) (ho : o < R) (hne : o ≠ r) (hg : gM_gone m r = 0) (hg2 : gM_gone m o = 0) : StO C R F (N + 2) (X4_comparePair w (nI r) (nI o)) (X9_twin m (nI r) (nI o)) := by
  have hR := h.R12
  have hr12 : r < 12 := by omega
  have ho12 : o < 12 := by omega
  obtain ⟨⟨r1, r2⟩, r3, r4, r5, r6⟩ := h.2.2.2.1 r hr
  obtain ⟨⟨o1, o2⟩, o3, o4, o5, o6⟩ := h.2.2.2.1 o ho
  have n10 : ¬ ((1 : Int32) = 0) := by decide
  have st : StO C R F (N + 2) (some (1, w)) (some m) := ⟨1, w, m, rfl, rfl, h.mono (by omega), good_yes hcert⟩
  have im := (s_imp h hcert (mk_or r3 o3)).mono (show N ≤ N + 2 by omega)
  have t1 := cl_times h hr ho hg hg2 1
  have t2 := cl_times h hr ho hg hg2 (-1)
  rw [show (1 : Int32).toInt64 = (1 : Int64) from rfl] at t1
  rw [show (-1 : Int32).toInt64 = (-1 : Int64) from rfl] at t2
  by_cases hA : allN (pAl m r o 1) C = true
  · obtain ⟨b, w', m', x1, x2, x3, x4⟩ := s_alike h hN hcert hru hr ho hg hg2
    rw [if_pos hA] at t1
    refine ⟨b, w', m', ?_, ?_, x3.mono (by omega), x4⟩
    · simp only [X4_comparePair, t1, Option.bind_some, i10, if_false, x1, isBg x4, if_true]
    · simp only [X9_twin, inR12 hr12, cl12 hr12, inR12 ho12, cl12 ho12, if_true, rf_alike h hr ho, hA, Option.bind_some, i10, if_false]
      exact x2
  · rw [if_neg hA] at t1
    have hA' : (if allN (pAl m r o 1) C = true then (1 : Int32) else 0) = 0 := if_neg hA
    have jn := s_join h hN hcert hru hr ho hne hg
    have e1 : X4_comparePair w (nI r) (nI o) = if gM_kind m r = 0 then (if gM_kind m o = 0 then (if (if allN (pAl m r o (-1)) C = true then (1 : Int32) else 0) = 0 then some (1, w) else (X4_joinTurned w (nI r) (nI o)).bind (fun r54 : Int32 × CW => (if isB r54.1 = true then some (r54.1, r54.2) else none))) else some (1, w)) else some (1, w) := by
      simp only [X4_comparePair, t1, t2, Option.bind_some, if_true, inR12 hr12, cl12 hr12, inR12 ho12, cl12 ho12, h.kd hr hg, h.kd ho hg2]
    have e2 : X9_twin m (nI r) (nI o) = if gM_kind m r = 0 then (if gM_kind m o = 0 then (if (if allN (pAl m r o (-1)) C = true then (1 : Int32) else 0) = 0 then some m else (if 0 ≤ gM_right m r + gM_right m o then (if gM_right m r + gM_right m o = 0 then (X9_act (sM_rest (sM_kind m (upd (gM_kind m) r 1)) (upd (gM_rest m) r (gM_rest m r ||| gM_rest m o))) 7 (nI r) (-1) 3 (gM_right m r)).bind (fun r280 : MW => ((X9_leave r280 7 (nI o)).bind (fun r287 : MW => (some r287)))) else some m) else (X9_impossible m (gM_rest m r ||| gM_rest m o)).bind (fun r241 : MW => (some r241)))) else some m) else some m := by
      simp only [X9_twin, inR12 hr12, cl12 hr12, inR12 ho12, cl12 ho12, if_true, rf_alike h hr ho, Option.bind_some, hA', bnd]
    rw [e1, e2]
    by_cases k1 : gM_kind m r = 0
    · rw [if_pos k1, if_pos k1]
      by_cases k2 : gM_kind m o = 0
      · rw [if_pos k2, if_pos k2]
        by_cases k3 : (if allN (pAl m r o (-1)) C = true then (1 : Int32) else 0) = 0
        · rw [if_pos k3, if_pos k3]; exact st
        · rw [if_neg k3, if_neg k3]
          have e3 : X4_joinTurned w (nI r) (nI o) = if 0 ≤ gM_right m r + gM_right m o then (if gM_right m r + gM_right m o = 0 then (X5_noteAnew (sC_rowRest (sC_tab w (sT_kind (gC_tab w) (upd (gT_kind (gC_tab w)) r 1))) (upd (gC_rowRest w) r (gM_rest m r ||| gM_rest m o))) (nI r)).bind (fun r95 : CW => ((X5_leaveOut r95 (nI o)).bind (fun r103 : CW => (some (1, r103))))) else some (1, w)) else (X5_endAll w (gM_rest m r ||| gM_rest m o)).bind (fun r49 : Int32 × CW => (if isB r49.1 = true then some (r49.1, r49.2) else none)) := by
            have u1 : gC_rowRest (sC_tab w (sT_kind (gC_tab w) (upd (gT_kind (gC_tab w)) r 1))) r = gM_rest m r := r2
            have u2 : gC_rowRest (sC_tab w (sT_kind (gC_tab w) (upd (gT_kind (gC_tab w)) r 1))) o = gM_rest m o := o2
            simp only [X4_joinTurned, inR12 hr12, cl12 hr12, inR12 ho12, cl12 ho12, if_true, r1, o1, r2, o2, bnd, u1, u2]
          rw [e3]
          by_cases k4 : 0 ≤ gM_right m r + gM_right m o
          · rw [if_pos k4, if_pos k4]
            by_cases k5 : gM_right m r + gM_right m o = 0
            · rw [if_pos k5, if_pos k5]
              obtain ⟨b, w', m', x1, x2, x3, x4⟩ := jn
              exact ⟨b, w', m', by rw [x1, Option.bind_some, if_pos (isBg x4)], x2, x3, x4⟩
            · rw [if_neg k5, if_neg k5]
              exact ⟨1, w, m, rfl, rfl, h.mono (by omega), good_yes hcert⟩
          · rw [if_neg k4, if_neg k4]
            obtain ⟨b, w', m', x1, x2, x3, x4⟩ := im
            exact ⟨b, w', m', by rw [x1, Option.bind_some, if_pos (isBg x4)], x2, x3, x4⟩
      · rw [if_neg k2, if_neg k2]; exact st
    · rw [if_neg k1, if_neg k1]; exact st
theorem twins_loop (h : Rl C R F N w m) (hN : N + 30 < 1000000) (hcert : gM_certificate m = -1) (hru : F.2.2.2.2.2 = 7) {r : Nat} (hr : r < R) : ∃ ea eb, iter (X4_leaveTwins_L19 (nI r)) 5000 (w, nI r + 1) = some ea ∧ iter (X9_twins_L13 (nI r)) 5000 (m, nI r + 1) = some eb ∧ Rl C R F (N + 24) (Sum.elim id id ea) eb ∧ ((∃ w', ea = .inl w' ∧ gM_certificate eb ≠ -1) ∨ (∃ w', ea = .inr w' ∧ gM_certificate eb = -1)) := by
  have hC := h.C12
  have hR := h.R12
  have hr12 : r < 12 := by omega
  refine iter_sim (sa := X4_leaveTwins_L19 (nI r)) (sb := X9_twins_L13 (nI r)) (fun d a b => ∃ o, r < o ∧ o + d = R ∧ a.2 = nI o ∧ b.2 = nI o ∧ Rl C R F (N + 2 * o) a.1 b.1 ∧ gM_certificate b.1 = -1) (fun ea eb => Rl C R F (N + 24) (Sum.elim id id ea) eb ∧ ((∃ w', ea = .inl w' ∧ gM_certificate eb ≠ -1) ∨ (∃ w', ea = .inr w' ∧ gM_certificate eb = -1))) ?_ (R - (r + 1)) 5000 5000 (w, nI r + 1) (m, nI r + 1) (by omega) (by omega) ⟨r + 1, by omega, by omega, nI_1 r, nI_1 r, h.mono (by omega), hcert⟩
  rintro d ⟨w1, i1⟩ ⟨m1, i2⟩ ⟨o, hro, hid, e1, e2, hR1, hc1⟩
  dsimp only at e1 e2 hR1 hc1
  subst e1 e2
  have n10 : ¬ ((1 : Int32) = 0) := by decide
  by_cases hic : o < R
  · have ho12 : o < 12 := by omega
    by_cases hg : gM_gone m1 r = 0
    · by_cases hg2 : gM_gone m1 o = 0
      · obtain ⟨b, w', m', x1, x2, x3, x4⟩ := s_pair hR1 (by omega) hc1 hru hr hic (by omega) hg hg2
        have hB : X9_twins_L13 (nI r) (m1, nI o) = some (.inl (m', nI (o + 1))) := by
          simp only [X9_twins_L13, hR1.1.2.2.2.1, nC_le hR hic, if_false, inR12 hr12, cl12 hr12, inR12 ho12, cl12 ho12, if_true, hg, hg2, rf_go hc1, Option.bind_some, i10, x2, X9_twins_J52, nI_1]
        have hA : X4_leaveTwins_L19 (nI r) (w1, nI o) = if b = 0 then some (.inr (.inl w')) else some (.inl (w', nI (o + 1))) := by
          simp only [X4_leaveTwins_L19, hR1.1.2.1, nC_le hR hic, if_false, cl_gone hR1 hr, cl_gone hR1 hic, hg, hg2, if_true, Option.bind_some, x1, X4_leaveTwins_J63, nI_1]
        rcases good_cases x4 with ⟨rfl, h9⟩ | ⟨rfl, h9⟩
        · exact Or.inl ⟨(w', nI (o + 1)), (m', nI (o + 1)), by rw [hA, if_neg n10], hB, d - 1, by omega, o + 1, by omega, by omega, rfl, rfl, x3.mono (by omega), h9⟩
        · refine Or.inr ⟨.inl w', by rw [hA, if_pos rfl], fun f hf => ⟨m', ?_, x3.mono (by omega), Or.inl ⟨w', rfl, h9⟩⟩⟩
          obtain ⟨f, rfl⟩ : ∃ g, f = g + 1 := ⟨f - 1, by omega⟩
          rw [iter_in hB]
          refine iter_end ?_ (by omega)
          unfold X9_twins_L13
          by_cases hq : gM_rows m' ≤ nI (o + 1)
          · simp only [hq, if_true]
          · by_cases hg3 : gM_gone m' r = 0
            · simp only [hq, if_false, inR12 hr12, cl12 hr12, if_true, hg3, rf_no h9, Option.bind_some]
            · simp only [hq, if_false, inR12 hr12, cl12 hr12, if_true, hg3]
      · refine Or.inl ⟨(w1, nI (o + 1)), (m1, nI (o + 1)), ?_, ?_, d - 1, by omega, o + 1, by omega, by omega, rfl, rfl, hR1.mono (by omega), hc1⟩
        · simp only [X4_leaveTwins_L19, hR1.1.2.1, nC_le hR hic, if_false, cl_gone hR1 hr, cl_gone hR1 hic, hg, hg2, if_true, Option.bind_some, X4_leaveTwins_J63, nI_1, i10]
        · simp only [X9_twins_L13, hR1.1.2.2.2.1, nC_le hR hic, if_false, inR12 hr12, cl12 hr12, inR12 ho12, cl12 ho12, if_true, hg, hg2, rf_go hc1, Option.bind_some, i10, X9_twins_J52, nI_1]
    · refine Or.inr ⟨.inr w1, ?_, fun f hf => ⟨m1, iter_end ?_ (by omega), hR1.mono (by omega), Or.inr ⟨w1, rfl, hc1⟩⟩⟩
      · simp only [X4_leaveTwins_L19, hR1.1.2.1, nC_le hR hic, if_false, cl_gone hR1 hr, hg, Option.bind_some, i10]
      · simp only [X9_twins_L13, hR1.1.2.2.2.1, nC_le hR hic, if_false, inR12 hr12, cl12 hr12, if_true, hg]
  · have : o = R := by omega
    subst this
    refine Or.inr ⟨.inr w1, ?_, fun f hf => ⟨m1, iter_end ?_ (by omega), hR1.mono (by omega), Or.inr ⟨w1, rfl, hc1⟩⟩⟩
    · simp only [X4_leaveTwins_L19, hR1.1.2.1, Int32.le_refl, if_true]
    · simp only [X9_twins_L13, hR1.1.2.2.2.1, Int32.le_refl, if_true]
theorem r_twins (h : Rl C R F N w m) (hN : N + 30 < 1000000) (hcert : gM_certificate m = -1) (hru : F.2.2.2.2.2 = 7) {r : Nat} (hr : r < R) (hg : gM_gone m r = 0) : StO C R F (N + 30) (X4_leaveTwins w (nI r)) (X9_twins m (nI r)) := by
  have hC := h.C12
  have hR := h.R12
  have hn : X6_nextTerm (gC_tab w) (nI r) 0 = _ := cl_next h hr hg (i := 0) (Nat.zero_le _)
  obtain ⟨s1, s2, s3, s4⟩ := nx_spec m (C := C) (r := r) (i := 0) (Nat.zero_le _)
  have hcl := cntN_le (isT m r) C
  by_cases hk : nx m C r 0 < C
  · have hct : ¬ cntN (isT m r) C = 0 := fun e => by
      have := cntN_zero.mp e _ hk
      simp only [isT] at this
      exact s4 hk (by simpa using this)
    have hne : ¬ nI (cntN (isT m r) C) = 0 := nI_ne0 (by omega) (by omega)
    obtain ⟨ea, eb, e1, e2, e3, e5⟩ := twins_loop h hN hcert hru hr
    rw [if_pos hk] at hn
    rcases e5 with ⟨w', rfl, h9⟩ | ⟨w', rfl, h9⟩
    · refine ⟨0, w', eb, ?_, ?_, e3.mono (by omega), good_nope h9⟩
      · simp only [X4_leaveTwins, hn, Option.bind_some, nm1 (show nx m C r 0 ≤ 5000 by omega), if_false, e1, Sum.elim_inl]
      · simp only [X9_twins, rf_terms h hr, Option.bind_some, hne, if_false, e2]
    · refine ⟨1, w', eb, ?_, ?_, e3.mono (by omega), good_yes h9⟩
      · simp only [X4_leaveTwins, hn, Option.bind_some, nm1 (show nx m C r 0 ≤ 5000 by omega), if_false, e1, Sum.elim_inr]
      · simp only [X9_twins, rf_terms h hr, Option.bind_some, hne, if_false, e2]
  · have hct : cntN (isT m r) C = 0 := cntN_zero.mpr (fun i hi => by simp only [isT]; simpa using s3 i (by omega) (by omega))
    have h0 : nI (cntN (isT m r) C) = 0 := by rw [hct]; rfl
    rw [if_neg hk] at hn
    refine ⟨1, w, m, ?_, ?_, h.mono (by omega), good_yes hcert⟩
    · simp only [X4_leaveTwins, hn, Option.bind_some, if_true]
    · simp only [X9_twins, rf_terms h hr, Option.bind_some, h0, if_true]
end S10
