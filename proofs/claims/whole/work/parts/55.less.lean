/-! rule 10 -/
theorem rest_last (m : MW) (K rt : Nat → Int64) (rs : Nat → Int32) : sM_rest (sM_right (sM_coef m K) rt) rs = sM_right (sM_coef (sM_rest m rs) K) rt := rfl
section S11
variable {C R : Nat} {F : FR} {N : Nat} {w : CW} {m : MW}
theorem fR_big (h : Rl C R F N w m) {r : Nat} (hr : r < R) (hg : gM_gone m r = 0) (bt gr : Int32) {c : Nat} (hc : c < C) : big 10000000000 (fR m r bt gr c) := by
  obtain ⟨-, c7, c8, c9, c10, c11, c12⟩ := h.2.2.1 c hc
  have hz : big 10000000000 0 := by unfold big; decide
  have ha := h.ab hr hg hc
  have h1 : big 10000 (hi m c) := by unfold big; rw [(toI c).2]; omega
  have h2 : big 10000 (lo m c) := by unfold big; rw [(toI c).1]; omega
  unfold fR
  by_cases e1 : tm m r c = 0
  · rw [if_pos e1]; exact hz
  · rw [if_neg e1]
    by_cases e2 : nI c = bt
    · rw [if_pos e2]; exact hz
    · rw [if_neg e2]
      by_cases e3 : (if tm m r c ≤ 0 then (0 : Int32) else 1) = gr
      · rw [if_pos e3]
        obtain ⟨x1, x2, x3⟩ := mul_big ha h1 (by omega) (by omega) (by omega)
        unfold big; rw [x1]; omega
      · rw [if_neg e3]
        obtain ⟨x1, x2, x3⟩ := mul_big ha h2 (by omega) (by omega) (by omega)
        unfold big; rw [x1]; omega
theorem sum_big {f : Nat → Int64} {B : Int} (hB0 : 0 ≤ B) (hB : B ≤ 10000000000) : ∀ {n : Nat}, n ≤ 12 → (∀ c, c < n → big B (f c)) → big (12 * B) (sumN f n) ∧ -(n * B) ≤ (sumN f n).toInt ∧ (sumN f n).toInt ≤ n * B := by
  have key : ∀ n : Nat, n ≤ 12 → (∀ c, c < n → big B (f c)) → -(n * B) ≤ (sumN f n).toInt ∧ (sumN f n).toInt ≤ n * B := by
    intro n
    induction n with
    | zero => intro _ _; simp [sumN]
    | succ n ih =>
      intro hn hf
      obtain ⟨i1, i2⟩ := ih (by omega) (fun c hc => hf c (by omega))
      obtain ⟨j1, j2⟩ := hf n (by omega)
      have e1 : ((n + 1 : Nat) : Int) * B = n * B + B := by rw [Int.natCast_add, Int.add_mul]; simp
      have e2 : (n : Int) * B ≤ 12 * B := Int.mul_le_mul_of_nonneg_right (by omega) hB0
      simp only [sumN]
      rw [add_ex (by omega), e1]
      omega
  intro n hn hf
  obtain ⟨i1, i2⟩ := key n hn hf
  have e2 : (n : Int) * B ≤ 12 * B := Int.mul_le_mul_of_nonneg_right (by omega) hB0
  exact ⟨⟨by omega, by omega⟩, i1, i2⟩
theorem reach_big (h : Rl C R F N w m) {r : Nat} (hr : r < R) (hg : gM_gone m r = 0) (bt gr : Int32) : big 120000000000 (sumN (fR m r bt gr) C) := (sum_big (B := 10000000000) (by omega) (by omega) h.C12 (fun c hc => fR_big h hr hg bt gr hc)).1
/-- a row's numbers changed, no act noted -/
theorem Rl_row (h : Rl C R F N w m) {r : Nat} (hr : r < R) (hg : gM_gone m r = 0) {A' : Nat → Nat → Int64} {rt rt' : Nat → Int64} {K' : Nat → Int64} {rs : Nat → Int32} {rs' : Nat → Int32} (hA1 : ∀ r', r' < R → r' ≠ r → ∀ c, c < C → A' r' c = gT_a (gC_tab w) r' c) (hK1 : ∀ r', r' < R → r' ≠ r → ∀ c, c < C → K' (12 * r' + c) = gM_coef m (12 * r' + c)) (hA2 : ∀ c, c < C → A' r c = (if gM_state m c = 0 then K' (12 * r + c) else 0) ∧ big 1000000 (A' r c)) (hr1 : ∀ r', r' < R → r' ≠ r → rt r' = gM_right m r' ∧ rt' r' = gM_right m r') (hr2 : rt r = rt' r) (hr3 : big (200000000000 + 10000000000 * N) (rt' r)) (hs1 : ∀ r', r' < R → r' ≠ r → rs r' = gM_rest m r' ∧ rs' r' = gM_rest m r') (hs2 : rs r = rs' r) (hs3 : mk (rs' r)) : Rl C R F N (sC_rowRest (sC_tab w (sT_right (sT_a (gC_tab w) A') rt)) rs) (sM_rest (sM_right (sM_coef m K') rt') rs') := by
  refine ⟨h.1, h.2.1, h.2.2.1, ?_, h.2.2.2.2.1, h.2.2.2.2.2.1, h.2.2.2.2.2.2.1, h.2.2.2.2.2.2.2⟩
  intro r' hr'
  by_cases e : r' = r
  · subst e
    obtain ⟨p1, p3, p4, p5, p6⟩ := h.2.2.2.1 r' hr'
    refine ⟨⟨hr2, hs2⟩, hs3, p4, hr3, Or.inl ⟨hg, h.kd hr hg, fun c hc => ?_⟩⟩
    have e1 : tm (sM_rest (sM_right (sM_coef m K') rt') rs') r' c = if gM_state m c = 0 then K' (12 * r' + c) else 0 := rfl
    rw [e1, ← (hA2 c hc).1]
    exact ⟨rfl, (hA2 c hc).2⟩
  · obtain ⟨⟨p1, p2⟩, p3, p4, p5, p6⟩ := h.2.2.2.1 r' hr'
    refine ⟨⟨(hr1 r' hr' e).1.trans (hr1 r' hr' e).2.symm, (hs1 r' hr' e).1.trans (hs1 r' hr' e).2.symm⟩, ?_, p4, ?_, ?_⟩
    · show mk (rs' r')
      rw [(hs1 r' hr' e).2]; exact p3
    · show big _ (rt' r')
      rw [(hr1 r' hr' e).2]; exact p5
    · rcases p6 with ⟨x1, x2, x3⟩ | ⟨x1, x2⟩
      · refine Or.inl ⟨x1, x2, fun c hc => ?_⟩
        have e1 : tm (sM_rest (sM_right (sM_coef m K') rt') rs') r' c = if gM_state m c = 0 then K' (12 * r' + c) else 0 := rfl
        have e2 : gT_a (gC_tab (sC_rowRest (sC_tab w (sT_right (sT_a (gC_tab w) A') rt)) rs)) r' c = A' r' c := rfl
        rw [e1, e2, hK1 r' hr' e c hc, hA1 r' hr' e c hc]
        exact x3 c hc
      · exact Or.inr ⟨x1, x2⟩
theorem s_note (h : Rl C R F N w m) (hN : N < 1000000) {ru : Int32} (hru : F.2.2.2.2.2 = ru) {r : Nat} (hr : r < R) : ∃ w' a1 a2 a3 a4 a5 k, X5_noteAnew w (nI r) = some w' ∧ X9_act m ru (nI r) (-1) 3 (gM_right m r) = some (mA m a1 a2 a3 a4 a5 k) ∧ Rl C R F (N + 1) w' (mA m a1 a2 a3 a4 a5 k) := by
  have hr12 : r < 12 := by have := h.R12; omega
  subst hru
  obtain ⟨nn, a1, a2, a3, a4, a5, q1, q2, q3⟩ := sim_act h.2.2.2.2.1 hN F.2.2.2.2.2 (nI r) (-1) 3 (gM_right m r)
  refine ⟨wA w nn (gC_count w + 1), a1, a2, a3, a4, a5, gM_acts m + 1, ?_, q2, ⟨h.1, h.2.1, h.2.2.1, fun r' hr' => rowOK_mono (h.2.2.2.1 r' hr') (by omega), q3, h.2.2.2.2.2.1, h.2.2.2.2.2.2.1, h.2.2.2.2.2.2.2⟩⟩
  simp only [X5_noteAnew, inR12 hr12, cl12 hr12, if_true, h.2.1.2.2.2.2.2, (h.2.2.2.1 r hr).1.1, q1, Option.bind_some]
/-- a term made less -/
theorem s_lessAct (h : Rl C R F N w m) (hN : N < 1000000) (hru : F.2.2.2.2.2 = 10) {r c : Nat} (hr : r < R) (hc : c < C) (hg : gM_gone m r = 0) (hs : gM_state m c = 0) {a' : Int64} (hb : big 1000000 a') {rt rt' : Nat → Int64} (hr1 : ∀ r', r' < R → r' ≠ r → rt r' = gM_right m r' ∧ rt' r' = gM_right m r') (hr2 : rt r = rt' r) (hr3 : big (200000000000 + 10000000000 * N) (rt' r)) : ∃ w' a1 a2 a3 a4 a5 k, X4_makeTermLess_J135 (nI r) (nI c) (sC_tab w (sT_right (sT_a (gC_tab w) (va_up (gT_a (gC_tab w)) r (vp_updL (gT_a (gC_tab w) r) c a'))) rt)) = some w' ∧ X9_act (sM_right (sM_coef (sM_rest m (upd (gM_rest m) r (gM_rest m r ||| ((orN (fS m r (nI c) 1) C ||| gM_lowRest m c) ||| gM_highRest m c)))) (vp_updL (gM_coef m) (12 * r + c) a')) rt') 10 (nI r) (-1) 3 (rt' r) = some (mA (sM_right (sM_coef (sM_rest m (upd (gM_rest m) r (gM_rest m r ||| ((orN (fS m r (nI c) 1) C ||| gM_lowRest m c) ||| gM_highRest m c)))) (vp_updL (gM_coef m) (12 * r + c) a')) rt') a1 a2 a3 a4 a5 k) ∧ Rl C R F (N + 1) w' (mA (sM_right (sM_coef (sM_rest m (upd (gM_rest m) r (gM_rest m r ||| ((orN (fS m r (nI c) 1) C ||| gM_lowRest m c) ||| gM_highRest m c)))) (vp_updL (gM_coef m) (12 * r + c) a')) rt') a1 a2 a3 a4 a5 k) := by
  have hC := h.C12
  have hR := h.R12
  have hr12 : r < 12 := by omega
  have hc12 : c < 12 := by omega
  obtain ⟨⟨r1, r2⟩, r3, r4, r5, r6⟩ := h.2.2.2.1 r hr
  obtain ⟨⟨c1, c2, c3, c4, c5, c6⟩, c7, c8, c9, c10, c11, c12⟩ := h.2.2.1 c hc
  have hA1 : ∀ r', r' < R → r' ≠ r → ∀ c', c' < C → (va_up (gT_a (gC_tab w)) r (vp_updL (gT_a (gC_tab w) r) c a')) r' c' = gT_a (gC_tab w) r' c' := fun r' _ hne c' _ => by rw [va_up_ne _ _ hne]
  have hK1 : ∀ r', r' < R → r' ≠ r → ∀ c', c' < C → (vp_updL (gM_coef m) (12 * r + c) a') (12 * r' + c') = gM_coef m (12 * r' + c') := fun r' _ hne c' _ => by
    unfold vp_updL; rw [if_neg (by omega)]
  have hA2 : ∀ c', c' < C → (va_up (gT_a (gC_tab w)) r (vp_updL (gT_a (gC_tab w) r) c a')) r c' = (if gM_state m c' = 0 then (vp_updL (gM_coef m) (12 * r + c) a') (12 * r + c') else 0) ∧ big 1000000 ((va_up (gT_a (gC_tab w)) r (vp_updL (gT_a (gC_tab w) r) c a')) r c') := fun c' hc' => by
    rw [va_up_self]
    unfold vp_updL
    by_cases e : c' = c
    · subst e
      rw [if_pos rfl, if_pos hs, if_pos rfl]
      exact ⟨rfl, hb⟩
    · rw [if_neg e, if_neg (show ¬ 12 * r + c' = 12 * r + c by omega), h.a hr hg hc']
      exact ⟨rfl, h.ab hr hg hc'⟩
  have H2 := Rl_row h hr hg (rs := gC_rowRest w) (rs' := gM_rest m) hA1 hK1 hA2 hr1 hr2 hr3 (fun r' hr' hne => ⟨(h.2.2.2.1 r' hr').1.2, rfl⟩) r2 r3
  have hg2 : gM_gone (sM_rest (sM_right (sM_coef m (vp_updL (gM_coef m) (12 * r + c) a')) rt') (gM_rest m)) r = 0 := hg
  have er := cl_reachRest H2 hr hg2 (nI c) 1
  have ef : orN (fS (sM_rest (sM_right (sM_coef m (vp_updL (gM_coef m) (12 * r + c) a')) rt') (gM_rest m)) r (nI c) 1) C = orN (fS m r (nI c) 1) C := orN_congr (fun i hi => by
    unfold fS
    by_cases e : i = c
    · subst e; simp
    · have e1 : tm (sM_rest (sM_right (sM_coef m (vp_updL (gM_coef m) (12 * r + c) a')) rt') (gM_rest m)) r i = tm m r i := by
        unfold tm
        show (if gM_state m i = 0 then (vp_updL (gM_coef m) (12 * r + c) a') (12 * r + i) else 0) = _
        unfold vp_updL
        rw [if_neg (show ¬ 12 * r + i = 12 * r + c by omega)]
      rw [e1])
  rw [ef] at er
  have er' : X5_reachRest (sC_tab w (sT_right (sT_a (gC_tab w) (va_up (gT_a (gC_tab w)) r (vp_updL (gT_a (gC_tab w) r) c a'))) rt)) (nI r) (nI c) 1 = some (orN (fS m r (nI c) 1) C) := er
  have hzz : mk (gM_rest m r ||| ((orN (fS m r (nI c) 1) C ||| gM_lowRest m c) ||| gM_highRest m c)) := mk_or r3 (mk_or (mk_or (h.mkS r (nI c) 1) c7) c8)
  have H3 := Rl_row h hr hg (rs := upd (gC_rowRest w) r (gM_rest m r ||| ((orN (fS m r (nI c) 1) C ||| gM_lowRest m c) ||| gM_highRest m c))) (rs' := upd (gM_rest m) r (gM_rest m r ||| ((orN (fS m r (nI c) 1) C ||| gM_lowRest m c) ||| gM_highRest m c))) hA1 hK1 hA2 hr1 hr2 hr3 (fun r' hr' hne => ⟨by simp only [upd, hne, if_false]; exact (h.2.2.2.1 r' hr').1.2, by simp only [upd, hne, if_false]⟩) (by simp only [upd, if_true]) (by simp only [upd, if_true]; exact hzz)
  rw [rest_last] at H3
  obtain ⟨w', a1, a2, a3, a4, a5, k, z1, z2, z3⟩ := s_note H3 hN hru hr
  refine ⟨w', a1, a2, a3, a4, a5, k, ?_, z2, z3⟩
  have u1 : gC_rowRest (sC_tab w (sT_right (sT_a (gC_tab w) (va_up (gT_a (gC_tab w)) r (vp_updL (gT_a (gC_tab w) r) c a'))) rt)) r = gM_rest m r := r2
  have u2 : gC_lowRest (sC_tab w (sT_right (sT_a (gC_tab w) (va_up (gT_a (gC_tab w)) r (vp_updL (gT_a (gC_tab w) r) c a'))) rt)) c = gM_lowRest m c := c5
  have u3 : gC_highRest (sC_tab w (sT_right (sT_a (gC_tab w) (va_up (gT_a (gC_tab w)) r (vp_updL (gT_a (gC_tab w) r) c a'))) rt)) c = gM_highRest m c := c6
  have z1' : X5_noteAnew (sC_rowRest (sC_tab w (sT_right (sT_a (gC_tab w) (va_up (gT_a (gC_tab w)) r (vp_updL (gT_a (gC_tab w) r) c a'))) rt)) (upd (gC_rowRest w) r (gM_rest m r ||| ((orN (fS m r (nI c) 1) C ||| gM_lowRest m c) ||| gM_highRest m c)))) (nI r) = some w' := z1
  simp only [X4_makeTermLess_J135, inR12 hr12, cl12 hr12, inR12 hc12, cl12 hc12, if_true, er', Option.bind_some, bnd, u1, u2, u3]
  rw [z1']
  rfl
end S11
