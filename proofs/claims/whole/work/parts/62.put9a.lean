/-! rule 9: numbers -/
theorem fdm_pos {a d : Int} (hd : 0 < d) : a.fdiv d * d ≤ a := by
  rw [Int.fdiv_eq_ediv_of_nonneg _ (Int.le_of_lt hd)]
  exact Int.ediv_mul_le a (by omega)
theorem fdm_neg {a d : Int} (hd : d < 0) : a ≤ a.fdiv d * d := by
  have h1 := fdm_pos (a := -a) (d := -d) (by omega)
  rw [Int.neg_fdiv_neg] at h1
  rw [Int.mul_neg] at h1
  omega
theorem ediv_abs {a d : Int} (hd : 0 < d) : (a / d).natAbs ≤ a.natAbs := by
  by_cases ha : 0 ≤ a
  · have u1 := Int.ediv_nonneg ha (Int.le_of_lt hd)
    have u2 := Int.ediv_le_self d ha
    omega
  · have u1 : a / d < 0 := Int.ediv_neg_of_neg_of_pos (by omega) hd
    have u2 : a ≤ a / d := by
      rw [Int.le_ediv_iff_mul_le hd]
      have u3 : a * d = a + a * (d - 1) := by rw [Int.mul_sub, Int.mul_one]; omega
      have u4 : a * (d - 1) ≤ 0 := Int.mul_nonpos_of_nonpos_of_nonneg (by omega) (by omega)
      omega
    omega
theorem fdiv_abs {a d : Int} (hd : d ≠ 0) : (a.fdiv d).natAbs ≤ a.natAbs := by
  by_cases h : 0 < d
  · rw [Int.fdiv_eq_ediv_of_nonneg _ (Int.le_of_lt h)]; exact ediv_abs h
  · have e : a.fdiv d = (-a).fdiv (-d) := (Int.neg_fdiv_neg a d).symm
    rw [e, Int.fdiv_eq_ediv_of_nonneg _ (by omega)]
    have := ediv_abs (a := -a) (d := -d) (by omega)
    omega
theorem jpos {q p v1 v2 l u : Int} (hq : 0 < q) (h1 : v1 ≤ p) (h2 : p ≤ v2) (e1 : l ≤ v1 * q) (e2 : v2 * q ≤ u) : l ≤ q * p ∧ q * p ≤ u := by
  have a1 := Int.mul_le_mul_of_nonneg_right h1 (Int.le_of_lt hq)
  have a2 := Int.mul_le_mul_of_nonneg_right h2 (Int.le_of_lt hq)
  rw [Int.mul_comm q p]
  omega
theorem jneg {q p v1 v2 l u : Int} (hq : q < 0) (h1 : p ≤ v1) (h2 : v2 ≤ p) (e1 : l ≤ v1 * q) (e2 : v2 * q ≤ u) : l ≤ q * p ∧ q * p ≤ u := by
  have a1 := Int.mul_le_mul_of_nonneg_right h1 (show 0 ≤ -q by omega)
  have a2 := Int.mul_le_mul_of_nonneg_right h2 (show 0 ≤ -q by omega)
  rw [Int.mul_neg, Int.mul_neg] at a1 a2
  rw [Int.mul_comm q p]
  omega
theorem dn_int {a d v : Int64} (ha : big 4000000000000000000 a) (hd : d ≠ 0) (h : X9_down a d = some v) : v.toInt = a.toInt.fdiv d.toInt := fd_int ha hd (by rw [← down_eq]; exact h)
theorem up_int {a d v : Int64} (ha : big 4000000000000000000 a) (hd : d ≠ 0) (h : X9_up a d = some v) : v.toInt = -((-a.toInt).fdiv d.toInt) := by
  rw [up_eq] at h
  obtain ⟨q, h1, h2⟩ := bd_some h
  cases h2
  obtain ⟨a1, a2⟩ := ha
  have hna : (-a).toInt = -a.toInt := neg_ex (by omega)
  have e := fd_int (a := -a) (by unfold big; rw [hna]; omega) hd h1
  rw [hna] at e
  have hb := fdiv_abs (a := -a.toInt) (i64z hd)
  rw [neg_ex (by rw [e]; omega), e]
theorem sumN_one {f : Nat → Int64} {y : Nat} : ∀ {n : Nat}, y < n → (∀ c, c < n → c ≠ y → f c = 0) → sumN f n = f y
  | 0, h, _ => absurd h (by omega)
  | n + 1, h, hz => by
    simp only [sumN]
    by_cases e : y = n
    · subst e
      have : sumN f y = 0 := by
        have key : ∀ k, k ≤ y → sumN f k = 0 := by
          intro k
          induction k with
          | zero => intro _; rfl
          | succ k ih => intro hk; simp only [sumN]; rw [ih (by omega), hz k (by omega) (by omega)]; rfl
        exact key y (Nat.le_refl _)
      rw [this, Int64.zero_add]
    · rw [hz n (by omega) (fun z => e z.symm), sumN_one (show y < n by omega) (fun c hc hne => hz c (by omega) hne), Int64.add_zero]
/-- x by y alone stays within its bounds -/
theorem J9 {C : Nat} {m : MW} {x y : Nat} {g : Nat → Int64} {q sh : Int64} (hy : y < C) (hgq : g y = q) (hgz : ∀ c, c < C → c ≠ y → g c = 0) (hq : big 1000000 q) (hq0 : q ≠ 0) (hsh : big 100000000000000000 sh) (hlx : big 10000 (lo m x)) (hhx : big 10000 (hi m x)) (hby : -10000 ≤ (lo m y).toInt ∧ (hi m y).toInt ≤ 10000) (hb : (¬ q ≤ 0 ∧ (∃ v1 v2, X9_up (lo m x - sh) q = some v1 ∧ X9_down (hi m x - sh) q = some v2 ∧ v1 ≤ lo m y ∧ hi m y ≤ v2)) ∨ (q ≤ 0 ∧ (∃ v1 v2, X9_down (lo m x - sh) q = some v1 ∧ X9_up (hi m x - sh) q = some v2 ∧ hi m y ≤ v1 ∧ v2 ≤ lo m y))) (p : Nat → Int64) (hp : inBox C m p) : lo m x ≤ sh + sumN (fun c => g c * p c) C ∧ sh + sumN (fun c => g c * p c) C ≤ hi m x := by
  rw [sumN_one (f := fun c => g c * p c) hy (fun c hc hne => by show g c * p c = 0; rw [hgz c hc hne, Int64.zero_mul]), hgq]
  obtain ⟨p1, p2⟩ := hp y hy
  have p1' := Int64.le_iff_toInt_le.mp p1
  have p2' := Int64.le_iff_toInt_le.mp p2
  have hpb : big 10000 (p y) := ⟨by omega, by omega⟩
  obtain ⟨m1, m2, m3⟩ := mul_big hq hpb (by omega) (by omega) (by omega)
  obtain ⟨s1, s2⟩ := hsh
  obtain ⟨l1, l2⟩ := hlx
  obtain ⟨u1, u2⟩ := hhx
  have hl : (lo m x - sh).toInt = (lo m x).toInt - sh.toInt := sub_ex (by omega)
  have hu : (hi m x - sh).toInt = (hi m x).toInt - sh.toInt := sub_ex (by omega)
  have hlb : big 4000000000000000000 (lo m x - sh) := by unfold big; rw [hl]; omega
  have hub : big 4000000000000000000 (hi m x - sh) := by unfold big; rw [hu]; omega
  have hs : (sh + q * p y).toInt = sh.toInt + q.toInt * (p y).toInt := by rw [add_ex (by rw [m1]; omega), m1]
  have hz : (0 : Int64).toInt = 0 := rfl
  have hqz := i64z hq0
  have key : (lo m x).toInt - sh.toInt ≤ q.toInt * (p y).toInt ∧ q.toInt * (p y).toInt ≤ (hi m x).toInt - sh.toInt := by
    rcases hb with ⟨b0, v1, v2, b1, b2, b3, b4⟩ | ⟨b0, v1, v2, b1, b2, b3, b4⟩
    · have hqp : 0 < q.toInt := by
        have : ¬ q.toInt ≤ (0 : Int64).toInt := fun z => b0 (Int64.le_iff_toInt_le.mpr z)
        omega
      have c1 := up_int hlb hq0 b1
      have c2 := dn_int hub hq0 b2
      have b3' := Int64.le_iff_toInt_le.mp b3
      have b4' := Int64.le_iff_toInt_le.mp b4
      rw [hl] at c1
      rw [hu] at c2
      have d1 := fdm_pos (a := -((lo m x).toInt - sh.toInt)) hqp
      have d2 := fdm_pos (a := (hi m x).toInt - sh.toInt) hqp
      rw [← c2] at d2
      refine jpos hqp (v1 := v1.toInt) (v2 := v2.toInt) (by omega) (by omega) ?_ d2
      rw [c1, Int.neg_mul]
      omega
    · have hqn : q.toInt < 0 := by
        have := Int64.le_iff_toInt_le.mp b0
        omega
      have c1 := dn_int hlb hq0 b1
      have c2 := up_int hub hq0 b2
      have b3' := Int64.le_iff_toInt_le.mp b3
      have b4' := Int64.le_iff_toInt_le.mp b4
      rw [hl] at c1
      rw [hu] at c2
      have d1 := fdm_neg (a := (lo m x).toInt - sh.toInt) hqn
      have d2 := fdm_neg (a := -((hi m x).toInt - sh.toInt)) hqn
      rw [← c1] at d1
      refine jneg hqn (v1 := v1.toInt) (v2 := v2.toInt) (by omega) (by omega) d1 ?_
      rw [c2, Int.neg_mul]
      omega
  rw [Int64.le_iff_toInt_le, Int64.le_iff_toInt_le, hs]
  omega
section SC
variable {C R : Nat} {F : FR} {N : Nat} {w : CW} {m : MW}
theorem Rl_act (h : Rl C R F N w m) (hN : N < 1000000) (a b c d : Int32) (e : Int64) : ∃ w' m', X0_note w a b c d e = some w' ∧ X9_act m a b c d e = some m' ∧ Rl C R F (N + 1) w' m' ∧ gM_certificate m' = gM_certificate m := by
  obtain ⟨nn, a1, a2, a3, a4, a5, q1, q2, q3⟩ := sim_act h.2.2.2.2.1 hN a b c d e
  exact ⟨_, _, q1, q2, ⟨h.1, h.2.1, h.2.2.1, fun r' hr' => rowOK_mono (h.2.2.2.1 r' hr') (by omega), q3, h.2.2.2.2.2.1, h.2.2.2.2.2.2.1, h.2.2.2.2.2.2.2⟩, rfl⟩
/-- the end of both rules that put in -/
theorem s_putEnd (h : Rl C R F N w m) (hN : N < 1000000) {ru : Int32} (hru : F.2.2.2.2.2 = ru) {r x : Nat} (hr : r < R) (hg : gM_gone m r = 0) (hx : x < C) (hs : gM_state m x = 0) (hc1 : allN (pCost m r x) C = true) (hc2 : allN (pRow m C r x) R = true) (hJ : ∀ p : Nat → Int64, inBox C m p → lo m x ≤ tm m r x * gM_right m r + sumN (fun c => fc m r x c * p c) C ∧ tm m r x * gM_right m r + sumN (fun c => fc m r x c * p c) C ≤ hi m x) {y : Option MW} (HM : ∀ P, gM_putIns m = nI P → P < 12 → ∃ m5, y = (X9_act m5 ru (nI r) (nI x) 5 (tm m r x * gM_right m r)).bind (fun z => some z) ∧ putM m m5 C R r x P) : ∃ w' m', X1_putInFor w (nI r) (nI x) = some w' ∧ y = some m' ∧ Rl C R F (N + 1) w' m' ∧ gM_certificate m' = gM_certificate m := by
  have hC := h.C12
  have hR := h.R12
  obtain ⟨P, p1, p2, p3, p4⟩ := h.2.2.2.2.2.1
  have hP12 : P < 12 := by
    have e := cntN_up (p := fun c => gM_state m c == 2) (q := fun c => upd (gM_state m) x 2 c == 2) (x := x) (by simp [hs]) (by simp [upd]) (fun c hc => by simp [upd, hc]) hx
    have := cntN_le (fun c => upd (gM_state m) x 2 c == 2) C
    omega
  obtain ⟨m5, e1, e2⟩ := HM P p3 hP12
  obtain ⟨w5, A', rt, rs, f1, f2⟩ := cl_putFor (w := w) (g := fc m r x) hC hR hr hx h.1.1 h.1.2.1 p2 hP12 (fun y hy => cl_fc h hr hg hx hy) (by unfold fc; rw [if_pos rfl])
  have H5 := Rl_put h hr hg hx hs p1 hc1 hc2 hJ f2 e2
  obtain ⟨w', m', z1, z2, z3, z4⟩ := Rl_act H5 hN ru (nI r) (nI x) 5 (tm m r x * gM_right m r)
  refine ⟨w', m', ?_, ?_, z3, z4.trans e2.1.1.2.2.2.2.2.2.2.2.1⟩
  · rw [f1, h.2.1.2.2.2.2.2, hru, h.a hr hg hx, (h.2.2.2.1 r hr).1.1, z1]; rfl
  · rw [e1, z2]; rfl
end SC
