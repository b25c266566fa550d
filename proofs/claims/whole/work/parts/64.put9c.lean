/-! rule 9, put together -/
theorem NR_fc {m m' : MW} (h : NR m m') (r x y : Nat) : fc m' r x y = fc m r x y := by unfold fc; rw [NR_tm h, NR_tm h]
theorem NR_pCost {m m' : MW} (h : NR m m') (r x : Nat) : pCost m' r x = pCost m r x := by
  funext y; unfold pCost; rw [NR_fc h, h.1.2.2.2.1]
theorem NR_pRow {m m' : MW} (h : NR m m') (C r x : Nat) : pRow m' C r x = pRow m C r x := by
  funext o; unfold pRow; simp only [NR_fc h, NR_tm h, h.1.2.2.2.2.2.1, h.1.2.2.2.2.2.2.1]
def tail9 (a0 : Int32) (j79_0 : MW) (j79_1 : Int32) (j79_2 : Int32) (j79_3 : Int32) (r168 : MW) : Option MW := ((iter (X9_puts_L182 a0 j79_0 j79_1 j79_2 j79_3) 5000 (r168, 0)).bind (fun z182 : (MW) => (if inR ((j79_1 + j79_2) - j79_3) 12 = true then (if inR j79_3 12 = true then (if inR ((j79_1 + j79_2) - j79_3) 12 = true then (bnd (sM_cost z182 (vp_updL (gM_cost z182) ((j79_1 + j79_2) - j79_3).toNatClampNeg (((gM_cost z182) ((j79_1 + j79_2) - j79_3).toNatClampNeg) + (((-((gM_coef j79_0) ((12 * a0) + j79_3).toNatClampNeg)) * ((gM_coef j79_0) ((12 * a0) + ((j79_1 + j79_2) - j79_3)).toNatClampNeg)) * ((gM_cost z182) j79_3.toNatClampNeg))))) (fun w310 : MW => ((iter (X9_puts_L314 a0 j79_0 j79_1 j79_2 j79_3) 5000 (w310, 0)).bind (fun z314 : (MW) => ((X9_goes z314 9 a0 j79_3 (((gM_coef j79_0) ((12 * a0) + j79_3).toNatClampNeg) * ((gM_right j79_0) a0.toNatClampNeg))).bind (fun r363 : MW => (some r363))))))) else none) else none) else none)))
theorem j79_eq (a0 : Int32) (m : MW) (a b x : Int32) : X9_puts_J79 a0 m a b x = (if inR ((12 * a0) + x) 144 = true then ((X9_isUnit ((gM_coef m) ((12 * a0) + x).toNatClampNeg)).bind (fun r105 : Int32 => (if r105 = 0 then (some m) else (if inR ((12 * a0) + ((a + b) - x)) 144 = true then (if inR a0 12 = true then ((X9_mayPut m a0 x ((a + b) - x) ((-((gM_coef m) ((12 * a0) + x).toNatClampNeg)) * ((gM_coef m) ((12 * a0) + ((a + b) - x)).toNatClampNeg)) (((gM_coef m) ((12 * a0) + x).toNatClampNeg) * ((gM_right m) a0.toNatClampNeg))).bind (fun r151 : Int32 => (if r151 = 0 then (some m) else ((X9_byBounds m a0 x ((a + b) - x) ((-((gM_coef m) ((12 * a0) + x).toNatClampNeg)) * ((gM_coef m) ((12 * a0) + ((a + b) - x)).toNatClampNeg)) (((gM_coef m) ((12 * a0) + x).toNatClampNeg) * ((gM_right m) a0.toNatClampNeg))).bind (fun r168 : MW => ((X9_goesOn r168).bind (fun r172 : Int32 => (if r172 = 0 then (some r168) else tail9 a0 m a b x r168))))))) ) else none) else none)))) else none) := rfl
section SE
variable {C R : Nat} {F : FR} {N : Nat} {w : CW} {m : MW}
theorem rf_tail9 {m2 : MW} (hC : C ≤ 12) (hR : R ≤ 12) (hc2 : gM_columns m2 = nI C) (hr2 : gM_rows m2 = nI R) (hNR : NR m m2) {r x y P : Nat} (hr : r < R) (hT : T2 m C r x y) {a b : Int32} (hab : a + b - nI x = nI y) (hP : gM_putIns m2 = nI P) (hP12 : P < 12) : ∃ m5, tail9 (nI r) m a b (nI x) m2 = (X9_act m5 9 (nI r) (nI x) 5 (tm m2 r x * gM_right m2 r)).bind (fun z => some z) ∧ putM m2 m5 C R r x P := by
  have hT' := hT
  obtain ⟨hx, hy, hxy, tx, ty, tz⟩ := hT'
  have hr12 : r < 12 := by omega
  have hx12 : x < 12 := by omega
  have hy12 : y < 12 := by omega
  have hq : -(gM_coef m (12 * r + x)) * gM_coef m (12 * r + y) = fc m r x y := by rw [tm_coef tx, tm_coef ty, fc_y hT]
  have hsr : gM_coef m (12 * r + x) * gM_right m r = tm m2 r x * gM_right m2 r := by rw [tm_coef tx, NR_tm hNR, hNR.1.2.2.2.2.2.2.1]
  obtain ⟨K', rt', rs', e1, e2⟩ := rf_putRows (m := m) (m2 := m2) (a := a) (b := b) hR hr hx12 hy12 hxy hab hr2 hq hsr
  obtain ⟨of, f1, f2, f3⟩ := rf_often (m := m) (m2 := sM_cost (sM_rest (sM_right (sM_coef m2 K') rt') rs') (vp_updL (gM_cost m2) y (gM_cost m2 y + fc m r x y * gM_cost m2 x))) (a := a) (b := b) hC hr12 hx12 hy12 hab hc2 hq
  obtain ⟨m5, g1, g2, g3, g4, ⟨g5, g6, g7, g8, g9⟩, g10, g11, g12, g13⟩ := rf_goes (m2 := sM_often (sM_cost (sM_rest (sM_right (sM_coef m2 K') rt') rs') (vp_updL (gM_cost m2) y (gM_cost m2 y + fc m r x y * gM_cost m2 x))) of) (P := P) hr12 hx12 hP12 hP 9 (tm m2 r x * gM_right m2 r)
  have hz : ∀ c, c < C → fc m2 r x c = if c = y then fc m r x y else 0 := fun c hc => by
    rw [NR_fc hNR]
    by_cases e : c = y
    · rw [if_pos e, e]
    · rw [if_neg e, fc_z hT hc e]
  refine ⟨m5, ?_, ?_, g3, g4, fun c hc => ?_, fun o ho => ?_, ?_, g11, ⟨?_, fun i hi => ?_⟩, ⟨?_, fun c hc => ?_⟩, fun c hc => ?_, fun x' c hx' hc => ?_⟩
  · have c1 : gM_cost (sM_rest (sM_right (sM_coef m2 K') rt') rs') = gM_cost m2 := rfl
    simp only [tail9, e1, Option.bind_some, hab, inR12 hy12, cl12 hy12, inR12 hx12, cl12 hx12, if_true, bnd, ix144, cl144 hr12 hx12, cl144 hr12 hy12, cl12 hr12, hq, hsr, c1, f1, g1]
    cases X9_act m5 9 (nI r) (nI x) 5 (tm m2 r x * gM_right m2 r) <;> rfl
  · exact MS.trans (a := m2) (b := sM_often (sM_cost (sM_rest (sM_right (sM_coef m2 K') rt') rs') (vp_updL (gM_cost m2) y (gM_cost m2 y + fc m r x y * gM_cost m2 x))) of) ⟨⟨rfl, rfl, rfl, rfl, rfl, rfl, rfl, rfl, rfl, rfl⟩, rfl, rfl, rfl, rfl, rfl⟩ g2
  · rw [g5]
    show vp_updL (gM_cost m2) y (gM_cost m2 y + fc m r x y * gM_cost m2 x) c = _
    rw [hz c hc]
    unfold vp_updL
    by_cases e : c = y
    · rw [if_pos e, if_pos e, e]
    · rw [if_neg e, if_neg e, Int64.zero_mul, Int64.add_zero]
  · have hh := e2 o ho
    have k1 : gM_coef m5 = K' := g6
    have k2 : gM_right m5 = rt' := g7
    have k3 : gM_rest m5 = rs' := g8
    unfold rowPutM
    rw [k1, k2, k3]
    refine ⟨fun z => ?_, fun z => ?_⟩
    · obtain ⟨y1, y2, y3, y4⟩ := hh.1 z
      refine ⟨fun c hc hcx hcs => ?_, y3, y4⟩
      rw [hz c hc]
      by_cases e : c = y
      · rw [if_pos e, e]; exact y1
      · rw [if_neg e, Int64.mul_zero, Int64.add_zero]; exact y2 c (by omega) e
    · obtain ⟨y1, y2, y3⟩ := hh.2 z
      exact ⟨fun c hc => y1 c (by omega), y2, y3⟩
  · rw [g10]
    show gM_offset m2 + tm m2 r x * gM_right m2 r * vp_updL (gM_cost m2) y (gM_cost m2 y + fc m r x y * gM_cost m2 x) x = _
    unfold vp_updL
    rw [if_neg (fun e => hxy e.symm)]
  · rw [g12]; unfold upd; rw [if_pos rfl]
  · rw [g12]; unfold upd; rw [if_neg hi]
  · rw [g13]; unfold vp_updL; rw [if_pos rfl]
  · rw [g13]; unfold vp_updL; rw [if_neg hc]
  · rw [g9]
    show of (12 * x + c) = _
    rw [f2 c hc, hz c hc]
  · rw [g9]
    exact f3 x' c hx' hc
/-- both narrowings of the column that stays -/
theorem s_bnds (h : Rl C R F N w m) (hN : N + 2 < 1000000) (hcert : gM_certificate m = -1) (hru : F.2.2.2.2.2 = 9) {r x y : Nat} (hr : r < R) (hx : x < C) (hy : y < C) (hxy : y ≠ x) (sy : gM_state m y = 0) {q : Int64} (hq0 : q ≠ 0) (sh : Int64) : ∃ b w2 m2, (if 0 ≤ q then (X1_putIn_J186 (nI r) w (nI x) (nI y) sh q (gM_rest m r) (nI r) (nI y) 0) else (X1_putIn_J186 (nI r) w (nI x) (nI y) sh q (gM_rest m r) (nI r) (nI y) 1)) = (if b = 0 then some (0, w2) else ((X1_putInFor w2 (nI r) (nI x)).bind (fun r279 : CW => (some (1, r279))))) ∧ X9_byBounds m (nI r) (nI x) (nI y) q sh = some m2 ∧ Rl C R F (N + 2) w2 m2 ∧ good b m2 ∧ NR m m2 ∧ OC y m m2 ∧ (gM_certificate m2 = -1 → (¬ q ≤ 0 ∧ (∃ v1 v2, X9_up (lo m x - sh) q = some v1 ∧ X9_down (hi m x - sh) q = some v2 ∧ v1 ≤ lo m2 y ∧ hi m2 y ≤ v2)) ∨ (q ≤ 0 ∧ (∃ v1 v2, X9_down (lo m x - sh) q = some v1 ∧ X9_up (hi m x - sh) q = some v2 ∧ hi m2 y ≤ v1 ∧ v2 ≤ lo m2 y))) := by
  have hC := h.C12
  have hR := h.R12
  have hr12 : r < 12 := by omega
  have hx12 : x < 12 := by omega
  have hy12 : y < 12 := by omega
  obtain ⟨⟨c1, c2, c3, c4, c5, c6⟩, c7, c8, -⟩ := h.2.2.1 x hx
  have hxy' : x ≠ y := fun e => hxy e.symm
  have down : ∀ a : Int64, ∃ v, X9_down a q = some v := fun a => by rw [down_eq]; exact fd_some a hq0
  have up : ∀ a : Int64, ∃ v, X9_up a q = some v := fun a => by
    obtain ⟨v, hv⟩ := fd_some (-a) hq0
    exact ⟨-v, by rw [up_eq, hv]; rfl⟩
  rcases i64_pos hq0 with ⟨hq1, hq2⟩ | ⟨hq1, hq2⟩
  · obtain ⟨v1, b1, w1, m1, u1, u2, u3, u4, u5, u6, u7, u8⟩ := sim_hi h (by omega) hcert hru hy sy (nI r) (lo m x - sh) hq0 (mk_or (h.mkR hr) c7)
    rcases good_cases u5 with ⟨rfl, k1⟩ | ⟨rfl, k1⟩
    · have e1 : gT_high (gC_tab w1) x = hi m x := by rw [(u4.2.2.1 x hx).1.2.2.1]; show (gM_high m1 x).toInt64 = _; rw [(u7 x hxy').2.1]
      have e2 : gC_highRest w1 x = gM_highRest m x := by rw [(u4.2.2.1 x hx).1.2.2.2.2.2, (u7 x hxy').2.2.2]
      obtain ⟨v2, b2, w2, m2, t1, t2, t3, t4, t5, t6, t7, t8⟩ := sim_lo u4 (by omega) k1 hru hy (by rw [u6.1.2.2.1]; exact sy) (nI r) (hi m x - sh) hq0 (mk_or (h.mkR hr) c8)
      refine ⟨b2, w2, m2, ?_, ?_, t4, t5, u6.trans t6, fun c' hc' => ?_, fun hk => Or.inr ⟨hq1, v1, v2, u1, t1, Int64.le_trans (t6.2 y).2 (u8 k1), t8 hk⟩⟩
      · rw [if_neg hq2]
        simp only [X1_putIn_J186, inR12 hx12, cl12 hx12, if_true, c2, c5, u2, Option.bind_some, i10, if_false, hq1, X1_putIn_J239, e1, e2, t2]
      · simp only [X9_byBounds, inR12 hx12, cl12 hx12, inR12 hr12, cl12 hr12, if_true, hq1, u1, u3, Option.bind_some, t1, t3]
      · obtain ⟨a1, a2, a3, a4⟩ := u7 c' hc'
        obtain ⟨d1, d2, d3, d4⟩ := t7 c' hc'
        exact ⟨d1.trans a1, d2.trans a2, d3.trans a3, d4.trans a4⟩
    · obtain ⟨v2, t1⟩ := up (hi m x - sh)
      refine ⟨0, w1, m1, ?_, ?_, u4.mono (by omega), u5, u6, u7, fun hk => absurd hk k1⟩
      · rw [if_neg hq2]
        simp only [X1_putIn_J186, inR12 hx12, cl12 hx12, if_true, c2, c5, u2, Option.bind_some]
      · simp only [X9_byBounds, inR12 hx12, cl12 hx12, inR12 hr12, cl12 hr12, if_true, hq1, u1, u3, Option.bind_some, t1, no_low k1]
  · obtain ⟨v1, b1, w1, m1, u1, u2, u3, u4, u5, u6, u7, u8⟩ := sim_lo h (by omega) hcert hru hy sy (nI r) (lo m x - sh) hq0 (mk_or (h.mkR hr) c7)
    rcases good_cases u5 with ⟨rfl, k1⟩ | ⟨rfl, k1⟩
    · have e1 : gT_high (gC_tab w1) x = hi m x := by rw [(u4.2.2.1 x hx).1.2.2.1]; show (gM_high m1 x).toInt64 = _; rw [(u7 x hxy').2.1]
      have e2 : gC_highRest w1 x = gM_highRest m x := by rw [(u4.2.2.1 x hx).1.2.2.2.2.2, (u7 x hxy').2.2.2]
      obtain ⟨v2, b2, w2, m2, t1, t2, t3, t4, t5, t6, t7, t8⟩ := sim_hi u4 (by omega) k1 hru hy (by rw [u6.1.2.2.1]; exact sy) (nI r) (hi m x - sh) hq0 (mk_or (h.mkR hr) c8)
      refine ⟨b2, w2, m2, ?_, ?_, t4, t5, u6.trans t6, fun c' hc' => ?_, fun hk => Or.inl ⟨hq1, v1, v2, u1, t1, Int64.le_trans (u8 k1) (t6.2 y).1, t8 hk⟩⟩
      · rw [if_pos hq2]
        simp only [X1_putIn_J186, inR12 hx12, cl12 hx12, if_true, c2, c5, u2, Option.bind_some, i10, if_false, hq1, X1_putIn_J239, e1, e2, t2]
      · simp only [X9_byBounds, inR12 hx12, cl12 hx12, inR12 hr12, cl12 hr12, if_true, hq1, if_false, u1, u3, Option.bind_some, t1, t3]
      · obtain ⟨a1, a2, a3, a4⟩ := u7 c' hc'
        obtain ⟨d1, d2, d3, d4⟩ := t7 c' hc'
        exact ⟨d1.trans a1, d2.trans a2, d3.trans a3, d4.trans a4⟩
    · obtain ⟨v2, t1⟩ := down (hi m x - sh)
      refine ⟨0, w1, m1, ?_, ?_, u4.mono (by omega), u5, u6, u7, fun hk => absurd hk k1⟩
      · rw [if_pos hq2]
        simp only [X1_putIn_J186, inR12 hx12, cl12 hx12, if_true, c2, c5, u2, Option.bind_some]
      · simp only [X9_byBounds, inR12 hx12, cl12 hx12, inR12 hr12, cl12 hr12, if_true, hq1, if_false, u1, u3, Option.bind_some, t1, no_high k1]
theorem colb (h : Rl C R F N w m) {c : Nat} (hc : c < C) : big 10000 (lo m c) ∧ big 10000 (hi m c) ∧ -10000 ≤ (lo m c).toInt ∧ (hi m c).toInt ≤ 10000 := by
  obtain ⟨-, -, -, c9, c10, c11, -⟩ := h.2.2.1 c hc
  unfold big
  rw [(toI c).1, (toI c).2]
  omega
theorem unit_cases {v : Int64} (h : ¬ (if v = 1 then (1 : Int32) else if v = -1 then 1 else 0) = 0) : v = 1 ∨ v = -1 := by
  by_cases h1 : v = 1
  · exact Or.inl h1
  · by_cases h2 : v = -1
    · exact Or.inr h2
    · rw [if_neg h1, if_neg h2] at h; exact absurd rfl h
theorem big_unit {B : Int} {u v : Int64} (hu : u = 1 ∨ u = -1) (h : big B v) (hB : B ≤ 4000000000000000000) : big B (u * v) := by
  rcases hu with rfl | rfl
  · rw [Int64.one_mul]; exact h
  · rw [neg_one_mul']; exact big_neg h hB
theorem nunit {u : Int64} (hu : u = 1 ∨ u = -1) : -u = 1 ∨ -u = -1 := by
  rcases hu with rfl | rfl
  · exact Or.inr rfl
  · exact Or.inl rfl
theorem unit_nz {u v : Int64} (hu : u = 1 ∨ u = -1) (h : v ≠ 0) : u * v ≠ 0 := by
  rcases hu with rfl | rfl
  · rw [Int64.one_mul]; exact h
  · rw [neg_one_mul']; intro e
    exact h (by rw [← Int64.neg_neg (a := v), e]; rfl)
theorem s_j79 (h : Rl C R F N w m) (hN : N + 30 < 1000000) (hcert : gM_certificate m = -1) (hru : F.2.2.2.2.2 = 9) {r : Nat} (hr : r < R) (hg : gM_gone m r = 0) {x y : Nat} (hT : T2 m C r x y) {a b : Int32} (hab : a + b - nI x = nI y) : StO C R F (N + 30) (X1_putIn_J94 (nI r) w (nI x) (nI y)) (X9_puts_J79 (nI r) m a b (nI x)) := by
  have hC := h.C12
  have hR := h.R12
  have hT' := hT
  obtain ⟨hx, hy, hxy, tx, ty, tz⟩ := hT'
  have hr12 : r < 12 := by omega
  have hx12 : x < 12 := by omega
  have hy12 : y < 12 := by omega
  have stay : StO C R F (N + 30) (some (1, w)) (some m) := ⟨1, w, m, rfl, rfl, h.mono (by omega), good_yes hcert⟩
  have hq : -(gM_coef m (12 * r + x)) * gM_coef m (12 * r + y) = fc m r x y := by rw [tm_coef tx, tm_coef ty, fc_y hT]
  have hsr : gM_coef m (12 * r + x) * gM_right m r = tm m r x * gM_right m r := by rw [tm_coef tx]
  rw [j79_eq]
  simp only [X1_putIn_J94, cl_unit h hr hg hx, Option.bind_some, hab, ix144, inR144 hr12 hx12, cl144 hr12 hx12, inR144 hr12 hy12, cl144 hr12 hy12, inR12 hr12, cl12 hr12, inR12 hx12, cl12 hx12, if_true, rf_unit, hq, hsr, rf_may h hr hx hy, may_stays h hr hT, cl_stays h hr hg hx, cl_fc h hr hg hx hy, h.a hr hg hx, (h.2.2.2.1 r hr).1.1, (h.2.2.2.1 r hr).1.2]
  rw [tm_coef tx]
  by_cases hu : (if tm m r x = 1 then (1 : Int32) else if tm m r x = -1 then 1 else 0) = 0
  · rw [if_pos hu, if_pos hu]; exact stay
  · rw [if_neg hu, if_neg hu]
    have hun := unit_cases hu
    by_cases hS : (wi 1000000000000000 (tm m r x * gM_right m r * gM_cost m x) && (allN (pCost m r x) C && allN (pRow m C r x) R)) = true
    · rw [if_pos hS, if_neg (show ¬ (1 : Int32) = 0 by decide), if_neg (show ¬ (1 : Int32) = 0 by decide)]
      have hS2 : allN (pCost m r x) C = true ∧ allN (pRow m C r x) R = true := by
        rw [Bool.and_eq_true, Bool.and_eq_true] at hS
        exact hS.2
      have hq0 : fc m r x y ≠ 0 := by rw [fc_y hT]; exact unit_nz (nunit hun) ty
      obtain ⟨bb, w2, m2, b1, b2, b3, b4, b5, b6, b7⟩ := s_bnds h (by omega) hcert hru hr hx hy hxy (tm_state ty) hq0 (tm m r x * gM_right m r)
      rw [b1, b2, Option.bind_some]
      rcases good_cases b4 with ⟨rfl, k1⟩ | ⟨rfl, k1⟩
      · rw [if_neg (show ¬ (1 : Int32) = 0 by decide), rf_go k1, Option.bind_some, if_neg (show ¬ (1 : Int32) = 0 by decide)]
        have hxy' : x ≠ y := fun e => hxy e.symm
        have elo : lo m2 x = lo m x := by show (gM_low m2 x).toInt64 = _; rw [(b6 x hxy').1]
        have ehi : hi m2 x = hi m x := by show (gM_high m2 x).toInt64 = _; rw [(b6 x hxy').2.1]
        have hsh : big 100000000000000000 (tm m2 r x * gM_right m2 r) := by
          rw [NR_tm b5, b5.1.2.2.2.2.2.2.1]
          exact big_mono (big_unit hun (h.2.2.2.1 r hr).2.2.2.1 (by omega)) (by omega)
        have hqb : big 1000000 (fc m r x y) := by rw [fc_y hT]; exact big_unit (nunit hun) (h.ab hr hg hy) (by omega)
        obtain ⟨x1, x2, -, -⟩ := colb b3 hx
        obtain ⟨-, -, y3, y4⟩ := colb b3 hy
        have hJ := J9 (C := C) (m := m2) (x := x) (y := y) (g := fc m2 r x) (q := fc m r x y) (sh := tm m2 r x * gM_right m2 r) hy (NR_fc b5 r x y) (fun c hc hne => by rw [NR_fc b5]; exact fc_z hT hc hne) hqb hq0 hsh x1 x2 ⟨y3, y4⟩ (by
          rw [elo, ehi, NR_tm b5, b5.1.2.2.2.2.2.2.1]
          exact b7 k1)
        obtain ⟨w', m', z1, z2, z3, z4⟩ := s_putEnd b3 (by omega) hru hr (by rw [b5.1.2.2.2.2.2.1]; exact hg) hx (by rw [b5.1.2.2.1]; exact tm_state tx) (by rw [NR_pCost b5]; exact hS2.1) (by rw [NR_pRow b5]; exact hS2.2) hJ (y := tail9 (nI r) m a b (nI x) m2) (fun P p1 p2 => rf_tail9 hC hR b3.1.2.2.1 b3.1.2.2.2.1 b5 hr hT hab p1 p2)
        rw [z1, z2]
        exact ⟨1, w', m', rfl, rfl, z3.mono (by omega), good_yes (z4.trans k1)⟩
      · rw [if_pos rfl, rf_no k1, Option.bind_some, if_pos rfl]
        exact ⟨0, w2, m2, rfl, rfl, b3.mono (by omega), b4⟩
    · rw [if_neg hS, if_pos rfl, if_pos rfl]; exact stay
theorem rf_two (h : Rl C R F N w m) {r : Nat} (hr : r < R) {f s : Nat} (hfs : f < s) (hs : s < C) (z1 : ∀ j, j < f → tm m r j = 0) (tf : tm m r f ≠ 0) (z2 : ∀ j, f < j → j < s → tm m r j = 0) (ts : tm m r s ≠ 0) (z3 : ∀ j, s < j → j < C → tm m r j = 0) : iter (X9_puts_L27 m (nI r)) 5000 (-1, -1, 0) = some (nI f, nI s) := by
  have hC := h.C12
  have e := iter_to (step := X9_puts_L27 m (nI r)) C (fun i => ((if i ≤ s then (-1 : Int32) else nI f), (if i ≤ f then (-1 : Int32) else if i ≤ s then nI f else nI s), nI i)) (nI f, nI s) (fun i hi => by
    simp only [X9_puts_L27, h.1.2.2.1, nC_le hC hi, if_false, rf_term h hr hi, Option.bind_some, X9_puts_J51, nI_1]
    by_cases a1 : i < f
    · simp only [z1 i a1, if_true, eq_true (show i ≤ s by omega), eq_true (show i ≤ f by omega), eq_true (show i + 1 ≤ s by omega), eq_true (show i + 1 ≤ f by omega)]
    · by_cases a2 : i = f
      · subst a2
        simp only [tf, if_false, i10, if_true, eq_true (show i ≤ s by omega), Nat.le_refl, eq_true (show i + 1 ≤ s by omega), eq_false (show ¬ i + 1 ≤ i by omega)]
      · by_cases a3 : i < s
        · simp only [z2 i (by omega) a3, if_true, if_false, eq_true (show i ≤ s by omega), eq_false (show ¬ i ≤ f by omega), eq_true (show i + 1 ≤ s by omega), eq_false (show ¬ i + 1 ≤ f by omega)]
        · by_cases a4 : i = s
          · subst a4
            simp only [ts, if_false, i10, if_true, Nat.le_refl, eq_false (show ¬ i ≤ f by omega), eq_false (show ¬ i + 1 ≤ i by omega), eq_false (show ¬ i + 1 ≤ f by omega)]
          · simp only [z3 i (by omega) hi, if_true, if_false, eq_false (show ¬ i ≤ s by omega), eq_false (show ¬ i ≤ f by omega), eq_false (show ¬ i + 1 ≤ s by omega), eq_false (show ¬ i + 1 ≤ f by omega)]) (by
    simp only [X9_puts_L27, h.1.2.2.1, Int32.le_refl, if_true, if_false, eq_false (show ¬ C ≤ s by omega), eq_false (show ¬ C ≤ f by omega)]) (f := 5000) (by omega)
  simp only [Nat.zero_le, if_true] at e
  exact e
theorem r_puts (h : Rl C R F N w m) (hN : N + 30 < 1000000) (hcert : gM_certificate m = -1) (hru : F.2.2.2.2.2 = 9) {r : Nat} (hr : r < R) (hg : gM_gone m r = 0) : StO C R F (N + 30) (X1_putIn w (nI r)) (X9_puts m (nI r)) := by
  have hC := h.C12
  have hR := h.R12
  have hr12 : r < 12 := by omega
  have stay : StO C R F (N + 30) (some (1, w)) (some m) := ⟨1, w, m, rfl, rfl, h.mono (by omega), good_yes hcert⟩
  have ht := rf_terms h hr
  have hct := cntN_le (isT m r) C
  obtain ⟨f1, f2, f3, f4⟩ := nx_spec m (C := C) (r := r) (i := 0) (Nat.zero_le _)
  have n1 : X6_nextTerm (gC_tab w) (nI r) 0 = _ := cl_next h hr hg (i := 0) (Nat.zero_le _)
  have nope : ∀ k : Nat, cntN (isT m r) C = k → k ≠ 2 → X9_puts m (nI r) = some m := fun k hk h2 => by
    have e : ¬ nI k = 2 := by
      rw [show (2 : Int32) = nI 2 from rfl, neq (by omega) (by omega)]; exact h2
    simp only [X9_puts, inR12 hr12, cl12 hr12, if_true, ht, hk, Option.bind_some, e, if_false]
    split <;> rfl
  have isf : ∀ j, tm m r j = 0 → isT m r j = false := fun j hj => by simp [isT, hj]
  have ist : ∀ j, tm m r j ≠ 0 → isT m r j = true := fun j hj => by simp [isT, hj]
  by_cases hk : gM_kind m r = 1
  · by_cases hf : nx m C r 0 < C
    · have hi1 : nx m C r 0 + 1 ≤ C := by omega
      obtain ⟨s1, s2, s3, s4⟩ := nx_spec m (C := C) (r := r) hi1
      have n2 := cl_next h hr hg hi1
      rw [← nI_1] at n2
      have k1 : cntN (isT m r) (nx m C r 0 + 1) = 1 := by
        rw [cntN_hit (ist _ (f4 hf)), cntN_skip (i := 0) (Nat.zero_le _) (fun j _ hj => isf j (f3 j (by omega) hj))]; rfl
      by_cases hs : nx m C r (nx m C r 0 + 1) < C
      · have hi2 : nx m C r (nx m C r 0 + 1) + 1 ≤ C := by omega
        obtain ⟨t1, t2, t3, t4⟩ := nx_spec m (C := C) (r := r) hi2
        have n3 := cl_next h hr hg hi2
        rw [← nI_1] at n3
        have k2 : cntN (isT m r) (nx m C r (nx m C r 0 + 1) + 1) = 2 := by
          rw [cntN_hit (ist _ (s4 hs)), cntN_skip s1 (fun j a1 a2 => isf j (s3 j a1 a2)), k1]
        by_cases hth : nx m C r (nx m C r (nx m C r 0 + 1) + 1) < C
        · have k3 : 3 ≤ cntN (isT m r) C := by
            have := cntN_mono (isT m r) (show nx m C r (nx m C r (nx m C r 0 + 1) + 1) + 1 ≤ C by omega)
            rw [cntN_hit (ist _ (t4 hth)), cntN_skip t1 (fun j a1 a2 => isf j (t3 j a1 a2)), k2] at this
            exact this
          rw [nope _ rfl (by omega)]
          simp only [X1_putIn, n1, Option.bind_some, hf, if_true, nm1 (show nx m C r 0 ≤ 5000 by omega), if_false, inR12 hr12, cl12 hr12, h.kd hr hg, hk, n2, hs, nm1 (show nx m C r (nx m C r 0 + 1) ≤ 5000 by omega), n3, hth, nm1 (show nx m C r (nx m C r (nx m C r 0 + 1) + 1) ≤ 5000 by omega)]
          exact stay
        · have k3 : cntN (isT m r) C = 2 := by
            rw [cntN_skip (show nx m C r (nx m C r 0 + 1) + 1 ≤ C by omega) (fun j a1 a2 => isf j (t3 j a1 (by omega))), k2]
          generalize nx m C r 0 = f at *
          generalize nx m C r (f + 1) = s at *
          have hfs : f < s := by omega
          have two := rf_two h hr hfs hs (fun j hj => f3 j (by omega) hj) (f4 hf) (fun j a1 a2 => s3 j (by omega) a2) (s4 hs) (fun j a1 a2 => t3 j (by omega) (by omega))
          have T2a : T2 m C r f s := ⟨hf, hs, by omega, f4 hf, s4 hs, fun c hc e1 e2 => by
            by_cases a1 : c < f
            · exact f3 c (by omega) a1
            · by_cases a2 : c < s
              · exact s3 c (by omega) a2
              · exact t3 c (by omega) (by omega)⟩
          have T2b : T2 m C r s f := ⟨hs, hf, by omega, s4 hs, f4 hf, fun c hc e1 e2 => T2a.2.2.2.2.2 c hc e2 e1⟩
          have hs12 : s < 12 := by omega
          have nfs : ¬ nI f = nI s := by rw [neq (by omega) (by omega)]; omega
          have e2 : nI 2 = 2 := rfl
          simp only [X1_putIn, n1, Option.bind_some, hf, if_true, nm1 (show f ≤ 5000 by omega), if_false, inR12 hr12, cl12 hr12, h.kd hr hg, hk, n2, hs, nm1 (show s ≤ 5000 by omega), n3, hth, cl_unit h hr hg hs, X9_puts, ht, k3, e2, two, ix144, inR144 hr12 hs12, cl144 hr12 hs12, rf_unit, tm_coef (s4 hs), X1_putIn_J81, nfs]
          by_cases hu : (if tm m r s = 1 then (1 : Int32) else if tm m r s = -1 then 1 else 0) = 0
          · rw [if_pos hu, if_pos hu]
            exact s_j79 h hN hcert hru hr hg T2a (add_sub1 _ _)
          · rw [if_neg hu, if_neg hu]
            exact s_j79 h hN hcert hru hr hg T2b (add_sub2 _ _)
      · have k3 : cntN (isT m r) C = 1 := by
          rw [cntN_skip hi1 (fun j a1 a2 => isf j (s3 j a1 (by omega))), k1]
        rw [nope _ k3 (by omega)]
        simp only [X1_putIn, n1, Option.bind_some, hf, if_true, nm1 (show nx m C r 0 ≤ 5000 by omega), if_false, inR12 hr12, cl12 hr12, h.kd hr hg, hk, n2, hs]
        exact stay
    · have k3 : cntN (isT m r) C = 0 := cntN_zero.mpr (fun i hi => isf i (f3 i (by omega) (by omega)))
      rw [nope _ k3 (by omega)]
      simp only [X1_putIn, n1, Option.bind_some, hf, if_false, if_true]
      exact stay
  · have e1 : X9_puts m (nI r) = some m := by simp only [X9_puts, inR12 hr12, cl12 hr12, if_true, hk, if_false]
    rw [e1]
    simp only [X1_putIn, n1, Option.bind_some]
    by_cases hf : nx m C r 0 < C
    · simp only [hf, if_true, nm1 (show nx m C r 0 ≤ 5000 by omega), if_false, inR12 hr12, cl12 hr12, h.kd hr hg, hk]
      exact stay
    · simp only [hf, if_false, if_true]
      exact stay
end SE
