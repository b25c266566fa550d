/-! points counted; certified; best -/
def aB (b : Bool) (m : MW) (r c : Nat) : Int64 := if b = true then tm m r c else (gM_coefficients m (12 * r + c)).toInt64
def hB (b : Bool) (m : MW) (r : Nat) (v : Int64) : Bool := if b = true then (!(decide (gM_gone m r = 0)) || (if gM_kind m r = 0 then !(decide (gM_right m r < v)) else decide (v = gM_right m r))) else whold m r v
def ofB (b : Bool) (m : MW) : Int64 := if b = true then gM_offset m else 0
def FN (b : Bool) (m : MW) (c : Nat) : Int64 := if stB b m c = 0 then (hiB b m c - loB b m c).toInt64 + 1 else 1
theorem TB_w {C R : Nat} {w : CW} {m : MW} (h : Wh C R w m) : TB false C R w m := ⟨⟨h.1.1, h.1.2.1, h.1.2.2.1, h.1.2.2.2.1, h.1.2.2.2.2⟩, fun c hc => by
  obtain ⟨⟨u1, u2, u3⟩, u4, u5, u6, -⟩ := h.2.1 c hc
  exact ⟨⟨h.2.2.2.2.2 c, u1, u2, u3⟩, u4, u5, u6⟩⟩
theorem TB_s {C R N : Nat} {F : FR} {w : CW} {m : MW} (h : Rl C R F N w m) : TB true C R w m := ⟨h.1, fun c hc => by
  obtain ⟨⟨c1, c2, c3, c4, c5, c6⟩, c7, c8, c9, c10, c11, c12⟩ := h.2.2.1 c hc
  exact ⟨⟨c1, c2, c3, c4⟩, c9, c10, c11⟩⟩
section SS
variable {C R : Nat} {w : CW} {m : MW} {b : Bool}
theorem FN_b (h : TB b C R w m) {c : Nat} (hc : c < C) : 1 ≤ (FN b m c).toInt ∧ (FN b m c).toInt ≤ 20001 ∧ (stB b m c = 0 → gT_high (gC_tb b w) c - gT_low (gC_tb b w) c + 1 = FN b m c) := by
  obtain ⟨⟨c1, c2, c3, c4⟩, l1, l2, l3⟩ := h.2 c hc
  have e1 : (hiB b m c - loB b m c).toInt = (hiB b m c).toInt - (loB b m c).toInt := by
    rw [Int32.toInt_sub, Int.bmod_eq_of_le (by omega) (by omega)]
  have e2 : ((hiB b m c - loB b m c).toInt64 + 1).toInt = (hiB b m c).toInt - (loB b m c).toInt + 1 := by
    rw [add_ex (by rw [Int32.toInt_toInt64, e1, show (1 : Int64).toInt = 1 from rfl]; omega), Int32.toInt_toInt64, e1]; rfl
  have e3 : gT_high (gC_tb b w) c - gT_low (gC_tb b w) c + 1 = (hiB b m c - loB b m c).toInt64 + 1 := by
    apply Int64.toInt_inj.mp
    have a1 : ((hiB b m c).toInt64 - (loB b m c).toInt64).toInt = (hiB b m c).toInt - (loB b m c).toInt := by
      rw [sub_ex (by rw [Int32.toInt_toInt64, Int32.toInt_toInt64]; omega), Int32.toInt_toInt64, Int32.toInt_toInt64]
    rw [e2, c2, c3, add_ex (by rw [a1, show (1 : Int64).toInt = 1 from rfl]; omega), a1]; rfl
  unfold FN
  by_cases e : stB b m c = 0
  · rw [if_pos e, e2]
    exact ⟨by omega, by omega, fun _ => e3⟩
  · rw [if_neg e]
    exact ⟨by decide, by decide, fun z => absurd z e⟩
theorem s_points (h : TB b C R w m) : (X6_countPoints (gC_tb b w) = some (-1) ∧ X9_points m (bI b) = some 4001) ∨ (∃ n : Nat, n ≤ 4000 ∧ X6_countPoints (gC_tb b w) = some (nI n) ∧ X9_points m (bI b) = some (nI n)) := by
  obtain ⟨d1, d2, d3, d4, d5, d6⟩ := h.1
  have q4 : (4000 : Int64).toInt = 4000 := rfl
  have prod : ∀ (v : Int64) (c : Nat), c < C → 1 ≤ v.toInt → v.toInt ≤ 4001 → (v * FN b m c).toInt = v.toInt * (FN b m c).toInt ∧ v.toInt ≤ v.toInt * (FN b m c).toInt := fun v c hc v1 v2 => by
    obtain ⟨f1, f2, -⟩ := FN_b h hc
    have hb : big 4001 v := ⟨by omega, by omega⟩
    have hf : big 20001 (FN b m c) := ⟨by omega, by omega⟩
    obtain ⟨m1, -, -⟩ := mul_big hb hf (by omega) (by omega) (by omega)
    refine ⟨m1, ?_⟩
    have := Int.mul_le_mul_of_nonneg_left f1 (show 0 ≤ v.toInt by omega)
    omega
  have rst : ∀ (v : Int64) (i : Nat), i < C → X9_points_L5 m (bI b) (v, nI i) = if v * FN b m i ≤ 4000 then some (.inl (v * FN b m i, nI (i + 1))) else some (.inl (4001, nI (i + 1))) := fun v i hi => by
    have hi12 : i < 12 := by omega
    simp only [X9_points_L5, d3, nC_le d5 hi, if_false, inR12 hi12, cl12 hi12, if_true, X9_points_J71, X9_points_J94, nI_1]
    cases b
    · simp only [bI, FN, stB, hiB, loB, if_false, if_true, Bool.false_eq_true]
    · by_cases e : gM_state m i = 0
      · simp only [bI, FN, stB, hiB, loB, if_true, i10, if_false, e]
      · simp only [bI, FN, stB, hiB, loB, if_true, i10, if_false, e]
  have sat : ∀ (d i f : Nat), i + d = C → d < f → iter (X9_points_L5 m (bI b)) f (4001, nI i) = some 4001 := fun d i f hid hf => by
    have e := iter_to (step := X9_points_L5 m (bI b)) d (fun j => ((4001 : Int64), nI (i + j))) 4001 (fun j hj => by
      obtain ⟨p1, p2⟩ := prod 4001 (i + j) (by omega) (by decide) (by decide)
      rw [rst 4001 (i + j) (by omega), if_neg]
      · rfl
      · intro z
        have := Int64.le_iff_toInt_le.mp z
        rw [p1, q4] at this
        have q5 : (4001 : Int64).toInt = 4001 := rfl
        omega) (by
      show X9_points_L5 m (bI b) (4001, nI (i + d)) = _
      rw [hid]; simp only [X9_points_L5, d3, Int32.le_refl, if_true]) hf
    exact e
  obtain ⟨ea, eb, r1, r2, r3⟩ := iter_sim (sa := X6_countPoints_L4 (gC_tb b w)) (sb := X9_points_L5 m (bI b)) (fun d a b' => ∃ i v, i + d = C ∧ a = (v, nI i) ∧ b' = (v, nI i) ∧ 1 ≤ v.toInt ∧ v.toInt ≤ 4000) (fun ea eb => (ea = .inl () ∧ eb = 4001) ∨ (ea = .inr eb ∧ 1 ≤ eb.toInt ∧ eb.toInt ≤ 4000)) (fun d a b' hI => by
    obtain ⟨i, v, hid, rfl, rfl, v1, v2⟩ := hI
    by_cases hi : i < C
    · have hi12 : i < 12 := by omega
      obtain ⟨⟨c1, c2, c3, c4⟩, l1, l2, l3⟩ := h.2 i hi
      obtain ⟨f1, f2, f3⟩ := FN_b h hi
      obtain ⟨p1, p2⟩ := prod v i hi v1 (by omega)
      have cst : X6_countPoints_L4 (gC_tb b w) (v, nI i) = if v * FN b m i ≤ 4000 then some (.inl (v * FN b m i, nI (i + 1))) else some (.inr (.inl ())) := by
        simp only [X6_countPoints_L4, d1, nC_le d5 hi, if_false, X6_isThere, inR12 hi12, cl12 hi12, if_true, c1, X6_countPoints_J38, nI_1]
        by_cases e : stB b m i = 0
        · simp only [e, if_true, Option.bind_some, i10, if_false, f3 e]
        · have e2 : FN b m i = 1 := by unfold FN; rw [if_neg e]
          simp only [e, if_false, Option.bind_some, if_true, e2, Int64.mul_one]
      by_cases hle : v * FN b m i ≤ 4000
      · have := Int64.le_iff_toInt_le.mp hle
        rw [q4] at this
        exact Or.inl ⟨_, _, by rw [cst, if_pos hle], by rw [rst v i hi, if_pos hle], d - 1, by omega, i + 1, _, by omega, rfl, rfl, by omega, by omega⟩
      · refine Or.inr ⟨.inl (), by rw [cst, if_neg hle], fun f hf => ⟨4001, ?_, Or.inl ⟨rfl, rfl⟩⟩⟩
        obtain ⟨f, rfl⟩ : ∃ g, f = g + 1 := ⟨f - 1, by omega⟩
        rw [iter_in (y := (4001, nI (i + 1))) (by rw [rst v i hi, if_neg hle])]
        exact sat (d - 1) (i + 1) f (by omega) (by omega)
    · have e : i = C := by omega
      subst e
      exact Or.inr ⟨.inr v, by simp only [X6_countPoints_L4, d1, Int32.le_refl, if_true], fun f hf => ⟨v, iter_end (by simp only [X9_points_L5, d3, Int32.le_refl, if_true]) (by omega), Or.inr ⟨rfl, v1, v2⟩⟩⟩) C 5000 5000 (1, 0) (1, 0) (by omega) (by omega) ⟨0, 1, by omega, rfl, rfl, by decide, by decide⟩
  rcases r3 with ⟨rfl, rfl⟩ | ⟨rfl, v1, v2⟩
  · exact Or.inl ⟨by simp only [X6_countPoints, r1, Option.bind_some, Sum.elim_inl], by simp only [X9_points, r2, Option.bind_some] <;> rfl⟩
  · have e : eb.toInt32 = nI eb.toInt.toNat := by
      apply Int32.toInt_inj.mp
      rw [nI_toInt (by omega), Int64.toInt_toInt32, Int.bmod_eq_of_le (by omega) (by omega)]
      omega
    exact Or.inr ⟨eb.toInt.toNat, by omega, by simp only [X6_countPoints, r1, Option.bind_some, Sum.elim_inr, e], by simp only [X9_points, r2, Option.bind_some, e]⟩
theorem cl_hB (hW : Wh C R w m) (hS : b = true → ∃ F N, Rl C R F N w m) {r : Nat} (hr : r < R) (v : Int64) : X6_isHolding (gC_tb b w) (nI r) v = some (if hB b m r v = true then 1 else 0) := by
  cases b
  · exact cl_wholds hW hr v
  · obtain ⟨F, N, hR⟩ := hS rfl
    have hr12 : r < 12 := by have := hR.R12; omega
    have tb : gC_tb true w = gC_tab w := rfl
    rw [tb]
    rcases gone01 hR hr with hg | hg
    · rw [cl_hold0 hR hr hg]
      unfold hB
      by_cases k0 : gM_kind m r = 0
      · by_cases hlt : gM_right m r < v
        · simp [hg, k0, hlt]
        · simp [hg, k0, hlt]
      · by_cases he : gM_right m r = v
        · simp [hg, k0, he]
        · have he' : ¬ v = gM_right m r := fun z => he z.symm
          simp [hg, k0, he, he']
    · have hk : gT_kind (gC_tab w) r = -1 := by
        rcases (hR.2.2.2.1 r hr).2.2.2.2 with ⟨e, -⟩ | ⟨-, e⟩
        · rw [hg] at e; exact absurd e (by decide)
        · exact e
      simp [X6_isHolding, X6_isGone, inR12 hr12, cl12 hr12, hk, X6_isHolding_J39, hB, hg]
/-- what a row sums to at the point -/
def rsum (b : Bool) (m : MW) (C r : Nat) (P : Nat → Int32) : Int64 := sumN (fun c => aB b m r c * (P c).toInt64) C
theorem hB_row (hW : Wh C R w m) (hS : b = true → ∃ F N, Rl C R F N w m) {wn rs : Nat → Int64} {s : Int64} {P : Nat → Int32} (hK : KI b C R w wn rs s) (hP : PR b C m wn P) {r : Nat} (hr : r < R) : hB b m r (rs r) = hB b m r (rsum b m C r P) := by
  cases b
  · rw [hK.2 r hr]
    congr 1
    exact sumN_congr (fun c hc => by
      rw [(hP c hc).1]
      show gT_a (gC_whole w) r c * _ = (gM_coefficients m (12 * r + c)).toInt64 * _
      rw [(hW.2.2.2.1 r c hr hc).1])
  · obtain ⟨F, N, hR⟩ := hS rfl
    rcases gone01 hR hr with hg | hg
    · rw [hK.2 r hr]
      congr 1
      exact sumN_congr (fun c hc => by
        rw [(hP c hc).1]
        show gT_a (gC_tab w) r c * _ = tm m r c * _
        rw [hR.a hr hg hc])
    · have : ¬ gM_gone m r = 0 := by rw [hg]; decide
      simp [hB, this]
theorem rf_hB (hW : Wh C R w m) (P : Nat → Int32) (hb : Int32) (be : Nat → Int32) (lv : Int64) {r : Nat} (hr : r < R) : (if bI b = 0 then X9_holds (MB m P hb be lv) (nI r) else X9_holdsSmall (MB m P hb be lv) (nI r)) = some (if hB b m r (rsum b m C r P) = true then 1 else 0) := by
  obtain ⟨d1, d2, d3, d4, d5, d6⟩ := hW.1
  have hr12 : r < 12 := by omega
  cases b
  · have hW2 : Wh C R w (MB m P hb be lv) := hW
    exact rf_holds hW2 hr
  · have e := iter_to (step := X9_holdsSmall_L5 (MB m P hb be lv) (nI r)) C (fun i => (sumN (fun c => aB true m r c * (P c).toInt64) i, nI i)) (rsum true m C r P) (fun i hi => by
      have hi12 : i < 12 := by omega
      have et : tm (MB m P hb be lv) r i = tm m r i := rfl
      have ec : gM_coef (MB m P hb be lv) = gM_coef m := rfl
      simp only [X9_holdsSmall_L5, mb_P, mb_hb, mb_be, mb_lv, mb_sP, mb_shb, mb_sbe, mb_slv, mb_C, mb_R, mb_los, mb_his, mb_cos, mb_lo, mb_hi, mb_st, mb_co, mb_of, mb_ce, d3, nC_le d5 hi, if_false, rf_term0 (MB m P hb be lv) hr12 hi12, et, Option.bind_some, ix144, inR144 hr12 hi12, cl144 hr12 hi12, inR12 hi12, cl12 hi12, if_true, X9_holdsSmall_J50, nI_1, sumN, aB, ec]
      by_cases ht : tm m r i = 0
      · simp only [ht, if_true, Int64.zero_mul]
      · simp only [ht, if_false, i10, tm_coef ht]) (by
      simp only [X9_holdsSmall_L5, mb_P, mb_hb, mb_be, mb_lv, mb_sP, mb_shb, mb_sbe, mb_slv, mb_C, mb_R, mb_los, mb_his, mb_cos, mb_lo, mb_hi, mb_st, mb_co, mb_of, mb_ce, d3, Int32.le_refl, if_true] <;> rfl) (f := 5000) (by omega)
    have e2 : iter (X9_holdsSmall_L5 (MB m P hb be lv) (nI r)) 5000 (0, 0) = some (rsum true m C r P) := e
    have g1 : gM_gone (MB m P hb be lv) = gM_gone m := rfl
    have g2 : gM_kind (MB m P hb be lv) = gM_kind m := rfl
    have g3 : gM_right (MB m P hb be lv) = gM_right m := rfl
    have b1 : ¬ bI true = 0 := by decide
    rw [if_neg b1]
    simp only [X9_holdsSmall, e2, Option.bind_some, inR12 hr12, cl12 hr12, if_true, g1, g2, g3, X9_holdsSmall_J101, hB]
    by_cases hg : gM_gone m r = 0
    · by_cases k0 : gM_kind m r = 0
      · by_cases hlt : gM_right m r < rsum true m C r P
        · simp [hg, k0, hlt]
        · simp [hg, k0, hlt]
      · by_cases he : rsum true m C r P = gM_right m r
        · simp [hg, k0, he]
        · simp [hg, k0, he]
    · simp [hg]
theorem all_bit : ∀ R : Fin 13, ∀ r : Fin 12, r.val < R.val → ((((1 : Int32) <<< (nI R.val &&& 31)) - 1) >>> (nI r.val &&& 31)) &&& 1 = 1 := by decide
theorem cl_holdsAll (hW : Wh C R w m) (hS : b = true → ∃ F N, Rl C R F N w m) (hT : TB b C R w m) {wn rs : Nat → Int64} {s : Int64} {P : Nat → Int32} (hK : KI b C R w wn rs s) (hP : PR b C m wn P) (hb : Int32) (lv : Int64) (bn : Nat → Int64) (a0 : Int32) : X7_holdsAll (WB w b wn rs s hb lv bn) b a0 = some (if allN (fun r => decide (((a0 >>> (nI r &&& 31)) &&& 1) = 0) || hB b m r (rsum b m C r P)) R = true then 1 else 0) := by
  obtain ⟨d1, d2, d3, d4, d5, d6⟩ := hT.1
  have l := all_loop (step := X7_holdsAll_L2 (WB w b wn rs s hb lv bn) b a0) (fun r => decide (((a0 >>> (nI r &&& 31)) &&& 1) = 0) || hB b m r (rsum b m C r P)) R d6 (fun i hi => by
    have hi12 : i < 12 := by omega
    simp only [X7_holdsAll_L2, wb_tab, wb_tb, wb_wn, wb_rs, wb_s, wb_hb, wb_lv, wb_bn, wb_swn, wb_srs, wb_ss, wb_shb, wb_slv, wb_sbn, if_true, d2, nC_le d6 hi, if_false, inR12 hi12, cl12 hi12, cl_hB hW hS hi, hB_row hW hS hK hP hi, Option.bind_some, X7_holdsAll_J40, nI_1]
    by_cases q1 : ((a0 >>> (nI i &&& 31)) &&& 1) = 0
    · simp [q1]
    · by_cases q2 : hB b m i (rsum b m C i P) = true
      · simp [q1, q2]
      · simp [q1, q2]) (by
    simp only [X7_holdsAll_L2, wb_tab, wb_tb, wb_wn, wb_rs, wb_s, wb_hb, wb_lv, wb_bn, wb_swn, wb_srs, wb_ss, wb_shb, wb_slv, wb_sbn, if_true, d2, Int32.le_refl])
  simp only [X7_holdsAll, l, Option.bind_some]
  split <;> rfl
theorem allrows (hR : R ≤ 12) (p : Nat → Bool) : allN (fun r => decide (((((1 : Int32) <<< (nI R &&& 31)) - 1) >>> (nI r &&& 31)) &&& 1 = 0) || p r) R = allN p R := allN_congr (fun r hr => by
  have := all_bit ⟨R, by omega⟩ ⟨r, by omega⟩ hr
  show (decide (((((1 : Int32) <<< (nI R &&& 31)) - 1) >>> (nI r &&& 31)) &&& 1 = 0) || p r) = p r
  rw [this]; rfl)
theorem rf_price (hT : TB b C R w m) {wn rs : Nat → Int64} {s : Int64} {P : Nat → Int32} (hK : KI b C R w wn rs s) (hP : PR b C m wn P) (hb : Int32) (be : Nat → Int32) (lv : Int64) : X9_price (MB m P hb be lv) (bI b) = some (ofB b m + s) := by
  obtain ⟨d1, d2, d3, d4, d5, d6⟩ := hT.1
  have e := iter_to (step := X9_price_L16 (MB m P hb be lv) (bI b)) C (fun i => (ofB b m + sumN (fun c => gT_cost (gC_tb b w) c * wn c) i, nI i)) (ofB b m + s) (fun i hi => by
    have hi12 : i < 12 := by omega
    obtain ⟨⟨c1, c2, c3, c4⟩, -⟩ := hT.2 i hi
    obtain ⟨p1, p2, p3⟩ := hP i hi
    simp only [X9_price_L16, mb_P, mb_hb, mb_be, mb_lv, mb_sP, mb_shb, mb_sbe, mb_slv, mb_C, mb_R, mb_los, mb_his, mb_cos, mb_lo, mb_hi, mb_st, mb_co, mb_of, mb_ce, d3, nC_le d5 hi, if_false, inR12 hi12, cl12 hi12, if_true, X9_price_J80, nI_1, sumN, c4, p1]
    cases b
    · simp only [bI, coB, if_false, if_true, Bool.false_eq_true, Int64.add_assoc]
    · by_cases e : gM_state m i = 0
      · simp only [bI, coB, if_true, i10, if_false, e, Int64.add_assoc]
      · have e3 : P i = 0 := p3 e
        simp only [bI, coB, if_true, i10, if_false, e, e3, show (0 : Int32).toInt64 = 0 from rfl, Int64.mul_zero, Int64.add_zero]) (by
    simp only [X9_price_L16, mb_P, mb_hb, mb_be, mb_lv, mb_sP, mb_shb, mb_sbe, mb_slv, mb_C, mb_R, mb_los, mb_his, mb_cos, mb_lo, mb_hi, mb_st, mb_co, mb_of, mb_ce, d3, Int32.le_refl, if_true, hK.1]) (f := 5000) (by omega)
  have e2 : iter (X9_price_L16 (MB m P hb be lv) (bI b)) 5000 (ofB b m, 0) = some (ofB b m + s) := by
    have z : ofB b m + sumN (fun c => gT_cost (gC_tb b w) c * wn c) 0 = ofB b m := Int64.add_zero _
    rw [z] at e
    exact e
  cases b
  · simp only [X9_price, show bI false = 0 from rfl, if_true, X9_price_J12]
    have e3 : iter (X9_price_L16 (MB m P hb be lv) 0) 5000 (0, 0) = _ := e2
    rw [e3]; rfl
  · have b1 : ¬ bI true = 0 := by decide
    simp only [X9_price, b1, if_false, X9_price_J12, mb_P, mb_hb, mb_be, mb_lv, mb_sP, mb_shb, mb_sbe, mb_slv, mb_C, mb_R, mb_los, mb_his, mb_cos, mb_lo, mb_hi, mb_st, mb_co, mb_of, mb_ce]
    have e3 : iter (X9_price_L16 (MB m P hb be lv) (bI true)) 5000 (gM_offset m, 0) = _ := e2
    rw [e3]; rfl
theorem rf_all (hW : Wh C R w m) (P : Nat → Int32) (hb : Int32) (be : Nat → Int32) (lv : Int64) (i : Int32) : iter (X9_best_L78 (bI b) ((MB m P hb be lv), i)) 5000 (1, 0) = some (if allN (fun r => hB b m r (rsum b m C r P)) R = true then 1 else 0) := by
  obtain ⟨d1, d2, d3, d4, d5, d6⟩ := hW.1
  have e := iter_to (step := X9_best_L78 (bI b) ((MB m P hb be lv), i)) R (fun i => ((if allN (fun r => hB b m r (rsum b m C r P)) i = true then (1 : Int32) else 0), nI i)) (if allN (fun r => hB b m r (rsum b m C r P)) R = true then 1 else 0) (fun j hj => by
    have hh := rf_hB (b := b) hW P hb be lv hj
    simp only [X9_best_L78, mb_P, mb_hb, mb_be, mb_lv, mb_sP, mb_shb, mb_sbe, mb_slv, mb_C, mb_R, mb_los, mb_his, mb_cos, mb_lo, mb_hi, mb_st, mb_co, mb_of, mb_ce, d4, nC_le d6 hj, if_false, X9_best_J122, X9_best_J121, X9_best_J117, nI_1, allN_s]
    cases hA : allN (fun r => hB b m r (rsum b m C r P)) j
    · simp
    · cases b
      · rw [if_pos (show bI false = 0 from rfl)] at hh
        simp only [if_true, i10, if_false, show bI false = 0 from rfl, hh, Option.bind_some, Bool.true_and]
        by_cases q : hB false m j (rsum false m C j P) = true
        · simp [q]
        · simp [q]
      · have b1 : ¬ bI true = 0 := by decide
        rw [if_neg b1] at hh
        simp only [if_true, i10, if_false, b1, hh, Option.bind_some, Bool.true_and]
        by_cases q : hB true m j (rsum true m C j P) = true
        · simp [q]
        · simp [q]) (by
    simp only [X9_best_L78, mb_P, mb_hb, mb_be, mb_lv, mb_sP, mb_shb, mb_sbe, mb_slv, mb_C, mb_R, mb_los, mb_his, mb_cos, mb_lo, mb_hi, mb_st, mb_co, mb_of, mb_ce, d4, Int32.le_refl, if_true]) (f := 5000) (by omega)
  exact e
theorem rf_keep (hC : C ≤ 12) (hm : gM_columns m = nI C) (P : Nat → Int32) (hb : Int32) (be : Nat → Int32) (lv : Int64) : ∃ be', iter (X9_best_L173) 5000 ((MB m P hb be lv), 0) = some (MB m P hb be' lv) ∧ ∀ c, c < C → be' c = P c := by
  obtain ⟨e, q1, T, q2, q3⟩ := iter_run (step := X9_best_L173) (fun d s => ∃ i T, i + d = C ∧ s = (MB m P hb T lv, nI i) ∧ ∀ c, c < i → T c = P c) (fun e => ∃ T, e = MB m P hb T lv ∧ ∀ c, c < C → T c = P c) (fun d s hs => by
    obtain ⟨i, T, hid, rfl, h1⟩ := hs
    by_cases hi : i < C
    · have hi12 : i < 12 := by omega
      refine Or.inl ⟨(MB m P hb (upd T i (P i)) lv, nI (i + 1)), by simp only [X9_best_L173, mb_P, mb_hb, mb_be, mb_lv, mb_sP, mb_shb, mb_sbe, mb_slv, mb_C, mb_R, mb_los, mb_his, mb_cos, mb_lo, mb_hi, mb_st, mb_co, mb_of, mb_ce, hm, nC_le hC hi, if_false, inR12 hi12, cl12 hi12, if_true, bnd, nI_1], d - 1, by omega, i + 1, _, by omega, rfl, fun c hc => ?_⟩
      unfold upd
      by_cases e : c = i
      · subst e; rw [if_pos rfl]
      · rw [if_neg e]; exact h1 c (by omega)
    · have : i = C := by omega
      subst this
      exact Or.inr ⟨_, by simp only [X9_best_L173, mb_P, mb_hb, mb_be, mb_lv, mb_sP, mb_shb, mb_sbe, mb_slv, mb_C, mb_R, mb_los, mb_his, mb_cos, mb_lo, mb_hi, mb_st, mb_co, mb_of, mb_ce, hm, Int32.le_refl, if_true], T, rfl, h1⟩) C 5000 ((MB m P hb be lv), 0) (by omega) ⟨0, be, by omega, rfl, fun c hc => by omega⟩
  subst q2
  exact ⟨T, q1, q3⟩
def BS (C : Nat) (hb : Int32) (lv : Int64) (bn : Nat → Int64) (be : Nat → Int32) (lv' : Int64) : Prop := hb = 0 ∨ (hb = 1 ∧ lv = lv' ∧ ∀ c, c < C → bn c = (be c).toInt64)
theorem s_best (hW : Wh C R w m) (hS : b = true → ∃ F N, Rl C R F N w m) (hT : TB b C R w m) {n : Nat} (hn : n ≤ 4000) {wn rs : Nat → Int64} {s : Int64} {P : Nat → Int32} (hK : KI b C R w wn rs s) (hP : PR b C m wn P) (lv : Int64) (bn : Nat → Int64) (be : Nat → Int32) (lv' : Int64) : ∃ wn' rs' s' P' hb lv2 bn' be' lv2', iter (X8_findBest_L11 b (nI n) (ofB b m)) 5000 (WB w b wn rs s 0 lv bn, 0) = some (WB w b wn' rs' s' hb lv2 bn') ∧ iter (X9_best_L67 (bI b) (nI n)) 5000 (MB m P 0 be lv', 0) = some (MB m P' hb be' lv2') ∧ BS C hb lv2 bn' be' lv2' := by
  obtain ⟨d1, d2, d3, d4, d5, d6⟩ := hT.1
  obtain ⟨ea, eb, r1, r2, wn', rs', s', P', hb, lv2, bn', be', lv2', rfl, rfl, r5⟩ := iter_sim (sa := X8_findBest_L11 b (nI n) (ofB b m)) (sb := X9_best_L67 (bI b) (nI n)) (fun d x y => ∃ i wn rs s P hb lv bn be lv', i + d = n ∧ x = (WB w b wn rs s hb lv bn, nI i) ∧ y = (MB m P hb be lv', nI i) ∧ KI b C R w wn rs s ∧ PR b C m wn P ∧ BS C hb lv bn be lv') (fun ea eb => ∃ wn rs s P hb lv bn be lv', ea = WB w b wn rs s hb lv bn ∧ eb = MB m P hb be lv' ∧ BS C hb lv bn be lv') (fun d x y hI => by
    obtain ⟨i, wn, rs, s, P, hb, lv, bn, be, lv', hid, rfl, rfl, hK, hP, hBS⟩ := hI
    by_cases hi : i < n
    · have hin : ¬ nI n ≤ nI i := by rw [nle (by omega) (by omega)]; omega
      have hall := cl_holdsAll hW hS hT hK hP hb lv bn (((1 : Int32) <<< (nI R &&& 31)) - 1)
      rw [allrows d6] at hall
      have hrall := rf_all (b := b) hW P hb be lv' (nI i)
      have hpr := rf_price hT hK hP hb be lv'
      have next : ∀ (hb2 : Int32) (lv2 : Int64) (bn2 : Nat → Int64) (be2 : Nat → Int32) (lv2' : Int64), BS C hb2 lv2 bn2 be2 lv2' → X8_findBest_L11 b (nI n) (ofB b m) (WB w b wn rs s hb lv bn, nI i) = X8_findBest_J88 b (WB w b wn rs s hb2 lv2 bn2) (nI i) → X9_best_L67 (bI b) (nI n) (MB m P hb be lv', nI i) = X9_best_J202 (bI b) (MB m P hb2 be2 lv2') (nI i) → (∃ a' b', X8_findBest_L11 b (nI n) (ofB b m) (WB w b wn rs s hb lv bn, nI i) = some (.inl a') ∧ X9_best_L67 (bI b) (nI n) (MB m P hb be lv', nI i) = some (.inl b') ∧ ∃ d', d' < d ∧ ∃ i wn rs s P hb lv bn be lv', i + d' = n ∧ a' = (WB w b wn rs s hb lv bn, nI i) ∧ b' = (MB m P hb be lv', nI i) ∧ KI b C R w wn rs s ∧ PR b C m wn P ∧ BS C hb lv bn be lv') := fun hb2 lv2 bn2 be2 lv2' hB2 e1 e2 => by
        obtain ⟨wn', rs', s', P', g1, g2, g3, g4⟩ := s_goOn hT hK hP hb2 lv2 bn2 hb2 be2 lv2'
        refine ⟨_, _, by rw [e1]; simp only [X8_findBest_J88, g1, Option.bind_some, nI_1] <;> rfl, by rw [e2]; simp only [X9_best_J202, g2, Option.bind_some, nI_1] <;> rfl, d - 1, by omega, i + 1, wn', rs', s', P', hb2, lv2, bn2, be2, lv2', by omega, rfl, rfl, g3, g4, hB2⟩
      refine Or.inl ?_
      have hrow : X6_allRows (gC_tb b (WB w b wn rs s hb lv bn)) = some (((1 : Int32) <<< (nI R &&& 31)) - 1) := by
        simp only [X6_allRows, wb_tab, wb_tb, wb_wn, wb_rs, wb_s, wb_hb, wb_lv, wb_bn, wb_swn, wb_srs, wb_ss, wb_shb, wb_slv, wb_sbn, d2]
      have hrow' : X6_allRows (gC_tb b w) = some (((1 : Int32) <<< (nI R &&& 31)) - 1) := by
        simp only [X6_allRows, d2]
      by_cases hA : allN (fun r => hB b m r (rsum b m C r P)) R = true
      · rw [if_pos hA] at hall hrall
        obtain ⟨be', k1, k2⟩ := rf_keep d5 d3 P 1 be (ofB b m + s)
        have take : X8_findBest_J45 b (WB w b wn rs s hb lv bn) (nI i) (ofB b m + s) = X8_findBest_J88 b (WB w b wn rs s 1 (ofB b m + s) (va_cpy wn bn 0 0 12)) (nI i) := by
          simp only [X8_findBest_J45, hrow', Option.bind_some, hall, i10, if_false, bnd, wb_tab, wb_tb, wb_wn, wb_rs, wb_s, wb_hb, wb_lv, wb_bn, wb_swn, wb_srs, wb_ss, wb_shb, wb_slv, wb_sbn]
        have takeM : X9_best_J159 (bI b) (MB m P hb be lv') (nI i) (ofB b m + s) = X9_best_J202 (bI b) (MB m P 1 be' (ofB b m + s)) (nI i) := by
          simp only [X9_best_J159, bnd, mb_P, mb_hb, mb_be, mb_lv, mb_sP, mb_shb, mb_sbe, mb_slv, mb_C, mb_R, mb_los, mb_his, mb_cos, mb_lo, mb_hi, mb_st, mb_co, mb_of, mb_ce, k1, Option.bind_some]
        have bs1 : BS C 1 (ofB b m + s) (va_cpy wn bn 0 0 12) be' (ofB b m + s) := Or.inr ⟨rfl, rfl, fun c hc => by rw [cpy12 _ _ (by omega), k2 c hc]; exact (hP c hc).1⟩
        rcases hBS with rfl | ⟨e, e2, e3⟩
        · refine next 1 _ _ _ _ bs1 ?_ ?_
          · simp only [X8_findBest_L11, hin, if_false, wb_tab, wb_tb, wb_wn, wb_rs, wb_s, wb_hb, wb_lv, wb_bn, wb_swn, wb_srs, wb_ss, wb_shb, wb_slv, wb_sbn, if_true]
            exact take
          · simp only [X9_best_L67, hin, if_false, hrall, Option.bind_some, hpr, i10, mb_P, mb_hb, mb_be, mb_lv, mb_sP, mb_shb, mb_sbe, mb_slv, mb_C, mb_R, mb_los, mb_his, mb_cos, mb_lo, mb_hi, mb_st, mb_co, mb_of, mb_ce, if_true]
            exact takeM
        · have e0 : ¬ hb = 0 := by rw [e]; decide
          by_cases hle : lv ≤ ofB b m + s
          · refine next hb lv bn be lv' (Or.inr ⟨e, e2, e3⟩) ?_ ?_
            · simp only [X8_findBest_L11, hin, if_false, wb_tab, wb_tb, wb_wn, wb_rs, wb_s, wb_hb, wb_lv, wb_bn, wb_swn, wb_srs, wb_ss, wb_shb, wb_slv, wb_sbn, e0, hle, if_true]
            · rw [e2] at hle
              simp only [X9_best_L67, hin, if_false, hrall, Option.bind_some, hpr, i10, mb_P, mb_hb, mb_be, mb_lv, mb_sP, mb_shb, mb_sbe, mb_slv, mb_C, mb_R, mb_los, mb_his, mb_cos, mb_lo, mb_hi, mb_st, mb_co, mb_of, mb_ce, e0, hle, if_true]
          · refine next 1 _ _ _ _ bs1 ?_ ?_
            · simp only [X8_findBest_L11, hin, if_false, wb_tab, wb_tb, wb_wn, wb_rs, wb_s, wb_hb, wb_lv, wb_bn, wb_swn, wb_srs, wb_ss, wb_shb, wb_slv, wb_sbn, e0, hle]
              exact take
            · rw [e2] at hle
              simp only [X9_best_L67, hin, if_false, hrall, Option.bind_some, hpr, i10, mb_P, mb_hb, mb_be, mb_lv, mb_sP, mb_shb, mb_sbe, mb_slv, mb_C, mb_R, mb_los, mb_his, mb_cos, mb_lo, mb_hi, mb_st, mb_co, mb_of, mb_ce, e0, hle]
              exact takeM
      · rw [if_neg hA] at hall hrall
        have skip : X8_findBest_J45 b (WB w b wn rs s hb lv bn) (nI i) (ofB b m + s) = X8_findBest_J88 b (WB w b wn rs s hb lv bn) (nI i) := by
          simp only [X8_findBest_J45, hrow, Option.bind_some, hall, if_true]
        refine next hb lv bn be lv' hBS ?_ ?_
        · simp only [X8_findBest_L11, hin, if_false, wb_tab, wb_tb, wb_wn, wb_rs, wb_s, wb_hb, wb_lv, wb_bn, wb_swn, wb_srs, wb_ss, wb_shb, wb_slv, wb_sbn, skip, ite_self]
        · simp only [X9_best_L67, hin, if_false, hrall, Option.bind_some, hpr, if_true]
    · have e : i = n := by omega
      subst e
      exact Or.inr ⟨_, by simp only [X8_findBest_L11, Int32.le_refl, if_true] <;> rfl, fun f hf => ⟨_, iter_end (by simp only [X9_best_L67, Int32.le_refl, if_true] <;> rfl) (by omega), wn, rs, s, P, hb, lv, bn, be, lv', rfl, rfl, hBS⟩⟩) n 5000 5000 (WB w b wn rs s 0 lv bn, 0) (MB m P 0 be lv', 0) (by omega) (by omega) ⟨0, wn, rs, s, P, 0, lv, bn, be, lv', by omega, rfl, rfl, hK, hP, Or.inl rfl⟩
  exact ⟨wn', rs', s', P', hb, lv2, bn', be', lv2', r1, r2, r5⟩
end SS
