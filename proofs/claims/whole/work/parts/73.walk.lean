/-! the walk over all points -/
def WB (w : CW) (b : Bool) (wn rs : Nat → Int64) (s : Int64) (hb : Int32) (lv : Int64) (bn : Nat → Int64) : CW := (w.1, w.2.1, w.2.2.1, (gC_order w, wn, rs, s, b, gC_hasSmall w, gC_putNumbers w, gC_putColumns w, gC_turned w, gC_hasTurned w, bn, lv, hb))
def MB (m : MW) (P : Nat → Int32) (hb : Int32) (be : Nat → Int32) (lv : Int64) : MW := sM_bestValue (sM_best (sM_hasBest (sM_point m P) hb) be) lv
section SP
variable (w : CW) (b : Bool) (wn rs : Nat → Int64) (s : Int64) (hb : Int32) (lv : Int64) (bn : Nat → Int64)
theorem wb_tab : gC_wtab (WB w b wn rs s hb lv bn) = b := rfl
theorem wb_tb (b' : Bool) : gC_tb b' (WB w b wn rs s hb lv bn) = gC_tb b' w := by cases b' <;> rfl
theorem wb_wn : gC_wnumbers (WB w b wn rs s hb lv bn) = wn := rfl
theorem wb_rs : gC_rowSums (WB w b wn rs s hb lv bn) = rs := rfl
theorem wb_s : gC_sum (WB w b wn rs s hb lv bn) = s := rfl
theorem wb_hb : gC_hasBest (WB w b wn rs s hb lv bn) = hb := rfl
theorem wb_lv : gC_leastValue (WB w b wn rs s hb lv bn) = lv := rfl
theorem wb_bn : gC_bestNumbers (WB w b wn rs s hb lv bn) = bn := rfl
theorem wb_swn (wn' : Nat → Int64) : sC_wnumbers (WB w b wn rs s hb lv bn) wn' = WB w b wn' rs s hb lv bn := rfl
theorem wb_srs (rs' : Nat → Int64) : sC_rowSums (WB w b wn rs s hb lv bn) rs' = WB w b wn rs' s hb lv bn := rfl
theorem wb_ss (s' : Int64) : sC_sum (WB w b wn rs s hb lv bn) s' = WB w b wn rs s' hb lv bn := rfl
theorem wb_shb (hb' : Int32) : sC_hasBest (WB w b wn rs s hb lv bn) hb' = WB w b wn rs s hb' lv bn := rfl
theorem wb_slv (lv' : Int64) : sC_leastValue (WB w b wn rs s hb lv bn) lv' = WB w b wn rs s hb lv' bn := rfl
theorem wb_sbn (bn' : Nat → Int64) : sC_bestNumbers (WB w b wn rs s hb lv bn) bn' = WB w b wn rs s hb lv bn' := rfl
end SP
section SQ
variable (m : MW) (P : Nat → Int32) (hb : Int32) (be : Nat → Int32) (lv : Int64)
theorem mb_P : gM_point (MB m P hb be lv) = P := rfl
theorem mb_hb : gM_hasBest (MB m P hb be lv) = hb := rfl
theorem mb_be : gM_best (MB m P hb be lv) = be := rfl
theorem mb_lv : gM_bestValue (MB m P hb be lv) = lv := rfl
theorem mb_sP (P' : Nat → Int32) : sM_point (MB m P hb be lv) P' = MB m P' hb be lv := rfl
theorem mb_shb (hb' : Int32) : sM_hasBest (MB m P hb be lv) hb' = MB m P hb' be lv := rfl
theorem mb_sbe (be' : Nat → Int32) : sM_best (MB m P hb be lv) be' = MB m P hb be' lv := rfl
theorem mb_slv (lv' : Int64) : sM_bestValue (MB m P hb be lv) lv' = MB m P hb be lv' := rfl
theorem mb_C : gM_columns (MB m P hb be lv) = gM_columns m := rfl
theorem mb_R : gM_rows (MB m P hb be lv) = gM_rows m := rfl
theorem mb_los : gM_lows (MB m P hb be lv) = gM_lows m := rfl
theorem mb_his : gM_highs (MB m P hb be lv) = gM_highs m := rfl
theorem mb_cos : gM_costs (MB m P hb be lv) = gM_costs m := rfl
theorem mb_lo : gM_low (MB m P hb be lv) = gM_low m := rfl
theorem mb_hi : gM_high (MB m P hb be lv) = gM_high m := rfl
theorem mb_st : gM_state (MB m P hb be lv) = gM_state m := rfl
theorem mb_co : gM_cost (MB m P hb be lv) = gM_cost m := rfl
theorem mb_of : gM_offset (MB m P hb be lv) = gM_offset m := rfl
theorem mb_ce : gM_certificate (MB m P hb be lv) = gM_certificate m := rfl
end SQ
def stB (b : Bool) (m : MW) (c : Nat) : Int32 := if b = true then gM_state m c else 0
def loB (b : Bool) (m : MW) (c : Nat) : Int32 := if b = true then gM_low m c else gM_lows m c
def hiB (b : Bool) (m : MW) (c : Nat) : Int32 := if b = true then gM_high m c else gM_highs m c
def coB (b : Bool) (m : MW) (c : Nat) : Int64 := if b = true then gM_cost m c else (gM_costs m c).toInt64
def bI (b : Bool) : Int32 := if b = true then 1 else 0
/-- the class's table that is walked, by the reference's -/
def TB (b : Bool) (C R : Nat) (w : CW) (m : MW) : Prop := (gT_columns (gC_tb b w) = nI C ∧ gT_rows (gC_tb b w) = nI R ∧ gM_columns m = nI C ∧ gM_rows m = nI R ∧ C ≤ 12 ∧ R ≤ 12) ∧ ∀ c, c < C → (gT_state (gC_tb b w) c = stB b m c ∧ gT_low (gC_tb b w) c = (loB b m c).toInt64 ∧ gT_high (gC_tb b w) c = (hiB b m c).toInt64 ∧ gT_cost (gC_tb b w) c = coB b m c) ∧ -10000 ≤ (loB b m c).toInt ∧ (loB b m c).toInt ≤ (hiB b m c).toInt ∧ (hiB b m c).toInt ≤ 10000
/-- sums kept along the walk -/
def KI (b : Bool) (C R : Nat) (w : CW) (wn rs : Nat → Int64) (s : Int64) : Prop := s = sumN (fun c => gT_cost (gC_tb b w) c * wn c) C ∧ ∀ r, r < R → rs r = sumN (fun c => gT_a (gC_tb b w) r c * wn c) C
/-- the same point on both sides -/
def PR (b : Bool) (C : Nat) (m : MW) (wn : Nat → Int64) (P : Nat → Int32) : Prop := ∀ c, c < C → wn c = (P c).toInt64 ∧ (stB b m c = 0 → (loB b m c).toInt ≤ (P c).toInt ∧ (P c).toInt ≤ (hiB b m c).toInt) ∧ (¬ stB b m c = 0 → P c = 0)
theorem bump (k wn : Nat → Int64) (c : Nat) (y : Int64) : ∀ n, sumN (fun j => k j * vp_updL wn c (wn c + y) j) n = sumN (fun j => k j * wn j) n + (if c < n then y * k c else 0)
  | 0 => by simp [sumN]
  | n + 1 => by
    simp only [sumN]
    rw [bump k wn c y n]
    by_cases e : c = n
    · subst e
      rw [if_neg (Nat.lt_irrefl c), if_pos (Nat.lt_succ_self c)]
      unfold vp_updL
      rw [if_pos rfl, Int64.mul_add, Int64.add_zero, Int64.mul_comm (k c) y, Int64.add_assoc]
    · have e2 : vp_updL wn c (wn c + y) n = wn n := by unfold vp_updL; rw [if_neg (fun z => e z.symm)]
      rw [e2]
      by_cases e3 : c < n
      · rw [if_pos e3, if_pos (by omega), Int64.add_assoc, Int64.add_comm (y * k c), ← Int64.add_assoc]
      · rw [if_neg e3, if_neg (by omega), Int64.add_zero, Int64.add_zero]
theorem KI_step {b : Bool} {C R : Nat} {w : CW} {wn rs rs' : Nat → Int64} {s : Int64} (h : KI b C R w wn rs s) {c : Nat} (hc : c < C) (y : Int64) (hrs : ∀ r, r < R → rs' r = rs r + y * gT_a (gC_tb b w) r c) : KI b C R w (vp_updL wn c (wn c + y)) rs' (s + y * gT_cost (gC_tb b w) c) := by
  refine ⟨?_, fun r hr => ?_⟩
  · rw [bump, if_pos hc, h.1]
  · rw [bump, if_pos hc, hrs r hr, h.2 r hr]
section SR
variable {C R : Nat} {w : CW} {m : MW} {b : Bool}
theorem cl_step (hR : gT_rows (gC_tb b w) = nI R) (hR12 : R ≤ 12) {c : Nat} (hc12 : c < 12) (wn rs : Nat → Int64) (s : Int64) (hb : Int32) (lv : Int64) (bn : Nat → Int64) (y : Int64) : ∃ rs', X7_step (WB w b wn rs s hb lv bn) b (nI c) y = some (WB w b (vp_updL wn c (wn c + y)) rs' (s + y * gT_cost (gC_tb b w) c) hb lv bn) ∧ ∀ r, r < R → rs' r = rs r + y * gT_a (gC_tb b w) r c := by
  obtain ⟨e, q1, rs', q2, q3⟩ := iter_run (step := X7_step_L33 b (nI c) y) (fun d z => ∃ i rs', i + d = R ∧ z = (WB w b (vp_updL wn c (wn c + y)) rs' (s + y * gT_cost (gC_tb b w) c) hb lv bn, nI i) ∧ (∀ r, r < i → rs' r = rs r + y * gT_a (gC_tb b w) r c) ∧ ∀ r, i ≤ r → rs' r = rs r) (fun e => ∃ rs', e = WB w b (vp_updL wn c (wn c + y)) rs' (s + y * gT_cost (gC_tb b w) c) hb lv bn ∧ ∀ r, r < R → rs' r = rs r + y * gT_a (gC_tb b w) r c) (fun d z hz => by
    obtain ⟨i, rs', hid, rfl, h1, h2⟩ := hz
    by_cases hi : i < R
    · have hi12 : i < 12 := by omega
      refine Or.inl ⟨(WB w b (vp_updL wn c (wn c + y)) (vp_updL rs' i (rs i + y * gT_a (gC_tb b w) i c)) (s + y * gT_cost (gC_tb b w) c) hb lv bn, nI (i + 1)), by simp only [X7_step_L33, wb_tab, wb_tb, wb_wn, wb_rs, wb_s, wb_hb, wb_lv, wb_bn, wb_swn, wb_srs, wb_ss, wb_shb, wb_slv, wb_sbn, if_true, hR, nC_le hR12 hi, if_false, inR12 hi12, cl12 hi12, inR12 hc12, cl12 hc12, bnd, h2 i (Nat.le_refl _), nI_1], d - 1, by omega, i + 1, _, by omega, rfl, fun r hr => ?_, fun r hr => ?_⟩
      · unfold vp_updL
        by_cases e : r = i
        · subst e; rw [if_pos rfl]
        · rw [if_neg e]; exact h1 r (by omega)
      · unfold vp_updL; rw [if_neg (by omega)]; exact h2 r (by omega)
    · have : i = R := by omega
      subst this
      exact Or.inr ⟨_, by simp only [X7_step_L33, wb_tab, wb_tb, wb_wn, wb_rs, wb_s, wb_hb, wb_lv, wb_bn, wb_swn, wb_srs, wb_ss, wb_shb, wb_slv, wb_sbn, if_true, hR, Int32.le_refl], rs', rfl, h1⟩) R 5000 (WB w b (vp_updL wn c (wn c + y)) rs (s + y * gT_cost (gC_tb b w) c) hb lv bn, 0) (by omega) ⟨0, rs, by omega, rfl, fun r hr => by omega, fun _ _ => rfl⟩
  subst q2
  exact ⟨rs', by simp only [X7_step, inR12 hc12, cl12 hc12, if_true, bnd, wb_tab, wb_tb, wb_wn, wb_rs, wb_s, wb_hb, wb_lv, wb_bn, wb_swn, wb_srs, wb_ss, wb_shb, wb_slv, wb_sbn, q1, Option.bind_some], q3⟩
theorem cl_zero (wn rs : Nat → Int64) (s : Int64) (hb : Int32) (lv : Int64) (bn : Nat → Int64) : ∃ wn' rs', iter (X7_beginAt_L12) 5000 ((WB w b wn rs s hb lv bn), 0) = some (WB w b wn' rs' s hb lv bn) ∧ ∀ i, i < 12 → wn' i = 0 ∧ rs' i = 0 := by
  obtain ⟨e, q1, wn', rs', q2, q3⟩ := iter_run (step := X7_beginAt_L12) (fun d z => ∃ i wn' rs', i + d = 12 ∧ z = (WB w b wn' rs' s hb lv bn, nI i) ∧ ∀ j, j < i → wn' j = 0 ∧ rs' j = 0) (fun e => ∃ wn' rs', e = WB w b wn' rs' s hb lv bn ∧ ∀ j, j < 12 → wn' j = 0 ∧ rs' j = 0) (fun d z hz => by
    obtain ⟨i, wn', rs', hid, rfl, h1⟩ := hz
    by_cases hi : i < 12
    · refine Or.inl ⟨(WB w b (vp_updL wn' i 0) (vp_updL rs' i 0) s hb lv bn, nI (i + 1)), by simp only [X7_beginAt_L12, show ¬ (12 : Int32) ≤ nI i from nC_le (C := 12) (by omega) hi, if_false, inR12 hi, cl12 hi, if_true, bnd, wb_tab, wb_tb, wb_wn, wb_rs, wb_s, wb_hb, wb_lv, wb_bn, wb_swn, wb_srs, wb_ss, wb_shb, wb_slv, wb_sbn, nI_1], d - 1, by omega, i + 1, _, _, by omega, rfl, fun j hj => ?_⟩
      unfold vp_updL
      by_cases e : j = i
      · simp only [e, if_true]; exact ⟨trivial, trivial⟩
      · simp only [e, if_false]; exact h1 j (by omega)
    · have : i = 12 := by omega
      subst this
      exact Or.inr ⟨_, by simp only [X7_beginAt_L12, show (12 : Int32) ≤ nI 12 from by decide, if_true], wn', rs', rfl, h1⟩) 12 5000 ((WB w b wn rs s hb lv bn), 0) (by omega) ⟨0, wn, rs, by omega, rfl, fun j hj => by omega⟩
  subst q2
  exact ⟨wn', rs', q1, q3⟩
theorem cl_beginAt (h : TB b C R w m) : ∃ wn rs s, X7_beginAt w b = some (WB w b wn rs s (gC_hasBest w) (gC_leastValue w) (gC_bestNumbers w)) ∧ KI b C R w wn rs s ∧ ∀ c, c < C → wn c = if stB b m c = 0 then (loB b m c).toInt64 else 0 := by
  obtain ⟨⟨d1, d2, d3, d4, d5, d6⟩, hc⟩ := h
  obtain ⟨wn0, rs0, z1, z2⟩ := cl_zero (w := w) (b := b) (gC_wnumbers w) (gC_rowSums w) 0 (gC_hasBest w) (gC_leastValue w) (gC_bestNumbers w)
  have ki0 : KI b C R w wn0 rs0 0 := by
    have zz : ∀ k : Nat → Int64, ∀ n, n ≤ 12 → sumN (fun c => k c * wn0 c) n = 0 := fun k n => by
      induction n with
      | zero => intro _; rfl
      | succ n ih => intro hn; simp only [sumN]; rw [ih (by omega), (z2 n (by omega)).1, Int64.mul_zero] <;> rfl
    exact ⟨(zz _ C d5).symm, fun r hr => by rw [(z2 r (by omega)).2, zz _ C d5]⟩
  obtain ⟨e, q1, wn, rs, s, q2, q3, q4⟩ := iter_run (step := X7_beginAt_L40 b) (fun d z => ∃ i wn rs s, i + d = C ∧ z = (WB w b wn rs s (gC_hasBest w) (gC_leastValue w) (gC_bestNumbers w), nI i) ∧ KI b C R w wn rs s ∧ (∀ c, c < i → wn c = if stB b m c = 0 then (loB b m c).toInt64 else 0) ∧ ∀ c, i ≤ c → c < 12 → wn c = 0) (fun e => ∃ wn rs s, e = WB w b wn rs s (gC_hasBest w) (gC_leastValue w) (gC_bestNumbers w) ∧ KI b C R w wn rs s ∧ ∀ c, c < C → wn c = if stB b m c = 0 then (loB b m c).toInt64 else 0) (fun d z hz => by
    obtain ⟨i, wn, rs, s, hid, rfl, h1, h2, h3⟩ := hz
    by_cases hi : i < C
    · have hi12 : i < 12 := by omega
      obtain ⟨⟨c1, c2, c3, c4⟩, -⟩ := hc i hi
      by_cases hst : stB b m i = 0
      · obtain ⟨rs', r1, r2⟩ := cl_step d2 d6 hi12 wn rs s (gC_hasBest w) (gC_leastValue w) (gC_bestNumbers w) ((loB b m i).toInt64)
        refine Or.inl ⟨_, by simp only [X7_beginAt_L40, wb_tab, wb_tb, wb_wn, wb_rs, wb_s, wb_hb, wb_lv, wb_bn, wb_swn, wb_srs, wb_ss, wb_shb, wb_slv, wb_sbn, if_true, d1, nC_le d5 hi, if_false, X6_isThere, inR12 hi12, cl12 hi12, c1, hst, Option.bind_some, i10, c2, r1, X7_beginAt_J76, nI_1], d - 1, by omega, i + 1, _, _, _, by omega, rfl, KI_step h1 hi _ r2, fun c hc' => ?_, fun c h4 h5 => ?_⟩
        · unfold vp_updL
          by_cases e : c = i
          · subst e
            rw [if_pos rfl, if_pos hst, h3 c (Nat.le_refl _) hi12, Int64.zero_add]
          · rw [if_neg e]; exact h2 c (by omega)
        · unfold vp_updL; rw [if_neg (by omega)]; exact h3 c (by omega) h5
      · refine Or.inl ⟨_, by simp only [X7_beginAt_L40, wb_tab, wb_tb, wb_wn, wb_rs, wb_s, wb_hb, wb_lv, wb_bn, wb_swn, wb_srs, wb_ss, wb_shb, wb_slv, wb_sbn, if_true, d1, nC_le d5 hi, if_false, X6_isThere, inR12 hi12, cl12 hi12, c1, hst, Option.bind_some, X7_beginAt_J76, nI_1] <;> rfl, d - 1, by omega, i + 1, wn, rs, s, by omega, rfl, h1, fun c hc' => ?_, fun c h4 h5 => h3 c (by omega) h5⟩
        by_cases e : c = i
        · subst e; rw [if_neg hst]; exact h3 c (Nat.le_refl _) hi12
        · exact h2 c (by omega)
    · have : i = C := by omega
      subst this
      exact Or.inr ⟨_, by simp only [X7_beginAt_L40, wb_tab, wb_tb, wb_wn, wb_rs, wb_s, wb_hb, wb_lv, wb_bn, wb_swn, wb_srs, wb_ss, wb_shb, wb_slv, wb_sbn, if_true, d1, Int32.le_refl] <;> rfl, wn, rs, s, rfl, h1, h2⟩) C 5000 (WB w b wn0 rs0 0 (gC_hasBest w) (gC_leastValue w) (gC_bestNumbers w), 0) (by omega) ⟨0, wn0, rs0, 0, by omega, rfl, ki0, fun c hc => by omega, fun c _ h5 => (z2 c h5).1⟩
  subst q2
  have z1' : iter (X7_beginAt_L12) 5000 (sC_sum (sC_wtab w b) 0, 0) = _ := z1
  exact ⟨wn, rs, s, by simp only [X7_beginAt, bnd, z1', Option.bind_some, q1], q3, q4⟩
theorem rf_first (h : TB b C R w m) : ∃ P, X9_firstPoint m (bI b) = some (sM_point m P) ∧ ∀ c, c < C → P c = if stB b m c = 0 then loB b m c else 0 := by
  obtain ⟨⟨d1, d2, d3, d4, d5, d6⟩, -⟩ := h
  obtain ⟨e, q1, P, q2, q3⟩ := iter_run (step := X9_firstPoint_L2 (bI b)) (fun d z => ∃ i P, i + d = C ∧ z = (sM_point m P, nI i) ∧ ∀ c, c < i → P c = if stB b m c = 0 then loB b m c else 0) (fun e => ∃ P, e = sM_point m P ∧ ∀ c, c < C → P c = if stB b m c = 0 then loB b m c else 0) (fun d z hz => by
    obtain ⟨i, P, hid, rfl, h1⟩ := hz
    have hw : gM_columns (sM_point m P) = nI C := d3
    by_cases hi : i < C
    · have hi12 : i < 12 := by omega
      refine Or.inl ⟨(sM_point m (upd P i (if stB b m i = 0 then loB b m i else 0)), nI (i + 1)), ?_, d - 1, by omega, i + 1, _, by omega, rfl, fun c hc => ?_⟩
      · have s1 : gM_lows (sM_point m P) = gM_lows m := rfl
        have s2 : gM_low (sM_point m P) = gM_low m := rfl
        have s3 : gM_state (sM_point m P) = gM_state m := rfl
        simp only [X9_firstPoint_L2, hw, nC_le d5 hi, if_false, inR12 hi12, cl12 hi12, if_true, s1, s2, s3, X9_firstPoint_J47, bnd, nI_1]
        cases b
        · simp only [bI, stB, loB, if_false, if_true, Bool.false_eq_true]
        · by_cases e : gM_state m i = 0
          · simp only [bI, stB, loB, if_true, i10, if_false, e]
          · simp only [bI, stB, loB, if_true, i10, if_false, e]
      · unfold upd
        by_cases e : c = i
        · subst e; rw [if_pos rfl]
        · rw [if_neg e]; exact h1 c (by omega)
    · have : i = C := by omega
      subst this
      exact Or.inr ⟨_, by simp only [X9_firstPoint_L2, hw, Int32.le_refl, if_true] <;> rfl, P, rfl, h1⟩) C 5000 (m, 0) (by omega) ⟨0, gM_point m, by omega, rfl, fun c hc => by omega⟩
  subst q2
  exact ⟨P, by simp only [X9_firstPoint, q1, Option.bind_some], q3⟩
theorem PR_first {wn : Nat → Int64} {P : Nat → Int32} (h : TB b C R w m) (h1 : ∀ c, c < C → wn c = if stB b m c = 0 then (loB b m c).toInt64 else 0) (h2 : ∀ c, c < C → P c = if stB b m c = 0 then loB b m c else 0) : PR b C m wn P := fun c hc => by
  obtain ⟨-, l1, l2, l3⟩ := h.2 c hc
  rw [h1 c hc, h2 c hc]
  by_cases e : stB b m c = 0
  · simp only [e, if_true]
    exact ⟨trivial, fun _ => ⟨Int.le_refl _, l2⟩, fun z => absurd trivial z⟩
  · simp only [e, if_false]
    exact ⟨rfl, fun z => absurd z id, fun _ => trivial⟩
theorem rf_next (h : TB b C R w m) {c : Nat} (hc : c < C) (P : Nat → Int32) (hb : Int32) (be : Nat → Int32) (lv : Int64) : X9_nextPoint_L9 (bI b) ((MB m P hb be lv), 1, nI c) = if stB b m c = 0 then (if P c = hiB b m c then some (.inl (MB m (upd P c (loB b m c)) hb be lv, 1, nI c - 1)) else some (.inl (MB m (upd P c (P c + 1)) hb be lv, 0, nI c - 1))) else some (.inl ((MB m P hb be lv), 1, nI c - 1)) := by
  have hc12 : c < 12 := by have := h.1.2.2.2.2.1; omega
  have nneg : ¬ nI c < (0 : Int32) := nI_pos (by omega)
  have am1 : nI c + (-1) = nI c - 1 := (Int32.sub_eq_add_neg (nI c) 1).symm
  simp only [X9_nextPoint_L9, nneg, if_false, i10, inR12 hc12, cl12 hc12, if_true, mb_P, mb_hb, mb_be, mb_lv, mb_sP, mb_shb, mb_sbe, mb_slv, mb_C, mb_R, mb_los, mb_his, mb_cos, mb_lo, mb_hi, mb_st, mb_co, mb_of, mb_ce, X9_nextPoint_J30, X9_nextPoint_J49, X9_nextPoint_J67, X9_nextPoint_J107, X9_nextPoint_J108, bnd, am1]
  cases b
  · simp only [bI, stB, loB, hiB, if_false, if_true, Bool.false_eq_true]
  · simp only [bI, stB, loB, hiB, if_true, i10, if_false]
theorem s_next (h : TB b C R w m) (hb : Int32) (lv : Int64) (bn : Nat → Int64) (be : Nat → Int32) (lv' : Int64) (hb' : Int32) : ∀ (k : Nat), k ≤ C → ∀ (wn rs : Nat → Int64) (s : Int64) (P : Nat → Int32) (f f' : Nat), k < f → k + 1 < f' → KI b C R w wn rs s → PR b C m wn P → ∃ wn' rs' s' P', (iter (X7_goOn_L10 b) f ((WB w b wn rs s hb lv bn), nI k - 1)).bind (fun z10 : (CW × Int32) ⊕ (CW) => (Sum.elim (fun z10_0 : CW × Int32 => ((X7_step z10_0.1 b z10_0.2 1).bind (fun r47 : CW => (some r47)))) (fun z10_r0 : (CW) => (some z10_r0)) z10)) = some (WB w b wn' rs' s' hb lv bn) ∧ iter (X9_nextPoint_L9 (bI b)) f' (MB m P hb' be lv', 1, nI k - 1) = some (MB m P' hb' be lv') ∧ KI b C R w wn' rs' s' ∧ PR b C m wn' P'
  | 0, _, wn, rs, s, P, f, f', hf, hf', hK, hP => ⟨wn, rs, s, P, by
      have ng : nI 0 - 1 < (0 : Int32) := by decide
      rw [iter_end (e := .inr (WB w b wn rs s hb lv bn)) (by simp only [X7_goOn_L10, ng, if_true]) (by omega)]
      rfl, iter_end (by
      have ng : nI 0 - 1 < (0 : Int32) := by decide
      simp only [X9_nextPoint_L9, ng, if_true]) (by omega), hK, hP⟩
  | k + 1, hk, wn, rs, s, P, f, f', hf, hf', hK, hP => by
    obtain ⟨⟨d1, d2, d3, d4, d5, d6⟩, hc⟩ := h
    have h : TB b C R w m := ⟨⟨d1, d2, d3, d4, d5, d6⟩, hc⟩
    obtain ⟨f, rfl⟩ : ∃ g, f = g + 1 := ⟨f - 1, by omega⟩
    obtain ⟨f', rfl⟩ : ∃ g, f' = g + 1 := ⟨f' - 1, by omega⟩
    have hk12 : k < 12 := by omega
    obtain ⟨⟨c1, c2, c3, c4⟩, l1, l2, l3⟩ := hc k (by omega)
    obtain ⟨p1, p2, p3⟩ := hP k (by omega)
    have nneg : ¬ nI k < (0 : Int32) := nI_pos (by omega)
    have am1 : nI k + (-1) = nI k - 1 := (Int32.sub_eq_add_neg (nI k) 1).symm
    have nx := rf_next h (show k < C by omega) P hb' be lv'
    rw [nI_m1]
    by_cases hst : stB b m k = 0
    · rw [if_pos hst] at nx
      obtain ⟨q1, q2⟩ := p2 hst
      have e1 : (P k).toInt64.toInt = (P k).toInt := Int32.toInt_toInt64 _
      have e2 : (hiB b m k).toInt64.toInt = (hiB b m k).toInt := Int32.toInt_toInt64 _
      by_cases hp : P k = hiB b m k
      · rw [if_pos hp] at nx
        have hge : (hiB b m k).toInt64 ≤ wn k := by rw [p1, hp]; exact Int64.le_refl _
        obtain ⟨rs', r1, r2⟩ := cl_step d2 d6 hk12 wn rs s hb lv bn ((loB b m k).toInt64 - (hiB b m k).toInt64)
        have stp : X7_goOn_L10 b ((WB w b wn rs s hb lv bn), nI k) = some (.inl (WB w b (vp_updL wn k (wn k + ((loB b m k).toInt64 - (hiB b m k).toInt64))) rs' (s + ((loB b m k).toInt64 - (hiB b m k).toInt64) * gT_cost (gC_tb b w) k) hb lv bn, nI k - 1)) := by
          simp only [X7_goOn_L10, nneg, if_false, wb_tab, wb_tb, wb_wn, wb_rs, wb_s, wb_hb, wb_lv, wb_bn, wb_swn, wb_srs, wb_ss, wb_shb, wb_slv, wb_sbn, if_true, X6_isThere, inR12 hk12, cl12 hk12, c1, hst, Option.bind_some, i10, c2, c3, hge, r1, X7_goOn_J75, am1]
        have wl : wn k + ((loB b m k).toInt64 - (hiB b m k).toInt64) = (loB b m k).toInt64 := by
          rw [p1, hp, Int64.sub_eq_add_neg, Int64.add_comm, Int64.add_assoc, Int64.add_left_neg, Int64.add_zero]
        obtain ⟨wn', rs2, s', P', y1, y2, y3, y4⟩ := s_next h hb lv bn be lv' hb' k (by omega) _ _ _ (upd P k (loB b m k)) f f' (by omega) (by omega) (KI_step hK (show k < C by omega) _ r2) (fun c hc' => by
          unfold vp_updL upd
          by_cases e : c = k
          · subst e
            simp only [if_true]
            exact ⟨wl, fun _ => ⟨Int.le_refl _, l2⟩, fun z => absurd hst z⟩
          · simp only [e, if_false]
            exact hP c hc')
        exact ⟨wn', rs2, s', P', by rw [iter_in stp]; exact y1, by rw [iter_in nx]; exact y2, y3, y4⟩
      · rw [if_neg hp] at nx
        have hne : (P k).toInt ≠ (hiB b m k).toInt := fun z => hp (Int32.toInt_inj.mp z)
        have hge : ¬ (hiB b m k).toInt64 ≤ wn k := fun z => by
          rw [p1] at z
          have := Int64.le_iff_toInt_le.mp z
          omega
        obtain ⟨rs', r1, r2⟩ := cl_step d2 d6 hk12 wn rs s hb lv bn 1
        have stp : X7_goOn_L10 b ((WB w b wn rs s hb lv bn), nI k) = some (.inr (.inl ((WB w b wn rs s hb lv bn), nI k))) := by
          simp only [X7_goOn_L10, nneg, if_false, wb_tab, wb_tb, wb_wn, wb_rs, wb_s, wb_hb, wb_lv, wb_bn, wb_swn, wb_srs, wb_ss, wb_shb, wb_slv, wb_sbn, if_true, X6_isThere, inR12 hk12, cl12 hk12, c1, hst, Option.bind_some, i10, c3, hge]
        have pI : (P k + 1).toInt = (P k).toInt + 1 := by
          rw [Int32.toInt_add, show (1 : Int32).toInt = 1 from rfl, Int.bmod_eq_of_le (by omega) (by omega)]
        have pl : wn k + 1 = (P k + 1).toInt64 := by
          apply Int64.toInt_inj.mp
          rw [p1, Int32.toInt_toInt64, pI, add_ex (by rw [e1, show (1 : Int64).toInt = 1 from rfl]; omega), e1] <;> rfl
        refine ⟨_, rs', _, upd P k (P k + 1), ?_, ?_, KI_step hK (show k < C by omega) 1 r2, fun c hc' => ?_⟩
        · rw [iter_end stp (by omega)]
          simp only [Option.bind_some, Sum.elim_inl, r1]
        · rw [iter_in nx]
          refine iter_end ?_ (by omega)
          simp only [X9_nextPoint_L9, if_true]
          split <;> rfl
        · unfold vp_updL upd
          by_cases e : c = k
          · subst e
            simp only [if_true]
            exact ⟨pl, fun _ => by rw [pI]; omega, fun z => absurd hst z⟩
          · simp only [e, if_false]
            exact hP c hc'
    · rw [if_neg hst] at nx
      have stp : X7_goOn_L10 b ((WB w b wn rs s hb lv bn), nI k) = some (.inl ((WB w b wn rs s hb lv bn), nI k - 1)) := by
        simp only [X7_goOn_L10, nneg, if_false, wb_tab, wb_tb, wb_wn, wb_rs, wb_s, wb_hb, wb_lv, wb_bn, wb_swn, wb_srs, wb_ss, wb_shb, wb_slv, wb_sbn, if_true, X6_isThere, inR12 hk12, cl12 hk12, c1, hst, Option.bind_some, X7_goOn_J75, am1]
      obtain ⟨wn', rs2, s', P', y1, y2, y3, y4⟩ := s_next h hb lv bn be lv' hb' k (by omega) wn rs s P f f' (by omega) (by omega) hK hP
      exact ⟨wn', rs2, s', P', by rw [iter_in stp]; exact y1, by rw [iter_in nx]; exact y2, y3, y4⟩
theorem s_goOn (h : TB b C R w m) {wn rs : Nat → Int64} {s : Int64} {P : Nat → Int32} (hK : KI b C R w wn rs s) (hP : PR b C m wn P) (hb : Int32) (lv : Int64) (bn : Nat → Int64) (hb' : Int32) (be : Nat → Int32) (lv' : Int64) : ∃ wn' rs' s' P', X7_goOn (WB w b wn rs s hb lv bn) b = some (WB w b wn' rs' s' hb lv bn) ∧ X9_nextPoint (MB m P hb' be lv') (bI b) = some (MB m P' hb' be lv') ∧ KI b C R w wn' rs' s' ∧ PR b C m wn' P' := by
  obtain ⟨wn', rs', s', P', y1, y2, y3, y4⟩ := s_next h hb lv bn be lv' hb' C (Nat.le_refl _) wn rs s P 5000 5000 (by have := h.1.2.2.2.2.1; omega) (by have := h.1.2.2.2.2.1; omega) hK hP
  refine ⟨wn', rs', s', P', ?_, ?_, y3, y4⟩
  · simp only [X7_goOn, wb_tab, wb_tb, wb_wn, wb_rs, wb_s, wb_hb, wb_lv, wb_bn, wb_swn, wb_srs, wb_ss, wb_shb, wb_slv, wb_sbn, if_true, h.1.1]
    exact y1
  · simp only [X9_nextPoint, mb_P, mb_hb, mb_be, mb_lv, mb_sP, mb_shb, mb_sbe, mb_slv, mb_C, mb_R, mb_los, mb_his, mb_cos, mb_lo, mb_hi, mb_st, mb_co, mb_of, mb_ce, h.1.2.2.1, y2, Option.bind_some]
end SR
