theorem big_0 : big 1000000 0 := by unfold big; decide
theorem big_div {B : Int} {a : Int64} (h : big B a) (hB : B ≤ 4000000000000000000) (g : Int64) : big B (a / g) := by
  obtain ⟨h1, h2⟩ := h
  unfold big
  rw [div_ex (by omega)]
  have : (a.toInt.tdiv g.toInt).natAbs ≤ a.toInt.natAbs := by rw [Int.natAbs_tdiv]; exact Nat.div_le_self _ _
  omega
theorem big_neg {B : Int} {a : Int64} (h : big B a) (hB : B ≤ 4000000000000000000) : big B (-a) := by
  obtain ⟨h1, h2⟩ := h
  unfold big
  rw [neg_ex (by omega)]
  omega
theorem big_fd {B : Int} {a q : Int64} (h : big B a) (hB : B ≤ 4000000000000000000) {G : Nat} (hG : 1 ≤ G) (hG2 : G ≤ 1000000) (hq : J9_floorDiv_f86c9 a (lN G) = some q) : big B q := by
  have hz : lN G ≠ 0 := fun e => by
    have := (lN_eq (by omega) (by omega)).mp (e.trans (show (0 : Int64) = lN 0 from rfl))
    omega
  have e := fd_int (big_mono h hB) hz hq
  rw [lN_toInt (by omega), Int.fdiv_eq_ediv_of_nonneg _ (by omega)] at e
  obtain ⟨h1, h2⟩ := h
  unfold big
  rw [e]
  have g1 : (0 : Int) < (G : Int) := by omega
  by_cases ha : 0 ≤ a.toInt
  · have u1 := Int.ediv_nonneg ha (Int.le_of_lt g1)
    have u2 := Int.ediv_le_self (G : Int) ha
    omega
  · have u1 : a.toInt / (G : Int) < 0 := Int.ediv_neg_of_neg_of_pos (by omega) g1
    have u2 : a.toInt ≤ a.toInt / (G : Int) := by
      rw [Int.le_ediv_iff_mul_le g1]
      have u3 : a.toInt * (G : Int) = a.toInt + a.toInt * ((G : Int) - 1) := by rw [Int.mul_sub, Int.mul_one]; omega
      have u4 : a.toInt * ((G : Int) - 1) ≤ 0 := Int.mul_nonpos_of_nonpos_of_nonneg (by omega) (by omega)
      omega
    omega
theorem neg_one_mul' (x : Int64) : (-1 : Int64) * x = -x := by
  rw [show (-1 : Int64) = -(1 : Int64) from rfl, Int64.neg_mul, Int64.one_mul]
section S7
variable {C R : Nat} {F : FR} {N : Nat} {w : CW} {m : MW}
theorem cl_divrow (hC : C ≤ 12) {r : Nat} (hr12 : r < 12) (hw : gT_columns (gC_tab w) = nI C) {d : Int64} (hd : d ≠ 0) : ∃ A', iter (X4_divide_L10 (nI r) d) 5000 (w, 0) = some (sC_tab w (sT_a (gC_tab w) A')) ∧ RowUp (gT_a (gC_tab w)) A' r C (fun x => x / d) := rowloop (fun x => x / d) r C hC w hw (fun w1 i h1 hi => by
    have hi12 : i < 12 := by omega
    simp only [X4_divide_L10, h1, nC_le hC hi, if_false, inR12 hr12, cl12 hr12, inR12 hi12, cl12 hi12, if_true, hd, bnd, nI_1]) (fun w1 h1 => by
    simp only [X4_divide_L10, h1, Int32.le_refl, if_true])
theorem cl_turnrow (hC : C ≤ 12) {r : Nat} (hr12 : r < 12) (hw : gT_columns (gC_tab w) = nI C) : ∃ A', iter (X4_turnSigns_L2 (nI r)) 5000 (w, 0) = some (sC_tab w (sT_a (gC_tab w) A')) ∧ RowUp (gT_a (gC_tab w)) A' r C (fun x => -x) := rowloop (fun x => -x) r C hC w hw (fun w1 i h1 hi => by
    have hi12 : i < 12 := by omega
    simp only [X4_turnSigns_L2, h1, nC_le hC hi, if_false, inR12 hr12, cl12 hr12, inR12 hi12, cl12 hi12, if_true, bnd, nI_1]) (fun w1 h1 => by
    simp only [X4_turnSigns_L2, h1, Int32.le_refl, if_true])
/-- the class's row divided and turned -/
def DT (w : CW) (r C : Nat) (A' : Nat → Nat → Int64) (rt : Nat → Int64) (f : Int64 → Int64) (v : Int64) : Prop := (∀ r', r' ≠ r → A' r' = gT_a (gC_tab w) r') ∧ (∀ c, c < C → A' r c = f (gT_a (gC_tab w) r c)) ∧ (∀ r', r' ≠ r → rt r' = gT_right (gC_tab w) r') ∧ rt r = v
theorem cl_div (hC : C ≤ 12) {r : Nat} (hr12 : r < 12) (hw : gT_columns (gC_tab w) = nI C) {d q : Int64} (hd : d ≠ 0) (hq : J9_floorDiv_f86c9 (gT_right (gC_tab w) r) d = some q) : ∃ A' rt, X4_divide w (nI r) d = some (sC_tab w (sT_right (sT_a (gC_tab w) A') rt)) ∧ DT w r C A' rt (fun x => x / d) q := by
  obtain ⟨A', e1, e2, e3⟩ := cl_divrow hC hr12 hw hd
  refine ⟨A', vp_updL (gT_right (gC_tab w)) r q, ?_, e2, fun c hc => by rw [e3 c, if_pos hc], fun r' hr' => by unfold vp_updL; rw [if_neg hr'], by unfold vp_updL; rw [if_pos rfl]⟩
  have hq2 : J9_floorDiv_f86c9 (gT_right (gC_tab (sC_tab w (sT_a (gC_tab w) A'))) r) d = some q := hq
  simp only [X4_divide, hd, if_false, e1, Option.bind_some, inR12 hr12, cl12 hr12, if_true, hq2, bnd]
theorem cl_turn (hC : C ≤ 12) {r : Nat} (hr12 : r < 12) (hw : gT_columns (gC_tab w) = nI C) : ∃ A' rt, X4_turnSigns w (nI r) = some (sC_tab w (sT_right (sT_a (gC_tab w) A') rt)) ∧ DT w r C A' rt (fun x => -x) (-(gT_right (gC_tab w) r)) := by
  obtain ⟨A', e1, e2, e3⟩ := cl_turnrow hC hr12 hw
  refine ⟨A', vp_updL (gT_right (gC_tab w)) r (-(gT_right (gC_tab w) r)), ?_, e2, fun c hc => by rw [e3 c, if_pos hc], fun r' hr' => by unfold vp_updL; rw [if_neg hr'], by unfold vp_updL; rw [if_pos rfl]⟩
  simp only [X4_turnSigns, e1, Option.bind_some, inR12 hr12, cl12 hr12, if_true, bnd]
theorem s_div (h : Rl C R F N w m) (hN : N + 30 < 1000000) (hcert : gM_certificate m = -1) (hru : F.2.2.2.2.2 = 2) {r : Nat} (hr : r < R) (hg : gM_gone m r = 0) {G : Nat} (hG1 : 1 ≤ G) (hG2 : G ≤ 1000000) {t : Int32} (ht : t = 0 ∨ t = 1) : StO C R F (N + 1) (X4_divideShared_J113 (nI r) w (lN G) t) (X9_shared_J145 (nI r) m (lN G) t) := by
  have hC := h.C12
  have hR := h.R12
  have hr12 : r < 12 := by omega
  have hGz : lN G ≠ 0 := fun e => by
    have := (lN_eq (by omega) (by omega)).mp (e.trans (show (0 : Int64) = lN 0 from rfl))
    omega
  obtain ⟨⟨r1, r2⟩, r3, r4, r5, r6⟩ := h.2.2.2.1 r hr
  obtain ⟨q, hq⟩ := fd_some (gM_right m r) hGz
  have hqb := big_fd r5 (by omega) hG1 hG2 hq
  have hl1 : lN G ≤ 1 ↔ G ≤ 1 := lN_le (b := 1) (by omega) (by omega)
  have hl2 : 1 < lN G ↔ 1 < G := lN_lt (a := 1) (by omega) (by omega)
  have hl3 : lN G = 1 ↔ G = 1 := lN_eq (b := 1) (by omega) (by omega)
  have n10 : ¬ ((1 : Int32) = 0) := by decide
  -- the reference, when it acts
  have ref : ¬ (G = 1 ∧ t = 0) → ∃ K', X9_shared_J145 (nI r) m (lN G) t = (X9_act (sM_right (sM_coef m K') (vp_updL (gM_right m) r ((if t = 0 then 1 else -1) * q))) 2 (nI r) (-1) 3 ((if t = 0 then 1 else -1) * q)).bind (fun x => some x) ∧ (∀ j, (∀ c, c < C → j ≠ 12 * r + c) → K' j = gM_coef m j) ∧ ∀ c, c < C → K' (12 * r + c) = if tm m r c = 0 then gM_coef m (12 * r + c) else (if t = 0 then 1 else -1) * (gM_coef m (12 * r + c) / lN G) := fun hn => by
    obtain ⟨K', k1, k2, k3⟩ := coefloop m hC hr12 h.1.2.2.1 hGz (if t = 0 then 1 else -1)
    refine ⟨K', ?_, k2, k3⟩
    have j1 : X9_shared_J145 (nI r) m (lN G) t = X9_shared_J171 (nI r) m (lN G) (if t = 0 then 1 else -1) := by
      unfold X9_shared_J145 X9_shared_J159
      by_cases hg1 : lN G = 1
      · rw [if_pos hg1]
        have ht0 : ¬ t = 0 := fun e => hn ⟨hl3.mp hg1, e⟩
        rw [if_neg ht0, if_neg ht0, if_neg ht0]
      · rw [if_neg hg1]
        by_cases ht0 : t = 0
        · rw [if_pos ht0, if_pos ht0]
        · rw [if_neg ht0, if_neg ht0]
    rw [j1]
    have hq2 : X9_down (gM_right (sM_coef m K') r) (lN G) = some q := by rw [down_eq]; exact hq
    have hv : gM_right (sM_right (sM_coef m K') (vp_updL (gM_right (sM_coef m K')) r ((if t = 0 then 1 else -1) * q))) r = (if t = 0 then 1 else -1) * q := by
      show vp_updL (gM_right m) r ((if t = 0 then 1 else -1) * q) r = _
      unfold vp_updL; rw [if_pos rfl]
    simp only [X9_shared_J171, k1, Option.bind_some, inR12 hr12, cl12 hr12, if_true, hq2, bnd, hv]
  -- the class, when it acts
  have cls : ¬ (G = 1 ∧ t = 0) → ∃ A' rt, X4_divideShared_J113 (nI r) w (lN G) t = (X5_noteAnew (sC_tab w (sT_right (sT_a (gC_tab w) A') rt)) (nI r)).bind (fun x => some (1, x)) ∧ DT w r C A' rt (fun x => (if t = 0 then 1 else -1) * (x / lN G)) ((if t = 0 then 1 else -1) * q) := fun hn => by
    have hq1 : J9_floorDiv_f86c9 (gT_right (gC_tab w) r) (lN G) = some q := by rw [r1]; exact hq
    by_cases hg1 : G = 1
    · have ht1 : t = 1 := by
        rcases ht with e | e
        · exact absurd ⟨hg1, e⟩ hn
        · exact e
      subst ht1
      obtain ⟨A', rt, e1, e2, e3, e4, e5⟩ := cl_turn hC hr12 h.1.1
      have qq : q = gT_right (gC_tab w) r := by
        rw [hg1] at hq1
        exact (Option.some.inj ((fd1 _).symm.trans hq1)).symm
      refine ⟨A', rt, ?_, e2, fun c hc => ?_, e4, ?_⟩
      · have g1 : lN G ≤ 1 := hl1.mpr (by omega)
        have g2 : ¬ 1 < lN G := fun z => by have := hl2.mp z; omega
        simp only [X4_divideShared_J113, g1, if_true, X4_divideShared_J127, n10, if_false, e1, Option.bind_some, X4_divideShared_J137, g2, X4_divideShared_J148]
      · rw [e3 c hc]; dsimp only; rw [if_neg n10, hg1, show lN 1 = 1 from rfl, Int64.div_one, neg_one_mul']
      · rw [e5, if_neg n10, neg_one_mul', qq]
    · obtain ⟨A', rt, e1, e2, e3, e4, e5⟩ := cl_div hC hr12 h.1.1 hGz hq1
      have g1 : ¬ lN G ≤ 1 := fun z => by have := hl1.mp z; omega
      have g2 : 1 < lN G := hl2.mpr (by omega)
      rcases ht with e | e
      · subst e
        refine ⟨A', rt, ?_, e2, fun c hc => ?_, e4, ?_⟩
        · simp only [X4_divideShared_J113, g1, if_false, e1, Option.bind_some, X4_divideShared_J127, if_true, X4_divideShared_J137, g2, X4_divideShared_J148]
        · rw [e3 c hc]; dsimp only; rw [if_pos rfl, Int64.one_mul]
        · rw [e5, if_pos rfl, Int64.one_mul]
      · subst e
        have hw2 : gT_columns (gC_tab (sC_tab w (sT_right (sT_a (gC_tab w) A') rt))) = nI C := h.1.1
        obtain ⟨A2, rt2, f1, f2, f3, f4, f5⟩ := cl_turn (w := sC_tab w (sT_right (sT_a (gC_tab w) A') rt)) hC hr12 hw2
        have f3' : ∀ c, c < C → A2 r c = -(A' r c) := f3
        have f5' : rt2 r = -(rt r) := f5
        have f2' : ∀ r', r' ≠ r → A2 r' = A' r' := f2
        have f4' : ∀ r', r' ≠ r → rt2 r' = rt r' := f4
        refine ⟨A2, rt2, ?_, fun r' hr' => (f2' r' hr').trans (e2 r' hr'), fun c hc => ?_, fun r' hr' => (f4' r' hr').trans (e4 r' hr'), ?_⟩
        · simp only [X4_divideShared_J113, g1, if_false, e1, Option.bind_some, X4_divideShared_J127, n10, f1, X4_divideShared_J137, g2, if_true, X4_divideShared_J148]
        · rw [f3' c hc, e3 c hc]; dsimp only; rw [if_neg n10, neg_one_mul']
        · rw [f5', e5, if_neg n10, neg_one_mul']
  by_cases hn : G = 1 ∧ t = 0
  · obtain ⟨hg1, rfl⟩ := hn
    refine ⟨1, w, m, ?_, ?_, h.mono (by omega), good_yes hcert⟩
    · have g1 : lN G ≤ 1 := hl1.mpr (by omega)
      have g2 : ¬ 1 < lN G := fun z => by have := hl2.mp z; omega
      simp only [X4_divideShared_J113, g1, if_true, X4_divideShared_J127, X4_divideShared_J137, g2, if_false]
    · simp only [X9_shared_J145, hl3.mpr hg1, if_true]
  · obtain ⟨K', k1, k2, k3⟩ := ref hn
    obtain ⟨A', rt, e1, e2, e3, e4, e5⟩ := cls hn
    generalize hsg : (if t = 0 then (1 : Int64) else -1) = sg at *
    have hsg2 : sg = 1 ∨ sg = -1 := by
      rw [← hsg]; split
      · exact Or.inl rfl
      · exact Or.inr rfl
    have bsg : ∀ {B : Int} {x : Int64}, B ≤ 4000000000000000000 → big B x → big B (sg * x) := fun hB hx => by
      rcases hsg2 with e | e
      · rw [e, Int64.one_mul]; exact hx
      · rw [e, neg_one_mul']; exact big_neg hx hB
    have zsg : sg * (0 / lN G) = 0 := by rw [Int64.zero_div, Int64.mul_zero]
    obtain ⟨w', a1, a2, a3, a4, a5, k, z1, z2, z3⟩ := s_anew h (by omega) hru hr hg (A' := A') (rt := rt) (rt' := vp_updL (gM_right m) r (sg * q)) (K' := K') (rs := gC_rowRest w) (rs' := gM_rest m) (fun r' _ hne c _ => by rw [e2 r' hne]) (fun r' hr' hne c hc => k2 _ (fun c' hc' => by omega)) (fun c hc => by
      rw [e3 c hc, h.a hr hg hc]
      dsimp only
      by_cases hs : gM_state m c = 0
      · rw [if_pos hs, k3 c hc, ← tm_is hs]
        by_cases h0 : tm m r c = 0
        · rw [if_pos h0, h0, zsg]
          exact ⟨rfl, big_0⟩
        · rw [if_neg h0]
          exact ⟨rfl, bsg (by omega) (big_div (h.ab hr hg hc) (by omega) _)⟩
      · rw [if_neg hs, tm_zero hs, zsg]
        exact ⟨rfl, big_0⟩) (fun r' hr' hne => ⟨(e4 r' hne).trans (h.2.2.2.1 r' hr').1.1, by unfold vp_updL; rw [if_neg hne]⟩) (by unfold vp_updL; rw [if_pos rfl]; exact e5) (by unfold vp_updL; rw [if_pos rfl]; exact bsg (by omega) hqb) (fun r' hr' hne => ⟨(h.2.2.2.1 r' hr').1.2, rfl⟩) r2 r3
    have hv : vp_updL (gM_right m) r (sg * q) r = sg * q := by unfold vp_updL; rw [if_pos rfl]
    rw [hv] at z2
    have z1' : X5_noteAnew (sC_tab w (sT_right (sT_a (gC_tab w) A') rt)) (nI r) = some w' := z1
    have z2' : X9_act (sM_right (sM_coef m K') (vp_updL (gM_right m) r (sg * q))) 2 (nI r) (-1) 3 (sg * q) = _ := z2
    refine ⟨1, w', _, ?_, ?_, z3, good_yes (show gM_certificate m = -1 from hcert)⟩
    · rw [e1, z1']; rfl
    · rw [k1, z2']; rfl
theorem r_shared (h : Rl C R F N w m) (hN : N + 30 < 1000000) (hcert : gM_certificate m = -1) (hru : F.2.2.2.2.2 = 2) {r : Nat} (hr : r < R) (hg : gM_gone m r = 0) : StO C R F (N + 30) (X4_divideShared w (nI r)) (X9_shared m (nI r)) := by
  have hC := h.C12
  have hR := h.R12
  have hr12 : r < 12 := by omega
  have hn : X6_nextTerm (gC_tab w) (nI r) 0 = _ := cl_next h hr hg (i := 0) (Nat.zero_le _)
  obtain ⟨s1, s2, s3, s4⟩ := nx_spec m (C := C) (r := r) (i := 0) (Nat.zero_le _)
  by_cases hk : nx m C r 0 < C
  · have ha := s4 hk
    have hGne : gN (aT m C r) C ≠ 0 := fun e => by
      have := gN_dvd.mp (Nat.dvd_refl (gN (aT m C r) C)) _ hk
      rw [e, Nat.zero_dvd] at this
      unfold aT at this
      rw [if_pos hk] at this
      exact i64z ha (by omega)
    have hG2 := gN_le (aT_le h hr hg) C
    have hGz : lN (gN (aT m C r) C) ≠ 0 := fun e => by
      have := (lN_eq (by omega) (by omega)).mp (e.trans (show (0 : Int64) = lN 0 from rfl))
      omega
    have key : ∀ t : Int32, t = 0 ∨ t = 1 → StO C R F (N + 30) (X4_divideShared_J113 (nI r) w (lN (gN (aT m C r) C)) t) (X9_shared_J145 (nI r) m (lN (gN (aT m C r) C)) t) := fun t ht => (s_div h hN hcert hru hr hg (by omega) hG2 ht).mono (by omega)
    have hrs := rf_shared h hr hg
    rw [if_pos hk] at hrs hn
    generalize hcc : nx m C r 0 = c at *
    generalize hGG : lN (gN (aT m C r) C) = G at *
    have hc12 : c < 12 := by omega
    obtain ⟨⟨r1, r2⟩, r3, r4, r5, r6⟩ := h.2.2.2.1 r hr
    have hkd := h.kd hr hg
    have haa := h.a hr hg hk
    have hcf := tm_coef ha
    obtain ⟨w1, m1, p1, p2, p3, p4, -⟩ := sim_imp h hcert r3
    have n01 : ¬ ((0 : Int32) = 1) := by decide
    have n10 : ¬ ((1 : Int32) = 0) := by decide
    have e1 : X4_divideShared w (nI r) = if gM_kind m r = 1 then (if gM_right m r - gM_right m r / G * G = 0 then (if 0 ≤ tm m r c then X4_divideShared_J113 (nI r) w G 0 else X4_divideShared_J113 (nI r) w G 1) else some (0, w1)) else X4_divideShared_J113 (nI r) w G 0 := by
      simp only [X4_divideShared, hn, Option.bind_some, nm1 (show c ≤ 5000 by omega), if_false, cl_shared h hr hg, hGG, inR12 hr12, cl12 hr12, if_true, hkd, X4_divideShared_J41, n10, hGz, r1, X4_divideShared_J87, X4_divideShared_J112, inR12 hc12, cl12 hc12, haa, r2, p1, isB0]
    have e2 : X9_shared m (nI r) = if gM_kind m r = 1 then (if gM_right m r - gM_right m r / G * G = 0 then (if 0 ≤ tm m r c then X9_shared_J145 (nI r) m G 0 else X9_shared_J145 (nI r) m G 1) else some m1) else X9_shared_J145 (nI r) m G 0 := by
      simp only [X9_shared, hrs, Option.bind_some, nm1 (show c ≤ 5000 by omega), if_false, inR12 hr12, cl12 hr12, if_true, hGz, X9_shared_J113, X9_shared_J144, ix144, inR144 hr12 hc12, cl144 hr12 hc12, hcf, p2]
      by_cases hk1 : gM_kind m r = 1 <;> simp only [hk1, if_true, if_false]
    rw [e1, e2]
    by_cases hk1 : gM_kind m r = 1
    · rw [if_pos hk1, if_pos hk1]
      by_cases hq : gM_right m r - gM_right m r / G * G = 0
      · rw [if_pos hq, if_pos hq]
        by_cases hs : 0 ≤ tm m r c
        · rw [if_pos hs, if_pos hs]; exact key 0 (Or.inl rfl)
        · rw [if_neg hs, if_neg hs]; exact key 1 (Or.inr rfl)
      · rw [if_neg hq, if_neg hq]
        exact ⟨0, w1, m1, rfl, rfl, p3.mono (by omega), p4⟩
    · rw [if_neg hk1, if_neg hk1]; exact key 0 (Or.inl rfl)
  · have hrs := rf_shared h hr hg
    rw [if_neg hk] at hrs hn
    refine ⟨1, w, m, ?_, ?_, h.mono (by omega), good_yes hcert⟩
    · simp only [X4_divideShared, hn, Option.bind_some, if_true]
    · simp only [X9_shared, hrs, Option.bind_some, if_true]
end S7
