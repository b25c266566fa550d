def X5_beginAs_L10  (s10 : CW × Int32) : Option ((CW × Int32) ⊕ ((CW))) := (if 12 ≤ s10.2 then (some (.inr s10.1)) else (if inR s10.2 12 = true then (bnd (sC_rowRest s10.1 (upd (gC_rowRest s10.1) s10.2.toNatClampNeg (1 <<< (s10.2 &&& 31)))) (fun w24 : CW => (if inR s10.2 12 = true then (bnd (sC_lowRest w24 (upd (gC_lowRest w24) s10.2.toNatClampNeg 0)) (fun w31 : CW => (if inR s10.2 12 = true then (bnd (sC_highRest w31 (upd (gC_highRest w31) s10.2.toNatClampNeg 0)) (fun w38 : CW => (some (.inl (w38, (s10.2 + 1)))))) else none))) else none))) else none))
def X5_beginAs (w : CW) : Option (CW) := ((X6_copyFrom w).bind (fun r5 : CW => ((iter (X5_beginAs_L10) 5000 (r5, 0)).bind (fun z10 : (CW) => (bnd (sC_count z10 0) (fun w50 : CW => (bnd (sC_offset w50 0) (fun w55 : CW => (bnd (sC_certificate w55 (-1)) (fun w60 : CW => (bnd (sC_putIns w60 0) (fun w65 : CW => (some w65)))))))))))))
set_option maxRecDepth 100000 in
set_option maxHeartbeats 4000000 in
theorem ct_X5_beginAs (l : Launch) (g : wG) (ad : Nat → Nat) (w : CW)  (rr : CW) (hf : X5_beginAs w = some rr) : MetN l g yX5_beginAs cX5_beginAs 3 none (k2_rm 2 82) [.ref (ad 21), .ref (ad 1)] (ccells g ad w) (ccells g ad rr) none := by
  refine MetN.of2 [(0, .ref (ad 21)), (1, .ref (ad 1))] rfl (by decide +kernel) (Nat.le_of_ble_eq_true rfl) ?_
  intro p e s m args below meth c hG hr
  unfold X5_beginAs at hf
  refine v_aload_n hG 0 rfl rfl dX5_beginAs_0 ?_
  refine c_g_21_0 hG wk_219 dX5_beginAs_1 ?_
  refine v_aload_n hG 1 rfl rfl dX5_beginAs_4 ?_
  obtain ⟨r5, hr5, hf⟩ := bd_some hf
  refine v_callV hG (st := []) 22 6 (ct_X6_copyFrom l g ad w  r5 hr5) iw_X6_copyFrom wk_571 rfl rfl ⟨rfl, rfl, Nat.le_of_ble_eq_true rfl, Nat.le_of_ble_eq_true rfl⟩ ⟨Nat.le_of_ble_eq_true rfl, Nat.le_of_ble_eq_true rfl⟩ rfl rfl (Nat.le_of_ble_eq_true rfl) (ccells_fst _ _ _ _) dX5_beginAs_5 ?_
  refine (show V p l e (k2_rm 2 82) s m args below meth c (inW (ccells g ad w)) (EN below args s g (ccells g ad w) (ccells g ad rr) none) g 3 (ccells g ad r5) 0 0 8 [(0, .ref (ad 21)), (1, .ref (ad 1))] [] from ?_)
  refine v_iconst hG (v := 0) (by decide) dX5_beginAs_8 ?_
  refine v_istore_n hG [(2, _), (0, _), (1, _)] dX5_beginAs_9 rfl (by decide) rfl ?_
  refine v_sub [(0, _), (2, _)] [1, 0] rfl ?_
  obtain ⟨z10, hlz10, hf⟩ := bd_some hf
  refine loop_v (step := X5_beginAs_L10) (fun s10 : CW × Int32 => V p l e (k2_rm 2 82) s m args below meth c (inW (ccells g ad w)) (EN below args s g (ccells g ad w) (ccells g ad rr) none) g 3 (ccells g ad s10.1) 0 0 10 [(0, .ref (ad 21)), (2, .int s10.2)] []) (fun z10_q : (CW) => V p l e (k2_rm 2 82) s m args below meth c (inW (ccells g ad w)) (EN below args s g (ccells g ad w) (ccells g ad rr) none) g 3 (ccells g ad z10_q) 0 0 45 [(0, .ref (ad 21))] []) ?_ 5000 (r5, 0) z10 hlz10 ?_
  · intro s10 rL hf hin hout
    unfold X5_beginAs_L10 at hf
    refine v_iload_n hG 1 rfl rfl dX5_beginAs_10 ?_
    refine v_bipush hG (v := 12) (by decide) dX5_beginAs_11 ?_
    refine v_icmp_ge hG 45 dX5_beginAs_13 rfl hf (fun hf => ?_) (fun hf => ?_)
    · refine v_sub [(0, _)] [0] rfl ?_
      exact hout _ (Option.some.inj hf).symm
    · refine v_aload_n hG 0 rfl rfl dX5_beginAs_16 ?_
      refine c_g_21_1 hG wk_222 dX5_beginAs_17 ?_
      refine v_iload_n hG 1 rfl rfl dX5_beginAs_20 ?_
      refine v_iconst hG (v := 1) (by decide) dX5_beginAs_21 ?_
      refine v_iload_n hG 1 rfl rfl dX5_beginAs_22 ?_
      refine v_ishl hG dX5_beginAs_23 ?_
      refine c_s_42 hG dX5_beginAs_24 hf (fun w24 hf => ?_)
      refine v_aload_n hG 0 rfl rfl dX5_beginAs_25 ?_
      refine c_g_21_2 hG wk_226 dX5_beginAs_26 ?_
      refine v_iload_n hG 1 rfl rfl dX5_beginAs_29 ?_
      refine v_iconst hG (v := 0) (by decide) dX5_beginAs_30 ?_
      refine c_s_43 hG dX5_beginAs_31 hf (fun w31 hf => ?_)
      refine v_aload_n hG 0 rfl rfl dX5_beginAs_32 ?_
      refine c_g_21_3 hG wk_230 dX5_beginAs_33 ?_
      refine v_iload_n hG 1 rfl rfl dX5_beginAs_36 ?_
      refine v_iconst hG (v := 0) (by decide) dX5_beginAs_37 ?_
      refine c_s_44 hG dX5_beginAs_38 hf (fun w38 hf => ?_)
      refine v_iinc hG 1 (v := s10.2 + 1) [(2, _), (0, _)] dX5_beginAs_39 rfl rfl (by decide) rfl ?_
      refine v_goto hG 10 dX5_beginAs_42 rfl ?_
      refine v_sub [(0, _), (2, _)] [1, 0] rfl ?_
      exact hin _ (Option.some.inj hf).symm
  · show V p l e (k2_rm 2 82) s m args below meth c (inW (ccells g ad w)) (EN below args s g (ccells g ad w) (ccells g ad rr) none) g 3 (ccells g ad z10) 0 0 45 [(0, .ref (ad 21))] []
    refine v_aload_n hG 0 rfl rfl dX5_beginAs_45 ?_
    refine c_g_21_4 hG wk_234 dX5_beginAs_46 ?_
    refine v_iconst hG (v := 0) (by decide) dX5_beginAs_49 ?_
    refine c_p_45_1 hG wk_208 dX5_beginAs_50 hf (fun w50 hf => ?_)
    refine v_aload_n hG 0 rfl rfl dX5_beginAs_53 ?_
    refine v_lconst hG (v := 0) (by decide) dX5_beginAs_54 ?_
    refine c_p_21_5 hG wk_237 dX5_beginAs_55 hf (fun w55 hf => ?_)
    refine v_aload_n hG 0 rfl rfl dX5_beginAs_58 ?_
    refine v_iconst hG (v := -1) (by decide) dX5_beginAs_59 ?_
    refine c_p_21_6 hG wk_240 dX5_beginAs_60 hf (fun w60 hf => ?_)
    refine v_aload_n hG 0 rfl rfl dX5_beginAs_63 ?_
    refine v_iconst hG (v := 0) (by decide) dX5_beginAs_64 ?_
    refine c_p_21_11 hG wk_251 dX5_beginAs_65 hf (fun w65 hf => ?_)
    cases hf
    exact v_vret hG hr dX5_beginAs_68
def X5_isImpossible (w : CW) : Option (Int32) := (if (gC_certificate w) = (-1) then (some 0) else (some 1))
set_option maxRecDepth 100000 in
set_option maxHeartbeats 4000000 in
theorem ct_X5_isImpossible (l : Launch) (g : wG) (ad : Nat → Nat) (w : CW)  (rr : Int32) (hf : X5_isImpossible w = some rr) : MetN l g yX5_isImpossible cX5_isImpossible 1 (some .boolean) (k2_rm 0 0) [.ref (ad 21)] (ccells g ad w) (ccells g ad w) (some (.int rr)) := by
  refine MetN.of2 [(0, .ref (ad 21))] rfl (by decide +kernel) (Nat.le_of_ble_eq_true rfl) ?_
  intro p e s m args below meth c hG hr
  unfold X5_isImpossible at hf
  refine v_aload_n hG 0 rfl rfl dX5_isImpossible_0 ?_
  refine c_g_21_6 hG wk_240 dX5_isImpossible_1 ?_
  refine v_iconst hG (v := -1) (by decide) dX5_isImpossible_4 ?_
  refine v_icmp_eq hG 12 dX5_isImpossible_5 rfl hf (fun hf => ?_) (fun hf => ?_)
  · refine v_iconst hG (v := 0) (by decide) dX5_isImpossible_12 ?_
    cases hf
    exact v_zret (x := 0) hG hr rfl dX5_isImpossible_13
  · refine v_iconst hG (v := 1) (by decide) dX5_isImpossible_8 ?_
    refine v_goto hG 13 dX5_isImpossible_9 rfl ?_
    cases hf
    exact v_zret (x := 1) hG hr rfl dX5_isImpossible_13
def X5_endAll (w : CW) (a0 : Int32) : Option (Int32 × CW) := (bnd (sC_certificate w a0) (fun w2 : CW => (some (0, w2))))
set_option maxRecDepth 100000 in
set_option maxHeartbeats 4000000 in
theorem ct_X5_endAll (l : Launch) (g : wG) (ad : Nat → Nat) (w : CW) (a0 : Int32) (rr : Int32 × CW) (hf : X5_endAll w a0 = some rr) : MetN l g yX5_endAll cX5_endAll 2 (some .boolean) (k2_rm 0 0) [.ref (ad 21), .int a0] (ccells g ad w) (ccells g ad rr.2) (some (.int rr.1)) := by
  refine MetN.of2 [(0, .ref (ad 21)), (1, .int a0)] rfl (by decide +kernel) (Nat.le_of_ble_eq_true rfl) ?_
  intro p e s m args below meth c hG hr
  unfold X5_endAll at hf
  refine v_aload_n hG 0 rfl rfl dX5_endAll_0 ?_
  refine v_iload_n hG 1 rfl rfl dX5_endAll_1 ?_
  refine c_p_21_6 hG wk_240 dX5_endAll_2 hf (fun w2 hf => ?_)
  refine v_iconst hG (v := 0) (by decide) dX5_endAll_5 ?_
  cases hf
  exact v_zret (x := 0) hG hr rfl dX5_endAll_6
def X5_leaveOut (w : CW) (a0 : Int32) : Option (CW) := (if inR a0 12 = true then (bnd (sC_tab w (sT_kind (gC_tab w) (upd (gT_kind (gC_tab w)) a0.toNatClampNeg (-1)))) (fun w9 : CW => (if inR a0 12 = true then ((X0_note w9 (gC_rule w9) a0 (-1) 0 ((gT_right (gC_tab w9)) a0.toNatClampNeg)).bind (fun r30 : CW => (some r30))) else none))) else none)
set_option maxRecDepth 100000 in
set_option maxHeartbeats 4000000 in
theorem ct_X5_leaveOut (l : Launch) (g : wG) (ad : Nat → Nat) (w : CW) (a0 : Int32) (rr : CW) (hf : X5_leaveOut w a0 = some rr) : MetN l g yX5_leaveOut cX5_leaveOut 2 none (k2_rm 1 27) [.ref (ad 21), .int a0] (ccells g ad w) (ccells g ad rr) none := by
  refine MetN.of2 [(0, .ref (ad 21)), (1, .int a0)] rfl (by decide +kernel) (Nat.le_of_ble_eq_true rfl) ?_
  intro p e s m args below meth c hG hr
  unfold X5_leaveOut at hf
  refine v_aload_n hG 0 rfl rfl dX5_leaveOut_0 ?_
  refine c_g_21_0 hG wk_219 dX5_leaveOut_1 ?_
  refine c_g_22_4 hG wk_141 dX5_leaveOut_4 ?_
  refine v_iload_n hG 1 rfl rfl dX5_leaveOut_7 ?_
  refine v_iconst hG (v := -1) (by decide) dX5_leaveOut_8 ?_
  refine c_s_27 hG dX5_leaveOut_9 hf (fun w9 hf => ?_)
  refine v_aload_n hG 0 rfl rfl dX5_leaveOut_10 ?_
  refine c_g_21_4 hG wk_234 dX5_leaveOut_11 ?_
  refine v_aload_n hG 0 rfl rfl dX5_leaveOut_14 ?_
  refine c_g_21_7 hG wk_244 dX5_leaveOut_15 ?_
  refine v_iload_n hG 1 rfl rfl dX5_leaveOut_18 ?_
  refine v_iconst hG (v := -1) (by decide) dX5_leaveOut_19 ?_
  refine v_iconst hG (v := 0) (by decide) dX5_leaveOut_20 ?_
  refine v_aload_n hG 0 rfl rfl dX5_leaveOut_21 ?_
  refine c_g_21_0 hG wk_219 dX5_leaveOut_22 ?_
  refine c_g_22_5 hG wk_147 dX5_leaveOut_25 ?_
  refine v_iload_n hG 1 rfl rfl dX5_leaveOut_28 ?_
  refine c_l_28 hG dX5_leaveOut_29 hf (fun hf => ?_)
  obtain ⟨r30, hr30, hf⟩ := bd_some hf
  refine v_callV hG (st := []) 45 0 (ct_X0_note l g ad w9 (gC_rule w9) a0 (-1) 0 ((gT_right (gC_tab w9)) a0.toNatClampNeg) r30 hr30) iw_X0_note wk_618 rfl rfl ⟨rfl, rfl, Nat.le_of_ble_eq_true rfl, Nat.le_of_ble_eq_true rfl⟩ ⟨Nat.le_of_ble_eq_true rfl, Nat.le_of_ble_eq_true rfl⟩ rfl rfl (Nat.le_of_ble_eq_true rfl) (ccells_fst _ _ _ _) dX5_leaveOut_30 ?_
  refine (show V p l e (k2_rm 1 27) s m args below meth c (inW (ccells g ad w)) (EN below args s g (ccells g ad w) (ccells g ad rr) none) g 2 (ccells g ad r30) 0 0 33 [(0, .ref (ad 21)), (1, .int a0)] [] from ?_)
  cases hf
  exact v_vret hG hr dX5_leaveOut_33
def X5_noteAnew (w : CW) (a0 : Int32) : Option (CW) := (if inR a0 12 = true then ((X0_note w (gC_rule w) a0 (-1) 3 ((gT_right (gC_tab w)) a0.toNatClampNeg)).bind (fun r20 : CW => (some r20))) else none)
set_option maxRecDepth 100000 in
set_option maxHeartbeats 4000000 in
theorem ct_X5_noteAnew (l : Launch) (g : wG) (ad : Nat → Nat) (w : CW) (a0 : Int32) (rr : CW) (hf : X5_noteAnew w a0 = some rr) : MetN l g yX5_noteAnew cX5_noteAnew 2 none (k2_rm 1 27) [.ref (ad 21), .int a0] (ccells g ad w) (ccells g ad rr) none := by
  refine MetN.of2 [(0, .ref (ad 21)), (1, .int a0)] rfl (by decide +kernel) (Nat.le_of_ble_eq_true rfl) ?_
  intro p e s m args below meth c hG hr
  unfold X5_noteAnew at hf
  refine v_aload_n hG 0 rfl rfl dX5_noteAnew_0 ?_
  refine c_g_21_4 hG wk_234 dX5_noteAnew_1 ?_
  refine v_aload_n hG 0 rfl rfl dX5_noteAnew_4 ?_
  refine c_g_21_7 hG wk_244 dX5_noteAnew_5 ?_
  refine v_iload_n hG 1 rfl rfl dX5_noteAnew_8 ?_
  refine v_iconst hG (v := -1) (by decide) dX5_noteAnew_9 ?_
  refine v_iconst hG (v := 3) (by decide) dX5_noteAnew_10 ?_
  refine v_aload_n hG 0 rfl rfl dX5_noteAnew_11 ?_
  refine c_g_21_0 hG wk_219 dX5_noteAnew_12 ?_
  refine c_g_22_5 hG wk_147 dX5_noteAnew_15 ?_
  refine v_iload_n hG 1 rfl rfl dX5_noteAnew_18 ?_
  refine c_l_28 hG dX5_noteAnew_19 hf (fun hf => ?_)
  obtain ⟨r20, hr20, hf⟩ := bd_some hf
  refine v_callV hG (st := []) 45 0 (ct_X0_note l g ad w (gC_rule w) a0 (-1) 3 ((gT_right (gC_tab w)) a0.toNatClampNeg) r20 hr20) iw_X0_note wk_618 rfl rfl ⟨rfl, rfl, Nat.le_of_ble_eq_true rfl, Nat.le_of_ble_eq_true rfl⟩ ⟨Nat.le_of_ble_eq_true rfl, Nat.le_of_ble_eq_true rfl⟩ rfl rfl (Nat.le_of_ble_eq_true rfl) (ccells_fst _ _ _ _) dX5_noteAnew_20 ?_
  refine (show V p l e (k2_rm 1 27) s m args below meth c (inW (ccells g ad w)) (EN below args s g (ccells g ad w) (ccells g ad rr) none) g 2 (ccells g ad r20) 0 0 23 [(0, .ref (ad 21)), (1, .int a0)] [] from ?_)
  cases hf
  exact v_vret hG hr dX5_noteAnew_23
def X5_reach_J92  (j92_0 : Int64) (j92_1 : Int32) : Option ((Int64 × Int32) ⊕ ((Int64))) := (some (.inl (j92_0, (j92_1 + 1))))
def X5_reach_J88  (j88_0 : Int32) (j88_1 : Int64) (j88_2 : Int64) (j88_3 : Int64) : Option ((Int64 × Int32) ⊕ ((Int64))) := (X5_reach_J92 (j88_1 + (j88_2 * j88_3)) j88_0)
def X5_reach_J61 (w : CW) (a2 : Int32) (j61_0 : Int32) (j61_1 : Int64) (j61_2 : Int64) (j61_3 : Int32) : Option ((Int64 × Int32) ⊕ ((Int64))) := (if j61_3 = a2 then (if inR j61_0 12 = true then (X5_reach_J88 j61_0 j61_1 j61_2 ((gT_high (gC_tab w)) j61_0.toNatClampNeg)) else none) else (if inR j61_0 12 = true then (X5_reach_J88 j61_0 j61_1 j61_2 ((gT_low (gC_tab w)) j61_0.toNatClampNeg)) else none))
def X5_reach_L6 (w : CW) (a0 : Int32) (a1 : Int32) (a2 : Int32) (s6 : Int64 × Int32) : Option ((Int64 × Int32) ⊕ ((Int64))) := (if (gT_columns (gC_tab w)) ≤ s6.2 then (some (.inr s6.1)) else (if inR a0 12 = true then (if inR s6.2 12 = true then (if ((gT_a (gC_tab w)) a0.toNatClampNeg s6.2.toNatClampNeg) = 0 then (X5_reach_J92 s6.1 s6.2) else (if s6.2 = a1 then (X5_reach_J92 s6.1 s6.2) else (if ((gT_a (gC_tab w)) a0.toNatClampNeg s6.2.toNatClampNeg) ≤ 0 then (X5_reach_J61 w a2 s6.2 s6.1 ((gT_a (gC_tab w)) a0.toNatClampNeg s6.2.toNatClampNeg) 0) else (X5_reach_J61 w a2 s6.2 s6.1 ((gT_a (gC_tab w)) a0.toNatClampNeg s6.2.toNatClampNeg) 1)))) else none) else none))
def X5_reach (w : CW) (a0 : Int32) (a1 : Int32) (a2 : Int32) : Option (Int64) := ((iter (X5_reach_L6 w a0 a1 a2) 5000 (0, 0)).bind (fun z6 : (Int64) => (some z6)))
set_option maxRecDepth 100000 in
set_option maxHeartbeats 4000000 in
theorem ct_X5_reach (l : Launch) (g : wG) (ad : Nat → Nat) (w : CW) (a0 : Int32) (a1 : Int32) (a2 : Int32) (rr : Int64) (hf : X5_reach w a0 a1 a2 = some rr) : MetN l g yX5_reach cX5_reach 9 (some .long) (k2_rm 0 0) [.ref (ad 21), .int a0, .int a1, .int a2] (ccells g ad w) (ccells g ad w) (some (.long rr)) := by
  refine MetN.of2 [(0, .ref (ad 21)), (1, .int a0), (2, .int a1), (3, .int a2)] rfl (by decide +kernel) (Nat.le_of_ble_eq_true rfl) ?_
  intro p e s m args below meth c hG hr
  unfold X5_reach at hf
  refine v_lconst hG (v := 0) (by decide) dX5_reach_0 ?_
  refine v_lstore hG [(4, _), (0, _), (1, _), (2, _), (3, _)] dX5_reach_1 (by decide) rfl ?_
  refine v_iconst hG (v := 0) (by decide) dX5_reach_3 ?_
  refine v_istore hG [(6, _), (4, _), (0, _), (1, _), (2, _), (3, _)] dX5_reach_4 (by decide) rfl ?_
  refine v_sub [(0, _), (1, _), (2, _), (3, _), (4, _), (6, _)] [2, 3, 4, 5, 1, 0] rfl ?_
  obtain ⟨z6, hlz6, hf⟩ := bd_some hf
  refine loop_v (step := X5_reach_L6 w a0 a1 a2) (fun s6 : Int64 × Int32 => V p l e (k2_rm 0 0) s m args below meth c (inW (ccells g ad w)) (EN below args s g (ccells g ad w) (ccells g ad w) (some (.long rr))) g 9 (ccells g ad w) 0 0 6 [(0, .ref (ad 21)), (1, .int a0), (2, .int a1), (3, .int a2), (4, .long s6.1), (6, .int s6.2)] []) (fun z6_q : (Int64) => V p l e (k2_rm 0 0) s m args below meth c (inW (ccells g ad w)) (EN below args s g (ccells g ad w) (ccells g ad w) (some (.long rr))) g 9 (ccells g ad w) 0 0 98 [(4, .long z6_q)] []) ?_ 5000 (0, 0) z6 hlz6 ?_
  · intro s6 rL hf hin hout
    unfold X5_reach_L6 at hf
    have j92 : ∀ (j92_0 : Int64) (j92_1 : Int32), X5_reach_J92 j92_0 j92_1 = some rL → V p l e (k2_rm 0 0) s m args below meth c (inW (ccells g ad w)) (EN below args s g (ccells g ad w) (ccells g ad w) (some (.long rr))) g 9 (ccells g ad w) 0 0 92 [(0, .ref (ad 21)), (1, .int a0), (2, .int a1), (3, .int a2), (4, .long j92_0), (6, .int j92_1)] [] := by
      intro j92_0 j92_1 hf
      unfold X5_reach_J92 at hf
      refine v_iinc hG 5 (v := j92_1 + 1) [(6, _), (0, _), (1, _), (2, _), (3, _), (4, _)] dX5_reach_92 rfl rfl (by decide) rfl ?_
      refine v_goto hG 6 dX5_reach_95 rfl ?_
      refine v_sub [(0, _), (1, _), (2, _), (3, _), (4, _), (6, _)] [1, 2, 3, 4, 5, 0] rfl ?_
      exact hin _ (Option.some.inj hf).symm
    have j88 : ∀ (j88_0 : Int32) (j88_1 : Int64) (j88_2 : Int64) (j88_3 : Int64), X5_reach_J88 j88_0 j88_1 j88_2 j88_3 = some rL → V p l e (k2_rm 0 0) s m args below meth c (inW (ccells g ad w)) (EN below args s g (ccells g ad w) (ccells g ad w) (some (.long rr))) g 9 (ccells g ad w) 0 0 88 [(0, .ref (ad 21)), (1, .int a0), (2, .int a1), (3, .int a2), (6, .int j88_0)] [.long j88_3, .long j88_2, .long j88_1] := by
      intro j88_0 j88_1 j88_2 j88_3 hf
      unfold X5_reach_J88 at hf
      refine v_lmul hG dX5_reach_88 ?_
      refine v_ladd hG dX5_reach_89 ?_
      refine v_lstore hG [(4, _), (0, _), (1, _), (2, _), (3, _), (6, _)] dX5_reach_90 (by decide) rfl ?_
      refine v_sub [(0, _), (1, _), (2, _), (3, _), (4, _), (6, _)] [1, 2, 3, 4, 0, 5] rfl ?_
      exact j92 (j88_1 + (j88_2 * j88_3)) j88_0 hf
    have j61 : ∀ (j61_0 : Int32) (j61_1 : Int64) (j61_2 : Int64) (j61_3 : Int32), X5_reach_J61 w a2 j61_0 j61_1 j61_2 j61_3 = some rL → V p l e (k2_rm 0 0) s m args below meth c (inW (ccells g ad w)) (EN below args s g (ccells g ad w) (ccells g ad w) (some (.long rr))) g 9 (ccells g ad w) 0 0 61 [(0, .ref (ad 21)), (1, .int a0), (2, .int a1), (3, .int a2), (6, .int j61_0)] [.int j61_3, .long j61_2, .long j61_1] := by
      intro j61_0 j61_1 j61_2 j61_3 hf
      unfold X5_reach_J61 at hf
      refine v_iload_n hG 3 rfl rfl dX5_reach_61 ?_
      refine v_icmp_ne hG 78 dX5_reach_62 rfl hf (fun hf => ?_) (fun hf => ?_)
      · refine v_aload_n hG 0 rfl rfl dX5_reach_78 ?_
        refine c_g_21_0 hG wk_219 dX5_reach_79 ?_
        refine c_g_22_0 hG wk_119 dX5_reach_82 ?_
        refine v_iload hG 4 rfl dX5_reach_85 ?_
        refine c_l_23 hG dX5_reach_87 hf (fun hf => ?_)
        exact j88 j61_0 j61_1 j61_2 ((gT_low (gC_tab w)) j61_0.toNatClampNeg) hf
      · refine v_aload_n hG 0 rfl rfl dX5_reach_65 ?_
        refine c_g_21_0 hG wk_219 dX5_reach_66 ?_
        refine c_g_22_1 hG wk_126 dX5_reach_69 ?_
        refine v_iload hG 4 rfl dX5_reach_72 ?_
        refine c_l_24 hG dX5_reach_74 hf (fun hf => ?_)
        refine v_goto hG 88 dX5_reach_75 rfl ?_
        exact j88 j61_0 j61_1 j61_2 ((gT_high (gC_tab w)) j61_0.toNatClampNeg) hf
    refine v_iload hG 5 rfl dX5_reach_6 ?_
    refine v_aload_n hG 0 rfl rfl dX5_reach_8 ?_
    refine c_g_21_0 hG wk_219 dX5_reach_9 ?_
    refine c_g_22_7 hG wk_161 dX5_reach_12 ?_
    refine v_icmp_ge hG 98 dX5_reach_15 rfl hf (fun hf => ?_) (fun hf => ?_)
    · refine v_sub [(4, _)] [4] rfl ?_
      exact hout _ (Option.some.inj hf).symm
    · refine v_aload_n hG 0 rfl rfl dX5_reach_18 ?_
      refine c_g_21_0 hG wk_219 dX5_reach_19 ?_
      refine c_g_22_6 hG wk_154 dX5_reach_22 ?_
      refine v_iload_n hG 1 rfl rfl dX5_reach_25 ?_
      refine c_o_29 hG dX5_reach_26 hf (fun hi26 hf => ?_)
      refine v_iload hG 5 rfl dX5_reach_27 ?_
      refine c_rl_29 hG hi26 dX5_reach_29 hf (fun hf => ?_)
      refine v_lstore hG [(7, _), (0, _), (1, _), (2, _), (3, _), (4, _), (6, _)] dX5_reach_30 (by decide) rfl ?_
      refine v_lload hG 0 rfl dX5_reach_32 ?_
      refine v_lconst hG (v := 0) (by decide) dX5_reach_34 ?_
      refine v_lcmp_eq hG 92 dX5_reach_35 dX5_reach_36 rfl hf (fun hf => ?_) (fun hf => ?_)
      · refine v_sub [(0, _), (1, _), (2, _), (3, _), (4, _), (6, _)] [1, 2, 3, 4, 5, 6] rfl ?_
        exact j92 s6.1 s6.2 hf
      · refine v_iload hG 6 rfl dX5_reach_39 ?_
        refine v_iload_n hG 3 rfl rfl dX5_reach_41 ?_
        refine v_icmp_eq hG 92 dX5_reach_42 rfl hf (fun hf => ?_) (fun hf => ?_)
        · refine v_sub [(0, _), (1, _), (2, _), (3, _), (4, _), (6, _)] [1, 2, 3, 4, 5, 6] rfl ?_
          exact j92 s6.1 s6.2 hf
        · refine v_lload hG 5 rfl dX5_reach_45 ?_
          refine v_lload hG 0 rfl dX5_reach_47 ?_
          refine v_lload hG 0 rfl dX5_reach_49 ?_
          refine v_lconst hG (v := 0) (by decide) dX5_reach_51 ?_
          refine v_lcmp_le hG 60 dX5_reach_52 dX5_reach_53 rfl hf (fun hf => ?_) (fun hf => ?_)
          · refine v_iconst hG (v := 0) (by decide) dX5_reach_60 ?_
            refine v_sub [(0, _), (1, _), (2, _), (3, _), (6, _)] [1, 2, 3, 4, 6] rfl ?_
            exact j61 s6.2 s6.1 ((gT_a (gC_tab w)) a0.toNatClampNeg s6.2.toNatClampNeg) 0 hf
          · refine v_iconst hG (v := 1) (by decide) dX5_reach_56 ?_
            refine v_goto hG 61 dX5_reach_57 rfl ?_
            refine v_sub [(0, _), (1, _), (2, _), (3, _), (6, _)] [1, 2, 3, 4, 6] rfl ?_
            exact j61 s6.2 s6.1 ((gT_a (gC_tab w)) a0.toNatClampNeg s6.2.toNatClampNeg) 1 hf
  · show V p l e (k2_rm 0 0) s m args below meth c (inW (ccells g ad w)) (EN below args s g (ccells g ad w) (ccells g ad w) (some (.long rr))) g 9 (ccells g ad w) 0 0 98 [(4, .long z6)] []
    refine v_lload hG 0 rfl dX5_reach_98 ?_
    cases hf
    exact v_lret hG hr dX5_reach_100
def X5_reachRest_J83  (j83_0 : Int32) (j83_1 : Int32) : Option ((Int32 × Int32) ⊕ ((Int32))) := (some (.inl (j83_0, (j83_1 + 1))))
def X5_reachRest_J80  (j80_0 : Int32) (j80_1 : Int32) (j80_2 : Int32) : Option ((Int32 × Int32) ⊕ ((Int32))) := (X5_reachRest_J83 (j80_1 ||| j80_2) j80_0)
def X5_reachRest_J59 (w : CW) (a2 : Int32) (j59_0 : Int32) (j59_1 : Int32) (j59_2 : Int32) : Option ((Int32 × Int32) ⊕ ((Int32))) := (if j59_2 = a2 then (if inR j59_0 12 = true then (X5_reachRest_J80 j59_0 j59_1 ((gC_highRest w) j59_0.toNatClampNeg)) else none) else (if inR j59_0 12 = true then (X5_reachRest_J80 j59_0 j59_1 ((gC_lowRest w) j59_0.toNatClampNeg)) else none))
def X5_reachRest_L6 (w : CW) (a0 : Int32) (a1 : Int32) (a2 : Int32) (s6 : Int32 × Int32) : Option ((Int32 × Int32) ⊕ ((Int32))) := (if (gT_columns (gC_tab w)) ≤ s6.2 then (some (.inr s6.1)) else (if inR a0 12 = true then (if inR s6.2 12 = true then (if ((gT_a (gC_tab w)) a0.toNatClampNeg s6.2.toNatClampNeg) = 0 then (X5_reachRest_J83 s6.1 s6.2) else (if s6.2 = a1 then (X5_reachRest_J83 s6.1 s6.2) else (if ((gT_a (gC_tab w)) a0.toNatClampNeg s6.2.toNatClampNeg) ≤ 0 then (X5_reachRest_J59 w a2 s6.2 s6.1 0) else (X5_reachRest_J59 w a2 s6.2 s6.1 1)))) else none) else none))
def X5_reachRest (w : CW) (a0 : Int32) (a1 : Int32) (a2 : Int32) : Option (Int32) := ((iter (X5_reachRest_L6 w a0 a1 a2) 5000 (0, 0)).bind (fun z6 : (Int32) => (some z6)))
set_option maxRecDepth 100000 in
set_option maxHeartbeats 4000000 in
theorem ct_X5_reachRest (l : Launch) (g : wG) (ad : Nat → Nat) (w : CW) (a0 : Int32) (a1 : Int32) (a2 : Int32) (rr : Int32) (hf : X5_reachRest w a0 a1 a2 = some rr) : MetN l g yX5_reachRest cX5_reachRest 8 (some .int) (k2_rm 0 0) [.ref (ad 21), .int a0, .int a1, .int a2] (ccells g ad w) (ccells g ad w) (some (.int rr)) := by
  refine MetN.of2 [(0, .ref (ad 21)), (1, .int a0), (2, .int a1), (3, .int a2)] rfl (by decide +kernel) (Nat.le_of_ble_eq_true rfl) ?_
  intro p e s m args below meth c hG hr
  unfold X5_reachRest at hf
  refine v_iconst hG (v := 0) (by decide) dX5_reachRest_0 ?_
  refine v_istore hG [(4, _), (0, _), (1, _), (2, _), (3, _)] dX5_reachRest_1 (by decide) rfl ?_
  refine v_iconst hG (v := 0) (by decide) dX5_reachRest_3 ?_
  refine v_istore hG [(5, _), (4, _), (0, _), (1, _), (2, _), (3, _)] dX5_reachRest_4 (by decide) rfl ?_
  refine v_sub [(0, _), (1, _), (2, _), (3, _), (4, _), (5, _)] [2, 3, 4, 5, 1, 0] rfl ?_
  obtain ⟨z6, hlz6, hf⟩ := bd_some hf
  refine loop_v (step := X5_reachRest_L6 w a0 a1 a2) (fun s6 : Int32 × Int32 => V p l e (k2_rm 0 0) s m args below meth c (inW (ccells g ad w)) (EN below args s g (ccells g ad w) (ccells g ad w) (some (.int rr))) g 8 (ccells g ad w) 0 0 6 [(0, .ref (ad 21)), (1, .int a0), (2, .int a1), (3, .int a2), (4, .int s6.1), (5, .int s6.2)] []) (fun z6_q : (Int32) => V p l e (k2_rm 0 0) s m args below meth c (inW (ccells g ad w)) (EN below args s g (ccells g ad w) (ccells g ad w) (some (.int rr))) g 8 (ccells g ad w) 0 0 89 [(4, .int z6_q)] []) ?_ 5000 (0, 0) z6 hlz6 ?_
  · intro s6 rL hf hin hout
    unfold X5_reachRest_L6 at hf
    have j83 : ∀ (j83_0 : Int32) (j83_1 : Int32), X5_reachRest_J83 j83_0 j83_1 = some rL → V p l e (k2_rm 0 0) s m args below meth c (inW (ccells g ad w)) (EN below args s g (ccells g ad w) (ccells g ad w) (some (.int rr))) g 8 (ccells g ad w) 0 0 83 [(0, .ref (ad 21)), (1, .int a0), (2, .int a1), (3, .int a2), (4, .int j83_0), (5, .int j83_1)] [] := by
      intro j83_0 j83_1 hf
      unfold X5_reachRest_J83 at hf
      refine v_iinc hG 5 (v := j83_1 + 1) [(5, _), (0, _), (1, _), (2, _), (3, _), (4, _)] dX5_reachRest_83 rfl rfl (by decide) rfl ?_
      refine v_goto hG 6 dX5_reachRest_86 rfl ?_
      refine v_sub [(0, _), (1, _), (2, _), (3, _), (4, _), (5, _)] [1, 2, 3, 4, 5, 0] rfl ?_
      exact hin _ (Option.some.inj hf).symm
    have j80 : ∀ (j80_0 : Int32) (j80_1 : Int32) (j80_2 : Int32), X5_reachRest_J80 j80_0 j80_1 j80_2 = some rL → V p l e (k2_rm 0 0) s m args below meth c (inW (ccells g ad w)) (EN below args s g (ccells g ad w) (ccells g ad w) (some (.int rr))) g 8 (ccells g ad w) 0 0 80 [(0, .ref (ad 21)), (1, .int a0), (2, .int a1), (3, .int a2), (5, .int j80_0)] [.int j80_2, .int j80_1] := by
      intro j80_0 j80_1 j80_2 hf
      unfold X5_reachRest_J80 at hf
      refine v_ior hG dX5_reachRest_80 ?_
      refine v_istore hG [(4, _), (0, _), (1, _), (2, _), (3, _), (5, _)] dX5_reachRest_81 (by decide) rfl ?_
      refine v_sub [(0, _), (1, _), (2, _), (3, _), (4, _), (5, _)] [1, 2, 3, 4, 0, 5] rfl ?_
      exact j83 (j80_1 ||| j80_2) j80_0 hf
    have j59 : ∀ (j59_0 : Int32) (j59_1 : Int32) (j59_2 : Int32), X5_reachRest_J59 w a2 j59_0 j59_1 j59_2 = some rL → V p l e (k2_rm 0 0) s m args below meth c (inW (ccells g ad w)) (EN below args s g (ccells g ad w) (ccells g ad w) (some (.int rr))) g 8 (ccells g ad w) 0 0 59 [(0, .ref (ad 21)), (1, .int a0), (2, .int a1), (3, .int a2), (5, .int j59_0)] [.int j59_2, .int j59_1] := by
      intro j59_0 j59_1 j59_2 hf
      unfold X5_reachRest_J59 at hf
      refine v_iload_n hG 3 rfl rfl dX5_reachRest_59 ?_
      refine v_icmp_ne hG 73 dX5_reachRest_60 rfl hf (fun hf => ?_) (fun hf => ?_)
      · refine v_aload_n hG 0 rfl rfl dX5_reachRest_73 ?_
        refine c_g_21_2 hG wk_226 dX5_reachRest_74 ?_
        refine v_iload hG 4 rfl dX5_reachRest_77 ?_
        refine c_l_43 hG dX5_reachRest_79 hf (fun hf => ?_)
        exact j80 j59_0 j59_1 ((gC_lowRest w) j59_0.toNatClampNeg) hf
      · refine v_aload_n hG 0 rfl rfl dX5_reachRest_63 ?_
        refine c_g_21_3 hG wk_230 dX5_reachRest_64 ?_
        refine v_iload hG 4 rfl dX5_reachRest_67 ?_
        refine c_l_44 hG dX5_reachRest_69 hf (fun hf => ?_)
        refine v_goto hG 80 dX5_reachRest_70 rfl ?_
        exact j80 j59_0 j59_1 ((gC_highRest w) j59_0.toNatClampNeg) hf
    refine v_iload hG 5 rfl dX5_reachRest_6 ?_
    refine v_aload_n hG 0 rfl rfl dX5_reachRest_8 ?_
    refine c_g_21_0 hG wk_219 dX5_reachRest_9 ?_
    refine c_g_22_7 hG wk_161 dX5_reachRest_12 ?_
    refine v_icmp_ge hG 89 dX5_reachRest_15 rfl hf (fun hf => ?_) (fun hf => ?_)
    · refine v_sub [(4, _)] [4] rfl ?_
      exact hout _ (Option.some.inj hf).symm
    · refine v_aload_n hG 0 rfl rfl dX5_reachRest_18 ?_
      refine c_g_21_0 hG wk_219 dX5_reachRest_19 ?_
      refine c_g_22_6 hG wk_154 dX5_reachRest_22 ?_
      refine v_iload_n hG 1 rfl rfl dX5_reachRest_25 ?_
      refine c_o_29 hG dX5_reachRest_26 hf (fun hi26 hf => ?_)
      refine v_iload hG 5 rfl dX5_reachRest_27 ?_
      refine c_rl_29 hG hi26 dX5_reachRest_29 hf (fun hf => ?_)
      refine v_lstore hG [(6, _), (0, _), (1, _), (2, _), (3, _), (4, _), (5, _)] dX5_reachRest_30 (by decide) rfl ?_
      refine v_lload hG 0 rfl dX5_reachRest_32 ?_
      refine v_lconst hG (v := 0) (by decide) dX5_reachRest_34 ?_
      refine v_lcmp_eq hG 83 dX5_reachRest_35 dX5_reachRest_36 rfl hf (fun hf => ?_) (fun hf => ?_)
      · refine v_sub [(0, _), (1, _), (2, _), (3, _), (4, _), (5, _)] [1, 2, 3, 4, 5, 6] rfl ?_
        exact j83 s6.1 s6.2 hf
      · refine v_iload hG 6 rfl dX5_reachRest_39 ?_
        refine v_iload_n hG 3 rfl rfl dX5_reachRest_41 ?_
        refine v_icmp_eq hG 83 dX5_reachRest_42 rfl hf (fun hf => ?_) (fun hf => ?_)
        · refine v_sub [(0, _), (1, _), (2, _), (3, _), (4, _), (5, _)] [1, 2, 3, 4, 5, 6] rfl ?_
          exact j83 s6.1 s6.2 hf
        · refine v_iload hG 5 rfl dX5_reachRest_45 ?_
          refine v_lload hG 0 rfl dX5_reachRest_47 ?_
          refine v_lconst hG (v := 0) (by decide) dX5_reachRest_49 ?_
          refine v_lcmp_le hG 58 dX5_reachRest_50 dX5_reachRest_51 rfl hf (fun hf => ?_) (fun hf => ?_)
          · refine v_iconst hG (v := 0) (by decide) dX5_reachRest_58 ?_
            refine v_sub [(0, _), (1, _), (2, _), (3, _), (5, _)] [1, 2, 3, 4, 6] rfl ?_
            exact j59 s6.2 s6.1 0 hf
          · refine v_iconst hG (v := 1) (by decide) dX5_reachRest_54 ?_
            refine v_goto hG 59 dX5_reachRest_55 rfl ?_
            refine v_sub [(0, _), (1, _), (2, _), (3, _), (5, _)] [1, 2, 3, 4, 6] rfl ?_
            exact j59 s6.2 s6.1 1 hf
  · show V p l e (k2_rm 0 0) s m args below meth c (inW (ccells g ad w)) (EN below args s g (ccells g ad w) (ccells g ad w) (some (.int rr))) g 8 (ccells g ad w) 0 0 89 [(4, .int z6)] []
    refine v_iload hG 0 rfl dX5_reachRest_89 ?_
    cases hf
    exact v_iret hG hr dX5_reachRest_91
def X5_narrow_J125  (j125_0 : CW) (j125_1 : Int32) (j125_2 : Int32) : Option (Int32 × CW) := ((X5_endAll j125_0 (j125_1 ||| j125_2)).bind (fun r126 : Int32 × CW => (if isB r126.1 = true then some (r126.1, r126.2) else none)))
def X5_narrow_J103 (a1 : Int32) (a2 : Int32) (a5 : Int32) (j103_0 : CW) : Option (Int32 × CW) := (if a2 = 0 then (if inR a1 12 = true then (X5_narrow_J125 j103_0 a5 ((gC_highRest j103_0) a1.toNatClampNeg)) else none) else (if inR a1 12 = true then (X5_narrow_J125 j103_0 a5 ((gC_lowRest j103_0) a1.toNatClampNeg)) else none))
def X5_narrow_J194  (j194_0 : CW) (j194_1 : Int64) (j194_2 : Int32) (j194_3 : Int32) (j194_4 : Int32) (j194_5 : Int32) : Option (Int32 × CW) := ((X0_note j194_0 j194_2 j194_3 j194_4 j194_5 j194_1).bind (fun r196 : CW => (some (1, r196))))
def X5_narrow_J175 (a0 : Int32) (a1 : Int32) (a2 : Int32) (j175_0 : CW) (j175_1 : Int64) : Option (Int32 × CW) := (if a2 = 0 then (X5_narrow_J194 j175_0 j175_1 (gC_rule j175_0) a0 a1 1) else (X5_narrow_J194 j175_0 j175_1 (gC_rule j175_0) a0 a1 2))
def X5_narrow_J73 (a0 : Int32) (a1 : Int32) (a2 : Int32) (a5 : Int32) (j73_0 : CW) (j73_1 : Int64) : Option (Int32 × CW) := (if inR a1 12 = true then (if j73_1 < ((gT_low (gC_tab j73_0)) a1.toNatClampNeg) then (X5_narrow_J103 a1 a2 a5 j73_0) else (if inR a1 12 = true then (if j73_1 ≤ ((gT_high (gC_tab j73_0)) a1.toNatClampNeg) then (if a2 = 0 then (if inR a1 12 = true then (bnd (sC_tab j73_0 (sT_low (gC_tab j73_0) (vp_updL (gT_low (gC_tab j73_0)) a1.toNatClampNeg j73_1))) (fun w166 : CW => (if inR a1 12 = true then (bnd (sC_lowRest w166 (upd (gC_lowRest w166) a1.toNatClampNeg a5)) (fun w174 : CW => (X5_narrow_J175 a0 a1 a2 w174 j73_1))) else none))) else none) else (if inR a1 12 = true then (bnd (sC_tab j73_0 (sT_high (gC_tab j73_0) (vp_updL (gT_high (gC_tab j73_0)) a1.toNatClampNeg j73_1))) (fun w144 : CW => (if inR a1 12 = true then (bnd (sC_highRest w144 (upd (gC_highRest w144) a1.toNatClampNeg a5)) (fun w152 : CW => (X5_narrow_J175 a0 a1 a2 w152 j73_1))) else none))) else none)) else (X5_narrow_J103 a1 a2 a5 j73_0)) else none)) else none)
def X5_narrow_J32 (a0 : Int32) (a1 : Int32) (a2 : Int32) (a5 : Int32) (j32_0 : CW) (j32_1 : Int64) : Option (Int32 × CW) := (if a2 = 0 then (if inR a1 12 = true then (if ((gT_low (gC_tab j32_0)) a1.toNatClampNeg) < j32_1 then (X5_narrow_J73 a0 a1 a2 a5 j32_0 j32_1) else (some (1, j32_0))) else none) else (if inR a1 12 = true then (if j32_1 < ((gT_high (gC_tab j32_0)) a1.toNatClampNeg) then (X5_narrow_J73 a0 a1 a2 a5 j32_0 j32_1) else (some (1, j32_0))) else none))
def X5_narrow (w : CW) (a0 : Int32) (a1 : Int32) (a2 : Int32) (a3 : Int64) (a4 : Int64) (a5 : Int32) : Option (Int32 × CW) := (if a4 = 0 then (some (1, w)) else (if a2 = 0 then ((J9_floorDiv_f86c9 (-a3) a4).bind (fun r28 : Int64 => (X5_narrow_J32 a0 a1 a2 a5 w (-r28)))) else ((J9_floorDiv_f86c9 a3 a4).bind (fun r17 : Int64 => (X5_narrow_J32 a0 a1 a2 a5 w r17)))))
set_option maxRecDepth 100000 in
set_option maxHeartbeats 4000000 in
theorem ct_X5_narrow (l : Launch) (g : wG) (ad : Nat → Nat) (w : CW) (a0 : Int32) (a1 : Int32) (a2 : Int32) (a3 : Int64) (a4 : Int64) (a5 : Int32) (rr : Int32 × CW) (hf : X5_narrow w a0 a1 a2 a3 a4 a5 = some rr) : MetN l g yX5_narrow cX5_narrow 11 (some .boolean) (k2_rm 1 27) [.ref (ad 21), .int a0, .int a1, .int a2, .long a3, .long a4, .int a5] (ccells g ad w) (ccells g ad rr.2) (some (.int rr.1)) := by
  refine MetN.of2 [(0, .ref (ad 21)), (1, .int a0), (2, .int a1), (3, .int a2), (4, .long a3), (6, .long a4), (8, .int a5)] rfl (by decide +kernel) (Nat.le_of_ble_eq_true rfl) ?_
  intro p e s m args below meth c hG hr
  unfold X5_narrow at hf
  have j125 : ∀ (j125_0 : CW) (j125_1 : Int32) (j125_2 : Int32), X5_narrow_J125 j125_0 j125_1 j125_2 = some rr → V p l e (k2_rm 1 27) s m args below meth c (inW (ccells g ad w)) (EN below args s g (ccells g ad w) (ccells g ad rr.2) (some (.int rr.1))) g 11 (ccells g ad j125_0) 0 0 125 [] [.int j125_2, .int j125_1, .ref (ad 21)] := by
    intro j125_0 j125_1 j125_2 hf
    unfold X5_narrow_J125 at hf
    refine v_ior hG dX5_narrow_125 ?_
    obtain ⟨r126, hr126, hf⟩ := bd_some hf
    refine v_callV hG (st := []) 21 5 (ct_X5_endAll l g ad j125_0 (j125_1 ||| j125_2) r126 hr126) iw_X5_endAll wk_664 rfl rfl ⟨rfl, rfl, Nat.le_of_ble_eq_true rfl, Nat.le_of_ble_eq_true rfl⟩ ⟨Nat.le_of_ble_eq_true rfl, Nat.le_of_ble_eq_true rfl⟩ rfl rfl (Nat.le_of_ble_eq_true rfl) (ccells_fst _ _ _ _) dX5_narrow_126 ?_
    refine (show V p l e (k2_rm 1 27) s m args below meth c (inW (ccells g ad w)) (EN below args s g (ccells g ad w) (ccells g ad rr.2) (some (.int rr.1))) g 11 (ccells g ad r126.2) 0 0 129 [] [.int r126.1] from ?_)
    obtain ⟨hb, hf⟩ := gd_some hf
    cases hf
    exact v_zret hG hr (isB_nar hb) dX5_narrow_129
  have j103 : ∀ (j103_0 : CW), X5_narrow_J103 a1 a2 a5 j103_0 = some rr → V p l e (k2_rm 1 27) s m args below meth c (inW (ccells g ad w)) (EN below args s g (ccells g ad w) (ccells g ad rr.2) (some (.int rr.1))) g 11 (ccells g ad j103_0) 0 0 103 [(0, .ref (ad 21)), (2, .int a1), (3, .int a2), (8, .int a5)] [] := by
    intro j103_0 hf
    unfold X5_narrow_J103 at hf
    refine v_aload_n hG 0 rfl rfl dX5_narrow_103 ?_
    refine v_iload hG 3 rfl dX5_narrow_104 ?_
    refine v_iload_n hG 2 rfl rfl dX5_narrow_106 ?_
    refine v_if_eq hG 119 dX5_narrow_107 rfl hf (fun hf => ?_) (fun hf => ?_)
    · refine v_aload_n hG 0 rfl rfl dX5_narrow_119 ?_
      refine c_g_21_3 hG wk_230 dX5_narrow_120 ?_
      refine v_iload_n hG 1 rfl rfl dX5_narrow_123 ?_
      refine c_l_44 hG dX5_narrow_124 hf (fun hf => ?_)
      refine v_sub [] [] rfl ?_
      exact j125 j103_0 a5 ((gC_highRest j103_0) a1.toNatClampNeg) hf
    · refine v_aload_n hG 0 rfl rfl dX5_narrow_110 ?_
      refine c_g_21_2 hG wk_226 dX5_narrow_111 ?_
      refine v_iload_n hG 1 rfl rfl dX5_narrow_114 ?_
      refine c_l_43 hG dX5_narrow_115 hf (fun hf => ?_)
      refine v_goto hG 125 dX5_narrow_116 rfl ?_
      refine v_sub [] [] rfl ?_
      exact j125 j103_0 a5 ((gC_lowRest j103_0) a1.toNatClampNeg) hf
  have j194 : ∀ (j194_0 : CW) (j194_1 : Int64) (j194_2 : Int32) (j194_3 : Int32) (j194_4 : Int32) (j194_5 : Int32), X5_narrow_J194 j194_0 j194_1 j194_2 j194_3 j194_4 j194_5 = some rr → V p l e (k2_rm 1 27) s m args below meth c (inW (ccells g ad w)) (EN below args s g (ccells g ad w) (ccells g ad rr.2) (some (.int rr.1))) g 11 (ccells g ad j194_0) 0 0 194 [(9, .long j194_1)] [.int j194_5, .int j194_4, .int j194_3, .int j194_2, .ref (ad 45)] := by
    intro j194_0 j194_1 j194_2 j194_3 j194_4 j194_5 hf
    unfold X5_narrow_J194 at hf
    refine v_lload hG 0 rfl dX5_narrow_194 ?_
    obtain ⟨r196, hr196, hf⟩ := bd_some hf
    refine v_callV hG (st := []) 45 0 (ct_X0_note l g ad j194_0 j194_2 j194_3 j194_4 j194_5 j194_1 r196 hr196) iw_X0_note wk_618 rfl rfl ⟨rfl, rfl, Nat.le_of_ble_eq_true rfl, Nat.le_of_ble_eq_true rfl⟩ ⟨Nat.le_of_ble_eq_true rfl, Nat.le_of_ble_eq_true rfl⟩ rfl rfl (Nat.le_of_ble_eq_true rfl) (ccells_fst _ _ _ _) dX5_narrow_196 ?_
    refine (show V p l e (k2_rm 1 27) s m args below meth c (inW (ccells g ad w)) (EN below args s g (ccells g ad w) (ccells g ad rr.2) (some (.int rr.1))) g 11 (ccells g ad r196) 0 0 199 [(9, .long j194_1)] [] from ?_)
    refine v_iconst hG (v := 1) (by decide) dX5_narrow_199 ?_
    cases hf
    exact v_zret (x := 1) hG hr rfl dX5_narrow_200
  have j175 : ∀ (j175_0 : CW) (j175_1 : Int64), X5_narrow_J175 a0 a1 a2 j175_0 j175_1 = some rr → V p l e (k2_rm 1 27) s m args below meth c (inW (ccells g ad w)) (EN below args s g (ccells g ad w) (ccells g ad rr.2) (some (.int rr.1))) g 11 (ccells g ad j175_0) 0 0 175 [(0, .ref (ad 21)), (1, .int a0), (2, .int a1), (3, .int a2), (9, .long j175_1)] [] := by
    intro j175_0 j175_1 hf
    unfold X5_narrow_J175 at hf
    refine v_aload_n hG 0 rfl rfl dX5_narrow_175 ?_
    refine c_g_21_4 hG wk_234 dX5_narrow_176 ?_
    refine v_aload_n hG 0 rfl rfl dX5_narrow_179 ?_
    refine c_g_21_7 hG wk_244 dX5_narrow_180 ?_
    refine v_iload_n hG 1 rfl rfl dX5_narrow_183 ?_
    refine v_iload_n hG 2 rfl rfl dX5_narrow_184 ?_
    refine v_iload_n hG 3 rfl rfl dX5_narrow_185 ?_
    refine v_if_eq hG 193 dX5_narrow_186 rfl hf (fun hf => ?_) (fun hf => ?_)
    · refine v_iconst hG (v := 1) (by decide) dX5_narrow_193 ?_
      refine v_sub [(9, _)] [4] rfl ?_
      exact j194 j175_0 j175_1 (gC_rule j175_0) a0 a1 1 hf
    · refine v_iconst hG (v := 2) (by decide) dX5_narrow_189 ?_
      refine v_goto hG 194 dX5_narrow_190 rfl ?_
      refine v_sub [(9, _)] [4] rfl ?_
      exact j194 j175_0 j175_1 (gC_rule j175_0) a0 a1 2 hf
  have j73 : ∀ (j73_0 : CW) (j73_1 : Int64), X5_narrow_J73 a0 a1 a2 a5 j73_0 j73_1 = some rr → V p l e (k2_rm 1 27) s m args below meth c (inW (ccells g ad w)) (EN below args s g (ccells g ad w) (ccells g ad rr.2) (some (.int rr.1))) g 11 (ccells g ad j73_0) 0 0 73 [(0, .ref (ad 21)), (1, .int a0), (2, .int a1), (3, .int a2), (8, .int a5), (9, .long j73_1)] [] := by
    intro j73_0 j73_1 hf
    unfold X5_narrow_J73 at hf
    refine v_lload hG 5 rfl dX5_narrow_73 ?_
    refine v_aload_n hG 0 rfl rfl dX5_narrow_75 ?_
    refine c_g_21_0 hG wk_219 dX5_narrow_76 ?_
    refine c_g_22_0 hG wk_119 dX5_narrow_79 ?_
    refine v_iload_n hG 2 rfl rfl dX5_narrow_82 ?_
    refine c_l_23 hG dX5_narrow_83 hf (fun hf => ?_)
    refine v_lcmp_lt hG 103 dX5_narrow_84 dX5_narrow_85 rfl hf (fun hf => ?_) (fun hf => ?_)
    · refine v_sub [(0, _), (2, _), (3, _), (8, _)] [0, 2, 3, 4] rfl ?_
      exact j103 j73_0 hf
    · refine v_lload hG 5 rfl dX5_narrow_88 ?_
      refine v_aload_n hG 0 rfl rfl dX5_narrow_90 ?_
      refine c_g_21_0 hG wk_219 dX5_narrow_91 ?_
      refine c_g_22_1 hG wk_126 dX5_narrow_94 ?_
      refine v_iload_n hG 2 rfl rfl dX5_narrow_97 ?_
      refine c_l_24 hG dX5_narrow_98 hf (fun hf => ?_)
      refine v_lcmp_le hG 130 dX5_narrow_99 dX5_narrow_100 rfl hf (fun hf => ?_) (fun hf => ?_)
      · refine v_iload_n hG 3 rfl rfl dX5_narrow_130 ?_
        refine v_if_eq hG 156 dX5_narrow_131 rfl hf (fun hf => ?_) (fun hf => ?_)
        · refine v_aload_n hG 0 rfl rfl dX5_narrow_156 ?_
          refine c_g_21_0 hG wk_219 dX5_narrow_157 ?_
          refine c_g_22_0 hG wk_119 dX5_narrow_160 ?_
          refine v_iload_n hG 2 rfl rfl dX5_narrow_163 ?_
          refine v_lload hG 5 rfl dX5_narrow_164 ?_
          refine c_s_23 hG dX5_narrow_166 hf (fun w166 hf => ?_)
          refine v_aload_n hG 0 rfl rfl dX5_narrow_167 ?_
          refine c_g_21_2 hG wk_226 dX5_narrow_168 ?_
          refine v_iload_n hG 2 rfl rfl dX5_narrow_171 ?_
          refine v_iload hG 4 rfl dX5_narrow_172 ?_
          refine c_s_43 hG dX5_narrow_174 hf (fun w174 hf => ?_)
          refine v_sub [(0, _), (1, _), (2, _), (3, _), (9, _)] [0, 1, 2, 3, 5] rfl ?_
          exact j175 w174 j73_1 hf
        · refine v_aload_n hG 0 rfl rfl dX5_narrow_134 ?_
          refine c_g_21_0 hG wk_219 dX5_narrow_135 ?_
          refine c_g_22_1 hG wk_126 dX5_narrow_138 ?_
          refine v_iload_n hG 2 rfl rfl dX5_narrow_141 ?_
          refine v_lload hG 5 rfl dX5_narrow_142 ?_
          refine c_s_24 hG dX5_narrow_144 hf (fun w144 hf => ?_)
          refine v_aload_n hG 0 rfl rfl dX5_narrow_145 ?_
          refine c_g_21_3 hG wk_230 dX5_narrow_146 ?_
          refine v_iload_n hG 2 rfl rfl dX5_narrow_149 ?_
          refine v_iload hG 4 rfl dX5_narrow_150 ?_
          refine c_s_44 hG dX5_narrow_152 hf (fun w152 hf => ?_)
          refine v_goto hG 175 dX5_narrow_153 rfl ?_
          refine v_sub [(0, _), (1, _), (2, _), (3, _), (9, _)] [0, 1, 2, 3, 5] rfl ?_
          exact j175 w152 j73_1 hf
      · refine v_sub [(0, _), (2, _), (3, _), (8, _)] [0, 2, 3, 4] rfl ?_
        exact j103 j73_0 hf
  have j32 : ∀ (j32_0 : CW) (j32_1 : Int64), X5_narrow_J32 a0 a1 a2 a5 j32_0 j32_1 = some rr → V p l e (k2_rm 1 27) s m args below meth c (inW (ccells g ad w)) (EN below args s g (ccells g ad w) (ccells g ad rr.2) (some (.int rr.1))) g 11 (ccells g ad j32_0) 0 0 32 [(0, .ref (ad 21)), (1, .int a0), (2, .int a1), (3, .int a2), (8, .int a5)] [.long j32_1] := by
    intro j32_0 j32_1 hf
    unfold X5_narrow_J32 at hf
    refine v_lstore hG [(9, _), (0, _), (1, _), (2, _), (3, _), (8, _)] dX5_narrow_32 (by decide) rfl ?_
    refine v_iload_n hG 4 rfl rfl dX5_narrow_34 ?_
    refine v_if_eq hG 56 dX5_narrow_35 rfl hf (fun hf => ?_) (fun hf => ?_)
    · refine v_lload hG 0 rfl dX5_narrow_56 ?_
      refine v_aload_n hG 1 rfl rfl dX5_narrow_58 ?_
      refine c_g_21_0 hG wk_219 dX5_narrow_59 ?_
      refine c_g_22_0 hG wk_119 dX5_narrow_62 ?_
      refine v_iload_n hG 3 rfl rfl dX5_narrow_65 ?_
      refine c_l_23 hG dX5_narrow_66 hf (fun hf => ?_)
      refine v_lcmp_gt hG 73 dX5_narrow_67 dX5_narrow_68 rfl hf (fun hf => ?_) (fun hf => ?_)
      · refine v_sub [(0, _), (1, _), (2, _), (3, _), (8, _), (9, _)] [1, 2, 3, 4, 5, 0] rfl ?_
        exact j73 j32_0 j32_1 hf
      · refine v_iconst hG (v := 1) (by decide) dX5_narrow_71 ?_
        cases hf
        exact v_zret (x := 1) hG hr rfl dX5_narrow_72
    · refine v_lload hG 0 rfl dX5_narrow_38 ?_
      refine v_aload_n hG 1 rfl rfl dX5_narrow_40 ?_
      refine c_g_21_0 hG wk_219 dX5_narrow_41 ?_
      refine c_g_22_1 hG wk_126 dX5_narrow_44 ?_
      refine v_iload_n hG 3 rfl rfl dX5_narrow_47 ?_
      refine c_l_24 hG dX5_narrow_48 hf (fun hf => ?_)
      refine v_lcmp_lt hG 73 dX5_narrow_49 dX5_narrow_50 rfl hf (fun hf => ?_) (fun hf => ?_)
      · refine v_sub [(0, _), (1, _), (2, _), (3, _), (8, _), (9, _)] [1, 2, 3, 4, 5, 0] rfl ?_
        exact j73 j32_0 j32_1 hf
      · refine v_goto hG 71 dX5_narrow_53 rfl ?_
        refine v_iconst hG (v := 1) (by decide) dX5_narrow_71 ?_
        cases hf
        exact v_zret (x := 1) hG hr rfl dX5_narrow_72
  refine v_lload hG 5 rfl dX5_narrow_0 ?_
  refine v_lconst hG (v := 0) (by decide) dX5_narrow_2 ?_
  refine v_lcmp_ne hG 9 dX5_narrow_3 dX5_narrow_4 rfl hf (fun hf => ?_) (fun hf => ?_)
  · refine v_iload_n hG 3 rfl rfl dX5_narrow_9 ?_
    refine v_if_eq hG 23 dX5_narrow_10 rfl hf (fun hf => ?_) (fun hf => ?_)
    · refine v_lload hG 4 rfl dX5_narrow_23 ?_
      refine v_lneg hG dX5_narrow_25 ?_
      refine v_lload hG 5 rfl dX5_narrow_26 ?_
      obtain ⟨r28, hr28, hf⟩ := bd_some hf
      refine v_callP hG (st := []) (ct_J9_floorDiv_f86c9 l g (-a3) a4 r28 hr28) sw_J9_floorDiv_f86c9 wk_663 ⟨rfl, rfl, Nat.le_of_ble_eq_true rfl, Nat.le_of_ble_eq_true rfl⟩ ⟨Nat.le_of_ble_eq_true rfl, Nat.le_of_ble_eq_true rfl⟩ rfl rfl (Nat.le_of_ble_eq_true rfl) dX5_narrow_28 ?_
      refine (show V p l e (k2_rm 1 27) s m args below meth c (inW (ccells g ad w)) (EN below args s g (ccells g ad w) (ccells g ad rr.2) (some (.int rr.1))) g 11 (ccells g ad w) 0 0 31 [(0, .ref (ad 21)), (1, .int a0), (2, .int a1), (3, .int a2), (4, .long a3), (6, .long a4), (8, .int a5)] [.long r28] from ?_)
      refine v_lneg hG dX5_narrow_31 ?_
      refine v_sub [(0, _), (1, _), (2, _), (3, _), (8, _)] [0, 1, 2, 3, 6] rfl ?_
      exact j32 w (-r28) hf
    · refine v_lload hG 4 rfl dX5_narrow_13 ?_
      refine v_lload hG 5 rfl dX5_narrow_15 ?_
      obtain ⟨r17, hr17, hf⟩ := bd_some hf
      refine v_callP hG (st := []) (ct_J9_floorDiv_f86c9 l g a3 a4 r17 hr17) sw_J9_floorDiv_f86c9 wk_663 ⟨rfl, rfl, Nat.le_of_ble_eq_true rfl, Nat.le_of_ble_eq_true rfl⟩ ⟨Nat.le_of_ble_eq_true rfl, Nat.le_of_ble_eq_true rfl⟩ rfl rfl (Nat.le_of_ble_eq_true rfl) dX5_narrow_17 ?_
      refine (show V p l e (k2_rm 1 27) s m args below meth c (inW (ccells g ad w)) (EN below args s g (ccells g ad w) (ccells g ad rr.2) (some (.int rr.1))) g 11 (ccells g ad w) 0 0 20 [(0, .ref (ad 21)), (1, .int a0), (2, .int a1), (3, .int a2), (4, .long a3), (6, .long a4), (8, .int a5)] [.long r17] from ?_)
      refine v_goto hG 32 dX5_narrow_20 rfl ?_
      refine v_sub [(0, _), (1, _), (2, _), (3, _), (8, _)] [0, 1, 2, 3, 6] rfl ?_
      exact j32 w r17 hf
  · refine v_iconst hG (v := 1) (by decide) dX5_narrow_7 ?_
    cases hf
    exact v_zret (x := 1) hG hr rfl dX5_narrow_8
def X5_turnBack_J41  (j41_0 : CW) (j41_1 : Int32) (j41_2 : Int32) (j41_3 : Int64) : Option ((CW × Int32) ⊕ ((CW))) := (if inR j41_2 12 = true then (bnd (sC_turned j41_0 (vp_updL (gC_turned j41_0) j41_2.toNatClampNeg j41_3)) (fun w41 : CW => (some (.inl (w41, (j41_1 + 1)))))) else none)
def X5_turnBack_L2  (s2 : CW × Int32) : Option ((CW × Int32) ⊕ ((CW))) := (if (gT_columns (gC_tab s2.1)) ≤ s2.2 then (some (.inr s2.1)) else ((X6_isThere (gC_tab s2.1) s2.2).bind (fun r20 : Int32 => (if r20 = 0 then (if inR s2.2 12 = true then (X5_turnBack_J41 s2.1 s2.2 s2.2 ((gT_low (gC_tab s2.1)) s2.2.toNatClampNeg)) else none) else (if inR s2.2 12 = true then (X5_turnBack_J41 s2.1 s2.2 s2.2 ((gC_putNumbers s2.1) s2.2.toNatClampNeg)) else none)))))
def X5_turnBack_L70 (s55 : CW × Int32) (s70 : Int64 × Int32) : Option ((Int64 × Int32) ⊕ ((Int64))) := (if (gT_columns (gC_tab s55.1)) ≤ s70.2 then (some (.inr s70.1)) else (if inR s55.2 12 = true then (if inR s70.2 12 = true then (if inR s70.2 12 = true then (some (.inl ((s70.1 + (((gC_putInFactors s55.1) s55.2.toNatClampNeg s70.2.toNatClampNeg) * ((gC_turned s55.1) s70.2.toNatClampNeg))), (s70.2 + 1)))) else none) else none) else none))
def X5_turnBack_L55  (s55 : CW × Int32) : Option ((CW × Int32) ⊕ ((CW))) := (if s55.2 < 0 then (some (.inr s55.1)) else (if inR s55.2 12 = true then ((iter (X5_turnBack_L70 s55) 5000 (((gC_putInShift s55.1) s55.2.toNatClampNeg), 0)).bind (fun z70 : (Int64) => (if inR s55.2 12 = true then (if inR ((gC_putInColumn s55.1) s55.2.toNatClampNeg) 12 = true then (bnd (sC_turned s55.1 (vp_updL (gC_turned s55.1) ((gC_putInColumn s55.1) s55.2.toNatClampNeg).toNatClampNeg z70)) (fun w116 : CW => (some (.inl (w116, (s55.2 + (-1))))))) else none) else none))) else none))
def X5_turnBack (w : CW) : Option (CW) := ((iter (X5_turnBack_L2) 5000 (w, 0)).bind (fun z2 : (CW) => ((iter (X5_turnBack_L55) 5000 (z2, ((gC_putIns z2) - 1))).bind (fun z55 : (CW) => (some z55)))))
set_option maxRecDepth 100000 in
set_option maxHeartbeats 4000000 in
theorem ct_X5_turnBack (l : Launch) (g : wG) (ad : Nat → Nat) (w : CW)  (rr : CW) (hf : X5_turnBack w = some rr) : MetN l g yX5_turnBack cX5_turnBack 7 none (k2_rm 1 21) [.ref (ad 21), .ref (ad 70), .ref (ad 71)] (ccells g ad w) (ccells g ad rr) none := by
  refine MetN.of2 [(0, .ref (ad 21)), (1, .ref (ad 70)), (2, .ref (ad 71))] rfl (by decide +kernel) (Nat.le_of_ble_eq_true rfl) ?_
  intro p e s m args below meth c hG hr
  unfold X5_turnBack at hf
  refine v_iconst hG (v := 0) (by decide) dX5_turnBack_0 ?_
  refine v_istore_n hG [(3, _), (0, _), (1, _), (2, _)] dX5_turnBack_1 rfl (by decide) rfl ?_
  refine v_sub [(0, _), (1, _), (2, _), (3, _)] [1, 2, 3, 0] rfl ?_
  obtain ⟨z2, hlz2, hf⟩ := bd_some hf
  refine loop_v (step := X5_turnBack_L2) (fun s2 : CW × Int32 => V p l e (k2_rm 1 21) s m args below meth c (inW (ccells g ad w)) (EN below args s g (ccells g ad w) (ccells g ad rr) none) g 7 (ccells g ad s2.1) 0 0 2 [(0, .ref (ad 21)), (1, .ref (ad 70)), (2, .ref (ad 71)), (3, .int s2.2)] []) (fun z2_q : (CW) => V p l e (k2_rm 1 21) s m args below meth c (inW (ccells g ad w)) (EN below args s g (ccells g ad w) (ccells g ad rr) none) g 7 (ccells g ad z2_q) 0 0 48 [(0, .ref (ad 21)), (2, .ref (ad 71))] []) ?_ 5000 (w, 0) z2 hlz2 ?_
  · intro s2 rL hf hin hout
    unfold X5_turnBack_L2 at hf
    have j41 : ∀ (j41_0 : CW) (j41_1 : Int32) (j41_2 : Int32) (j41_3 : Int64), X5_turnBack_J41 j41_0 j41_1 j41_2 j41_3 = some rL → V p l e (k2_rm 1 21) s m args below meth c (inW (ccells g ad w)) (EN below args s g (ccells g ad w) (ccells g ad rr) none) g 7 (ccells g ad j41_0) 0 0 41 [(0, .ref (ad 21)), (1, .ref (ad 70)), (2, .ref (ad 71)), (3, .int j41_1)] [.long j41_3, .int j41_2, .ref (ad 71)] := by
      intro j41_0 j41_1 j41_2 j41_3 hf
      unfold X5_turnBack_J41 at hf
      refine c_s_71 hG dX5_turnBack_41 hf (fun w41 hf => ?_)
      refine v_iinc hG 3 (v := j41_1 + 1) [(3, _), (0, _), (1, _), (2, _)] dX5_turnBack_42 rfl rfl (by decide) rfl ?_
      refine v_goto hG 2 dX5_turnBack_45 rfl ?_
      refine v_sub [(0, _), (1, _), (2, _), (3, _)] [1, 2, 3, 0] rfl ?_
      exact hin _ (Option.some.inj hf).symm
    refine v_iload_n hG 3 rfl rfl dX5_turnBack_2 ?_
    refine v_aload_n hG 0 rfl rfl dX5_turnBack_3 ?_
    refine c_g_21_0 hG wk_219 dX5_turnBack_4 ?_
    refine c_g_22_7 hG wk_161 dX5_turnBack_7 ?_
    refine v_icmp_ge hG 48 dX5_turnBack_10 rfl hf (fun hf => ?_) (fun hf => ?_)
    · refine v_sub [(0, _), (2, _)] [0, 2] rfl ?_
      exact hout _ (Option.some.inj hf).symm
    · refine v_aload_n hG 2 rfl rfl dX5_turnBack_13 ?_
      refine v_iload_n hG 3 rfl rfl dX5_turnBack_14 ?_
      refine v_aload_n hG 0 rfl rfl dX5_turnBack_15 ?_
      refine c_g_21_0 hG wk_219 dX5_turnBack_16 ?_
      refine v_iload_n hG 3 rfl rfl dX5_turnBack_19 ?_
      obtain ⟨r20, hr20, hf⟩ := bd_some hf
      refine v_callV hG (st := [.int s2.2, .ref (ad 71)]) 22 6 (ct_X6_isThere_s l g ad s2.1 s2.2 r20 hr20) iw_X6_isThere wk_1003 rfl rfl ⟨rfl, rfl, Nat.le_of_ble_eq_true rfl, Nat.le_of_ble_eq_true rfl⟩ ⟨Nat.le_of_ble_eq_true rfl, Nat.le_of_ble_eq_true rfl⟩ rfl rfl (Nat.le_of_ble_eq_true rfl) (ccells_fst _ _ _ _) dX5_turnBack_20 ?_
      refine (show V p l e (k2_rm 1 21) s m args below meth c (inW (ccells g ad w)) (EN below args s g (ccells g ad w) (ccells g ad rr) none) g 7 (ccells g ad s2.1) 0 0 23 [(0, .ref (ad 21)), (1, .ref (ad 70)), (2, .ref (ad 71)), (3, .int s2.2)] [.int r20, .int s2.2, .ref (ad 71)] from ?_)
      refine v_if_eq hG 32 dX5_turnBack_23 rfl hf (fun hf => ?_) (fun hf => ?_)
      · refine v_aload_n hG 0 rfl rfl dX5_turnBack_32 ?_
        refine c_g_21_0 hG wk_219 dX5_turnBack_33 ?_
        refine c_g_22_0 hG wk_119 dX5_turnBack_36 ?_
        refine v_iload_n hG 3 rfl rfl dX5_turnBack_39 ?_
        refine c_l_23 hG dX5_turnBack_40 hf (fun hf => ?_)
        exact j41 s2.1 s2.2 s2.2 ((gT_low (gC_tab s2.1)) s2.2.toNatClampNeg) hf
      · refine v_aload_n hG 1 rfl rfl dX5_turnBack_26 ?_
        refine v_iload_n hG 3 rfl rfl dX5_turnBack_27 ?_
        refine c_l_70 hG dX5_turnBack_28 hf (fun hf => ?_)
        refine v_goto hG 41 dX5_turnBack_29 rfl ?_
        exact j41 s2.1 s2.2 s2.2 ((gC_putNumbers s2.1) s2.2.toNatClampNeg) hf
  · show V p l e (k2_rm 1 21) s m args below meth c (inW (ccells g ad w)) (EN below args s g (ccells g ad w) (ccells g ad rr) none) g 7 (ccells g ad z2) 0 0 48 [(0, .ref (ad 21)), (2, .ref (ad 71))] []
    refine v_aload_n hG 0 rfl rfl dX5_turnBack_48 ?_
    refine c_g_21_11 hG wk_251 dX5_turnBack_49 ?_
    refine v_iconst hG (v := 1) (by decide) dX5_turnBack_52 ?_
    refine v_isub hG dX5_turnBack_53 ?_
    refine v_istore_n hG [(3, _), (0, _), (2, _)] dX5_turnBack_54 rfl (by decide) rfl ?_
    refine v_sub [(0, _), (2, _), (3, _)] [1, 2, 0] rfl ?_
    obtain ⟨z55, hlz55, hf⟩ := bd_some hf
    refine loop_v (step := X5_turnBack_L55) (fun s55 : CW × Int32 => V p l e (k2_rm 1 21) s m args below meth c (inW (ccells g ad w)) (EN below args s g (ccells g ad w) (ccells g ad rr) none) g 7 (ccells g ad s55.1) 0 0 55 [(0, .ref (ad 21)), (2, .ref (ad 71)), (3, .int s55.2)] []) (fun z55_q : (CW) => V p l e (k2_rm 1 21) s m args below meth c (inW (ccells g ad w)) (EN below args s g (ccells g ad w) (ccells g ad rr) none) g 7 (ccells g ad z55_q) 0 0 123 [] []) ?_ 5000 (z2, ((gC_putIns z2) - 1)) z55 hlz55 ?_
    · intro s55 rL hf hin hout
      unfold X5_turnBack_L55 at hf
      refine v_iload_n hG 2 rfl rfl dX5_turnBack_55 ?_
      refine v_if_lt hG 123 dX5_turnBack_56 rfl hf (fun hf => ?_) (fun hf => ?_)
      · refine v_sub [] [] rfl ?_
        exact hout _ (Option.some.inj hf).symm
      · refine v_aload_n hG 0 rfl rfl dX5_turnBack_59 ?_
        refine c_g_21_9 hG wk_247 dX5_turnBack_60 ?_
        refine v_iload_n hG 2 rfl rfl dX5_turnBack_63 ?_
        refine c_l_48 hG dX5_turnBack_64 hf (fun hf => ?_)
        refine v_lstore hG [(4, _), (0, _), (2, _), (3, _)] dX5_turnBack_65 (by decide) rfl ?_
        refine v_iconst hG (v := 0) (by decide) dX5_turnBack_67 ?_
        refine v_istore hG [(6, _), (4, _), (0, _), (2, _), (3, _)] dX5_turnBack_68 (by decide) rfl ?_
        refine v_sub [(0, _), (2, _), (3, _), (4, _), (6, _)] [2, 3, 4, 1, 0] rfl ?_
        obtain ⟨z70, hlz70, hf⟩ := bd_some hf
        refine loop_v (step := X5_turnBack_L70 s55) (fun s70 : Int64 × Int32 => V p l e (k2_rm 1 21) s m args below meth c (inW (ccells g ad w)) (EN below args s g (ccells g ad w) (ccells g ad rr) none) g 7 (ccells g ad s55.1) 0 0 70 [(0, .ref (ad 21)), (2, .ref (ad 71)), (3, .int s55.2), (4, .long s70.1), (6, .int s70.2)] []) (fun z70_q : (Int64) => V p l e (k2_rm 1 21) s m args below meth c (inW (ccells g ad w)) (EN below args s g (ccells g ad w) (ccells g ad rr) none) g 7 (ccells g ad s55.1) 0 0 107 [(0, .ref (ad 21)), (2, .ref (ad 71)), (3, .int s55.2), (4, .long z70_q)] []) ?_ 5000 (((gC_putInShift s55.1) s55.2.toNatClampNeg), 0) z70 hlz70 ?_
        · intro s70 rL hf hin hout
          unfold X5_turnBack_L70 at hf
          refine v_iload hG 4 rfl dX5_turnBack_70 ?_
          refine v_aload_n hG 0 rfl rfl dX5_turnBack_72 ?_
          refine c_g_21_0 hG wk_219 dX5_turnBack_73 ?_
          refine c_g_22_7 hG wk_161 dX5_turnBack_76 ?_
          refine v_icmp_ge hG 107 dX5_turnBack_79 rfl hf (fun hf => ?_) (fun hf => ?_)
          · refine v_sub [(0, _), (2, _), (3, _), (4, _)] [0, 1, 2, 3] rfl ?_
            exact hout _ (Option.some.inj hf).symm
          · refine v_lload hG 3 rfl dX5_turnBack_82 ?_
            refine v_aload_n hG 0 rfl rfl dX5_turnBack_84 ?_
            refine c_g_21_10 hG wk_249 dX5_turnBack_85 ?_
            refine v_iload_n hG 2 rfl rfl dX5_turnBack_88 ?_
            refine c_o_49 hG dX5_turnBack_89 hf (fun hi89 hf => ?_)
            refine v_iload hG 4 rfl dX5_turnBack_90 ?_
            refine c_rl_49 hG hi89 dX5_turnBack_92 hf (fun hf => ?_)
            refine v_aload_n hG 1 rfl rfl dX5_turnBack_93 ?_
            refine v_iload hG 4 rfl dX5_turnBack_94 ?_
            refine c_l_71 hG dX5_turnBack_96 hf (fun hf => ?_)
            refine v_lmul hG dX5_turnBack_97 ?_
            refine v_ladd hG dX5_turnBack_98 ?_
            refine v_lstore hG [(4, _), (0, _), (2, _), (3, _), (6, _)] dX5_turnBack_99 (by decide) rfl ?_
            refine v_iinc hG 4 (v := s70.2 + 1) [(6, _), (4, _), (0, _), (2, _), (3, _)] dX5_turnBack_101 rfl rfl (by decide) rfl ?_
            refine v_goto hG 70 dX5_turnBack_104 rfl ?_
            refine v_sub [(0, _), (2, _), (3, _), (4, _), (6, _)] [2, 3, 4, 1, 0] rfl ?_
            exact hin _ (Option.some.inj hf).symm
        · show V p l e (k2_rm 1 21) s m args below meth c (inW (ccells g ad w)) (EN below args s g (ccells g ad w) (ccells g ad rr) none) g 7 (ccells g ad s55.1) 0 0 107 [(0, .ref (ad 21)), (2, .ref (ad 71)), (3, .int s55.2), (4, .long z70)] []
          refine v_aload_n hG 1 rfl rfl dX5_turnBack_107 ?_
          refine v_aload_n hG 0 rfl rfl dX5_turnBack_108 ?_
          refine c_g_21_8 hG wk_245 dX5_turnBack_109 ?_
          refine v_iload_n hG 2 rfl rfl dX5_turnBack_112 ?_
          refine c_l_47 hG dX5_turnBack_113 hf (fun hf => ?_)
          refine v_lload hG 3 rfl dX5_turnBack_114 ?_
          refine c_s_71 hG dX5_turnBack_116 hf (fun w116 hf => ?_)
          refine v_iinc hG 2 (v := s55.2 + (-1)) [(3, _), (0, _), (2, _), (4, _)] dX5_turnBack_117 rfl rfl (by decide) rfl ?_
          refine v_goto hG 55 dX5_turnBack_120 rfl ?_
          refine v_sub [(0, _), (2, _), (3, _)] [1, 2, 0] rfl ?_
          exact hin _ (Option.some.inj hf).symm
    · show V p l e (k2_rm 1 21) s m args below meth c (inW (ccells g ad w)) (EN below args s g (ccells g ad w) (ccells g ad rr) none) g 7 (ccells g ad z55) 0 0 123 [] []
      cases hf
      exact v_vret hG hr dX5_turnBack_123
