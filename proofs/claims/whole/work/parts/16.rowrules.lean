def X4_leaveEmpty (w : CW) (a0 : Int32) : Option (Int32 × CW) := ((X6_nextTerm (gC_tab w) a0 0).bind (fun r6 : Int32 => (if r6 = (-1) then ((X6_isHolding (gC_tab w) a0 0).bind (fun r21 : Int32 => (if r21 = 0 then (if inR a0 12 = true then ((X5_endAll w ((gC_rowRest w) a0.toNatClampNeg)).bind (fun r40 : Int32 × CW => (if isB r40.1 = true then some (r40.1, r40.2) else none))) else none) else ((X5_leaveOut w a0).bind (fun r49 : CW => (some (1, r49))))))) else (some (1, w)))))
set_option maxRecDepth 100000 in
set_option maxHeartbeats 4000000 in
theorem ct_X4_leaveEmpty (l : Launch) (g : wG) (ad : Nat → Nat) (w : CW) (a0 : Int32) (rr : Int32 × CW) (hf : X4_leaveEmpty w a0 = some rr) : MetN l g yX4_leaveEmpty cX4_leaveEmpty 2 (some .boolean) (k2_rm 2 48) [.ref (ad 63), .int a0] (ccells g ad w) (ccells g ad rr.2) (some (.int rr.1)) := by
  refine MetN.of2 [(0, .ref (ad 63)), (1, .int a0)] rfl (by decide +kernel) (Nat.le_of_ble_eq_true rfl) ?_
  intro p e s m args below meth c hG hr
  unfold X4_leaveEmpty at hf
  refine v_aload_n hG 0 rfl rfl dX4_leaveEmpty_0 ?_
  refine c_g_63_1 hG wk_291 dX4_leaveEmpty_1 ?_
  refine v_iload_n hG 1 rfl rfl dX4_leaveEmpty_4 ?_
  refine v_iconst hG (v := 0) (by decide) dX4_leaveEmpty_5 ?_
  obtain ⟨r6, hr6, hf⟩ := bd_some hf
  refine v_callV hG (st := []) 22 6 (ct_X6_nextTerm_s l g ad w a0 0 r6 hr6) iw_X6_nextTerm wk_601 rfl rfl ⟨rfl, rfl, Nat.le_of_ble_eq_true rfl, Nat.le_of_ble_eq_true rfl⟩ ⟨Nat.le_of_ble_eq_true rfl, Nat.le_of_ble_eq_true rfl⟩ rfl rfl (Nat.le_of_ble_eq_true rfl) (ccells_fst _ _ _ _) dX4_leaveEmpty_6 ?_
  refine (show V p l e (k2_rm 2 48) s m args below meth c (inW (ccells g ad w)) (EN below args s g (ccells g ad w) (ccells g ad rr.2) (some (.int rr.1))) g 2 (ccells g ad w) 0 0 9 [(0, .ref (ad 63)), (1, .int a0)] [.int r6] from ?_)
  refine v_iconst hG (v := -1) (by decide) dX4_leaveEmpty_9 ?_
  refine v_icmp_eq hG 15 dX4_leaveEmpty_10 rfl hf (fun hf => ?_) (fun hf => ?_)
  · refine v_aload_n hG 0 rfl rfl dX4_leaveEmpty_15 ?_
    refine c_g_63_1 hG wk_291 dX4_leaveEmpty_16 ?_
    refine v_iload_n hG 1 rfl rfl dX4_leaveEmpty_19 ?_
    refine v_lconst hG (v := 0) (by decide) dX4_leaveEmpty_20 ?_
    obtain ⟨r21, hr21, hf⟩ := bd_some hf
    refine v_callV hG (st := []) 22 6 (ct_X6_isHolding_s l g ad w a0 0 r21 hr21) iw_X6_isHolding wk_605 rfl rfl ⟨rfl, rfl, Nat.le_of_ble_eq_true rfl, Nat.le_of_ble_eq_true rfl⟩ ⟨Nat.le_of_ble_eq_true rfl, Nat.le_of_ble_eq_true rfl⟩ rfl rfl (Nat.le_of_ble_eq_true rfl) (ccells_fst _ _ _ _) dX4_leaveEmpty_21 ?_
    refine (show V p l e (k2_rm 2 48) s m args below meth c (inW (ccells g ad w)) (EN below args s g (ccells g ad w) (ccells g ad rr.2) (some (.int rr.1))) g 2 (ccells g ad w) 0 0 24 [(0, .ref (ad 63)), (1, .int a0)] [.int r21] from ?_)
    refine v_if_ne hG 44 dX4_leaveEmpty_24 rfl hf (fun hf => ?_) (fun hf => ?_)
    · refine v_aload_n hG 0 rfl rfl dX4_leaveEmpty_44 ?_
      refine c_g_63_0 hG wk_290 dX4_leaveEmpty_45 ?_
      refine v_iload_n hG 1 rfl rfl dX4_leaveEmpty_48 ?_
      obtain ⟨r49, hr49, hf⟩ := bd_some hf
      refine v_callV hG (st := []) 21 5 (ct_X5_leaveOut l g ad w a0 r49 hr49) iw_X5_leaveOut wk_614 rfl rfl ⟨rfl, rfl, Nat.le_of_ble_eq_true rfl, Nat.le_of_ble_eq_true rfl⟩ ⟨Nat.le_of_ble_eq_true rfl, Nat.le_of_ble_eq_true rfl⟩ rfl rfl (Nat.le_of_ble_eq_true rfl) (ccells_fst _ _ _ _) dX4_leaveEmpty_49 ?_
      refine (show V p l e (k2_rm 2 48) s m args below meth c (inW (ccells g ad w)) (EN below args s g (ccells g ad w) (ccells g ad rr.2) (some (.int rr.1))) g 2 (ccells g ad r49) 0 0 52 [(0, .ref (ad 63)), (1, .int a0)] [] from ?_)
      refine v_iconst hG (v := 1) (by decide) dX4_leaveEmpty_52 ?_
      cases hf
      exact v_zret (x := 1) hG hr rfl dX4_leaveEmpty_53
    · refine v_aload_n hG 0 rfl rfl dX4_leaveEmpty_27 ?_
      refine c_g_63_0 hG wk_290 dX4_leaveEmpty_28 ?_
      refine v_aload_n hG 0 rfl rfl dX4_leaveEmpty_31 ?_
      refine c_g_63_0 hG wk_290 dX4_leaveEmpty_32 ?_
      refine c_g_21_1 hG wk_223 dX4_leaveEmpty_35 ?_
      refine v_iload_n hG 1 rfl rfl dX4_leaveEmpty_38 ?_
      refine c_l_42 hG dX4_leaveEmpty_39 hf (fun hf => ?_)
      obtain ⟨r40, hr40, hf⟩ := bd_some hf
      refine v_callV hG (st := []) 21 5 (ct_X5_endAll l g ad w ((gC_rowRest w) a0.toNatClampNeg) r40 hr40) iw_X5_endAll wk_610 rfl rfl ⟨rfl, rfl, Nat.le_of_ble_eq_true rfl, Nat.le_of_ble_eq_true rfl⟩ ⟨Nat.le_of_ble_eq_true rfl, Nat.le_of_ble_eq_true rfl⟩ rfl rfl (Nat.le_of_ble_eq_true rfl) (ccells_fst _ _ _ _) dX4_leaveEmpty_40 ?_
      refine (show V p l e (k2_rm 2 48) s m args below meth c (inW (ccells g ad w)) (EN below args s g (ccells g ad w) (ccells g ad rr.2) (some (.int rr.1))) g 2 (ccells g ad r40.2) 0 0 43 [(0, .ref (ad 63)), (1, .int a0)] [.int r40.1] from ?_)
      obtain ⟨hb, hf⟩ := gd_some hf
      cases hf
      exact v_zret hG hr (isB_nar hb) dX4_leaveEmpty_43
  · refine v_iconst hG (v := 1) (by decide) dX4_leaveEmpty_13 ?_
    cases hf
    exact v_zret (x := 1) hG hr rfl dX4_leaveEmpty_14
def X4_greatestDivisor_L9  (s9 : Int64 × Int64 × Int32) : Option ((Int64 × Int64 × Int32) ⊕ ((Int64))) := (if 100 ≤ s9.2.2 then (some (.inr s9.1)) else (if s9.2.1 = 0 then (some (.inr s9.1)) else (if s9.2.1 = 0 then none else (some (.inl (s9.2.1, (s9.1 - s9.1 / s9.2.1 * s9.2.1), (s9.2.2 + 1)))))))
def X4_greatestDivisor (a0 : Int64) (a1 : Int64) : Option (Int64) := ((iter (X4_greatestDivisor_L9) 5000 (a0, a1, 0)).bind (fun z9 : (Int64) => (some z9)))
set_option maxRecDepth 100000 in
set_option maxHeartbeats 4000000 in
theorem ct_X4_greatestDivisor (l : Launch) (g : wG) (a0 : Int64) (a1 : Int64) (rr : Int64) (hf : X4_greatestDivisor a0 a1 = some rr) : MetN l g yX4_greatestDivisor cX4_greatestDivisor 11 (some .long) (k2_rm 0 0) [.long a0, .long a1] [] [] (some (.long rr)) := by
  refine MetN.of2 [(0, .long a0), (2, .long a1)] rfl (by decide +kernel) (Nat.le_of_ble_eq_true rfl) ?_
  intro p e s m args below meth c hG hr
  unfold X4_greatestDivisor at hf
  refine v_lload_n hG 0 rfl rfl dX4_greatestDivisor_0 ?_
  refine v_lstore hG [(4, _), (0, _), (2, _)] dX4_greatestDivisor_1 (by decide) rfl ?_
  refine v_lload_n hG 2 rfl rfl dX4_greatestDivisor_3 ?_
  refine v_lstore hG [(6, _), (4, _), (0, _), (2, _)] dX4_greatestDivisor_4 (by decide) rfl ?_
  refine v_iconst hG (v := 0) (by decide) dX4_greatestDivisor_6 ?_
  refine v_istore hG [(8, _), (6, _), (4, _), (0, _), (2, _)] dX4_greatestDivisor_7 (by decide) rfl ?_
  refine v_sub [(4, _), (6, _), (8, _)] [2, 1, 0] rfl ?_
  obtain ⟨z9, hlz9, hf⟩ := bd_some hf
  refine loop_v (step := X4_greatestDivisor_L9) (fun s9 : Int64 × Int64 × Int32 => V p l e (k2_rm 0 0) s m args below meth c (inW []) (EN below args s g [] [] (some (.long rr))) g 11 [] 0 0 9 [(4, .long s9.1), (6, .long s9.2.1), (8, .int s9.2.2)] []) (fun z9_q : (Int64) => V p l e (k2_rm 0 0) s m args below meth c (inW []) (EN below args s g [] [] (some (.long rr))) g 11 [] 0 0 44 [(4, .long z9_q)] []) ?_ 5000 (a0, a1, 0) z9 hlz9 ?_
  · intro s9 rL hf hin hout
    unfold X4_greatestDivisor_L9 at hf
    refine v_iload hG 2 rfl dX4_greatestDivisor_9 ?_
    refine v_bipush hG (v := 100) (by decide) dX4_greatestDivisor_11 ?_
    refine v_icmp_ge hG 44 dX4_greatestDivisor_13 rfl hf (fun hf => ?_) (fun hf => ?_)
    · refine v_sub [(4, _)] [0] rfl ?_
      exact hout _ (Option.some.inj hf).symm
    · refine v_lload hG 1 rfl dX4_greatestDivisor_16 ?_
      refine v_lconst hG (v := 0) (by decide) dX4_greatestDivisor_18 ?_
      refine v_lcmp_eq hG 44 dX4_greatestDivisor_19 dX4_greatestDivisor_20 rfl hf (fun hf => ?_) (fun hf => ?_)
      · refine v_sub [(4, _)] [0] rfl ?_
        exact hout _ (Option.some.inj hf).symm
      · refine v_lload hG 0 rfl dX4_greatestDivisor_23 ?_
        refine v_lload hG 1 rfl dX4_greatestDivisor_25 ?_
        refine v_lrem hG dX4_greatestDivisor_27 hf (fun hf => ?_)
        refine v_lstore hG [(9, _), (4, _), (6, _), (8, _)] dX4_greatestDivisor_28 (by decide) rfl ?_
        refine v_lload hG 2 rfl dX4_greatestDivisor_30 ?_
        refine v_lstore hG [(4, _), (9, _), (6, _), (8, _)] dX4_greatestDivisor_32 (by decide) rfl ?_
        refine v_lload hG 1 rfl dX4_greatestDivisor_34 ?_
        refine v_lstore hG [(6, _), (4, _), (9, _), (8, _)] dX4_greatestDivisor_36 (by decide) rfl ?_
        refine v_iinc hG 3 (v := s9.2.2 + 1) [(8, _), (6, _), (4, _), (9, _)] dX4_greatestDivisor_38 rfl rfl (by decide) rfl ?_
        refine v_goto hG 9 dX4_greatestDivisor_41 rfl ?_
        refine v_sub [(4, _), (6, _), (8, _)] [2, 1, 0] rfl ?_
        exact hin _ (Option.some.inj hf).symm
  · show V p l e (k2_rm 0 0) s m args below meth c (inW []) (EN below args s g [] [] (some (.long rr))) g 11 [] 0 0 44 [(4, .long z9)] []
    refine v_lload hG 0 rfl dX4_greatestDivisor_44 ?_
    cases hf
    exact v_lret hG hr dX4_greatestDivisor_46
def X4_sharedDivisor_L5 (w : CW) (a0 : Int32) (s5 : Int64 × Int32) : Option ((Int64 × Int32) ⊕ ((Int64))) := (if (gT_columns (gC_tab w)) ≤ s5.2 then (some (.inr s5.1)) else (if inR a0 12 = true then (if inR s5.2 12 = true then ((J9_abs_067f4 ((gT_a (gC_tab w)) a0.toNatClampNeg s5.2.toNatClampNeg)).bind (fun r30 : Int64 => ((X4_greatestDivisor s5.1 r30).bind (fun r33 : Int64 => (some (.inl (r33, (s5.2 + 1)))))))) else none) else none))
def X4_sharedDivisor (w : CW) (a0 : Int32) : Option (Int64) := ((iter (X4_sharedDivisor_L5 w a0) 5000 (0, 0)).bind (fun z5 : (Int64) => (some z5)))
set_option maxRecDepth 100000 in
set_option maxHeartbeats 4000000 in
theorem ct_X4_sharedDivisor (l : Launch) (g : wG) (ad : Nat → Nat) (w : CW) (a0 : Int32) (rr : Int64) (hf : X4_sharedDivisor w a0 = some rr) : MetN l g yX4_sharedDivisor cX4_sharedDivisor 5 (some .long) (k2_rm 1 30) [.ref (ad 63), .int a0] (ccells g ad w) (ccells g ad w) (some (.long rr)) := by
  refine MetN.of2 [(0, .ref (ad 63)), (1, .int a0)] rfl (by decide +kernel) (Nat.le_of_ble_eq_true rfl) ?_
  intro p e s m args below meth c hG hr
  unfold X4_sharedDivisor at hf
  refine v_lconst hG (v := 0) (by decide) dX4_sharedDivisor_0 ?_
  refine v_lstore_n hG [(2, _), (0, _), (1, _)] dX4_sharedDivisor_1 rfl (by decide) rfl ?_
  refine v_iconst hG (v := 0) (by decide) dX4_sharedDivisor_2 ?_
  refine v_istore hG [(4, _), (2, _), (0, _), (1, _)] dX4_sharedDivisor_3 (by decide) rfl ?_
  refine v_sub [(0, _), (1, _), (2, _), (4, _)] [2, 3, 1, 0] rfl ?_
  obtain ⟨z5, hlz5, hf⟩ := bd_some hf
  refine loop_v (step := X4_sharedDivisor_L5 w a0) (fun s5 : Int64 × Int32 => V p l e (k2_rm 1 30) s m args below meth c (inW (ccells g ad w)) (EN below args s g (ccells g ad w) (ccells g ad w) (some (.long rr))) g 5 (ccells g ad w) 0 0 5 [(0, .ref (ad 63)), (1, .int a0), (2, .long s5.1), (4, .int s5.2)] []) (fun z5_q : (Int64) => V p l e (k2_rm 1 30) s m args below meth c (inW (ccells g ad w)) (EN below args s g (ccells g ad w) (ccells g ad w) (some (.long rr))) g 5 (ccells g ad w) 0 0 43 [(2, .long z5_q)] []) ?_ 5000 (0, 0) z5 hlz5 ?_
  · intro s5 rL hf hin hout
    unfold X4_sharedDivisor_L5 at hf
    refine v_iload hG 3 rfl dX4_sharedDivisor_5 ?_
    refine v_aload_n hG 0 rfl rfl dX4_sharedDivisor_7 ?_
    refine c_g_63_1 hG wk_291 dX4_sharedDivisor_8 ?_
    refine c_g_22_7 hG wk_159 dX4_sharedDivisor_11 ?_
    refine v_icmp_ge hG 43 dX4_sharedDivisor_14 rfl hf (fun hf => ?_) (fun hf => ?_)
    · refine v_sub [(2, _)] [2] rfl ?_
      exact hout _ (Option.some.inj hf).symm
    · refine v_lload_n hG 2 rfl rfl dX4_sharedDivisor_17 ?_
      refine v_aload_n hG 0 rfl rfl dX4_sharedDivisor_18 ?_
      refine c_g_63_1 hG wk_291 dX4_sharedDivisor_19 ?_
      refine c_g_22_6 hG wk_150 dX4_sharedDivisor_22 ?_
      refine v_iload_n hG 1 rfl rfl dX4_sharedDivisor_25 ?_
      refine c_o_29 hG dX4_sharedDivisor_26 hf (fun hi26 hf => ?_)
      refine v_iload hG 3 rfl dX4_sharedDivisor_27 ?_
      refine c_rl_29 hG hi26 dX4_sharedDivisor_29 hf (fun hf => ?_)
      obtain ⟨r30, hr30, hf⟩ := bd_some hf
      refine v_callP hG (st := [.long s5.1]) (ct_J9_abs_067f4 l g ((gT_a (gC_tab w)) a0.toNatClampNeg s5.2.toNatClampNeg) r30 hr30) sw_J9_abs_067f4 wk_630 ⟨rfl, rfl, Nat.le_of_ble_eq_true rfl, Nat.le_of_ble_eq_true rfl⟩ ⟨Nat.le_of_ble_eq_true rfl, Nat.le_of_ble_eq_true rfl⟩ rfl rfl (Nat.le_of_ble_eq_true rfl) dX4_sharedDivisor_30 ?_
      refine (show V p l e (k2_rm 1 30) s m args below meth c (inW (ccells g ad w)) (EN below args s g (ccells g ad w) (ccells g ad w) (some (.long rr))) g 5 (ccells g ad w) 0 0 33 [(0, .ref (ad 63)), (1, .int a0), (2, .long s5.1), (4, .int s5.2)] [.long r30, .long s5.1] from ?_)
      obtain ⟨r33, hr33, hf⟩ := bd_some hf
      refine v_callP hG (st := []) (ct_X4_greatestDivisor l g s5.1 r30 r33 hr33) sw_X4_greatestDivisor wk_633 ⟨rfl, rfl, Nat.le_of_ble_eq_true rfl, Nat.le_of_ble_eq_true rfl⟩ ⟨Nat.le_of_ble_eq_true rfl, Nat.le_of_ble_eq_true rfl⟩ rfl rfl (Nat.le_of_ble_eq_true rfl) dX4_sharedDivisor_33 ?_
      refine (show V p l e (k2_rm 1 30) s m args below meth c (inW (ccells g ad w)) (EN below args s g (ccells g ad w) (ccells g ad w) (some (.long rr))) g 5 (ccells g ad w) 0 0 36 [(0, .ref (ad 63)), (1, .int a0), (2, .long s5.1), (4, .int s5.2)] [.long r33] from ?_)
      refine v_lstore_n hG [(2, _), (0, _), (1, _), (4, _)] dX4_sharedDivisor_36 rfl (by decide) rfl ?_
      refine v_iinc hG 3 (v := s5.2 + 1) [(4, _), (2, _), (0, _), (1, _)] dX4_sharedDivisor_37 rfl rfl (by decide) rfl ?_
      refine v_goto hG 5 dX4_sharedDivisor_40 rfl ?_
      refine v_sub [(0, _), (1, _), (2, _), (4, _)] [2, 3, 1, 0] rfl ?_
      exact hin _ (Option.some.inj hf).symm
  · show V p l e (k2_rm 1 30) s m args below meth c (inW (ccells g ad w)) (EN below args s g (ccells g ad w) (ccells g ad w) (some (.long rr))) g 5 (ccells g ad w) 0 0 43 [(2, .long z5)] []
    refine v_lload_n hG 0 rfl rfl dX4_sharedDivisor_43 ?_
    cases hf
    exact v_lret hG hr dX4_sharedDivisor_44
def X4_divide_L10 (a0 : Int32) (a1 : Int64) (s10 : CW × Int32) : Option ((CW × Int32) ⊕ ((CW))) := (if (gT_columns (gC_tab s10.1)) ≤ s10.2 then (some (.inr s10.1)) else (if inR a0 12 = true then (if inR s10.2 12 = true then (if a1 = 0 then none else (if inR s10.2 12 = true then (bnd (sC_tab s10.1 (sT_a (gC_tab s10.1) (va_up (gT_a (gC_tab s10.1)) a0.toNatClampNeg (vp_updL ((gT_a (gC_tab s10.1)) a0.toNatClampNeg) s10.2.toNatClampNeg (((gT_a (gC_tab s10.1)) a0.toNatClampNeg s10.2.toNatClampNeg) / a1))))) (fun w37 : CW => (some (.inl (w37, (s10.2 + 1)))))) else none)) else none) else none))
def X4_divide (w : CW) (a0 : Int32) (a1 : Int64) : Option (CW) := (if a1 = 0 then (some w) else ((iter (X4_divide_L10 a0 a1) 5000 (w, 0)).bind (fun z10 : (CW) => (if inR a0 12 = true then ((J9_floorDiv_f86c9 ((gT_right (gC_tab z10)) a0.toNatClampNeg) a1).bind (fun r62 : Int64 => (if inR a0 12 = true then (bnd (sC_tab z10 (sT_right (gC_tab z10) (vp_updL (gT_right (gC_tab z10)) a0.toNatClampNeg r62))) (fun w65 : CW => (some w65))) else none))) else none))))
set_option maxRecDepth 100000 in
set_option maxHeartbeats 4000000 in
theorem ct_X4_divide (l : Launch) (g : wG) (ad : Nat → Nat) (w : CW) (a0 : Int32) (a1 : Int64) (rr : CW) (hf : X4_divide w a0 a1 = some rr) : MetN l g yX4_divide cX4_divide 5 none (k2_rm 1 25) [.ref (ad 63), .int a0, .long a1] (ccells g ad w) (ccells g ad rr) none := by
  refine MetN.of2 [(0, .ref (ad 63)), (1, .int a0), (2, .long a1)] rfl (by decide +kernel) (Nat.le_of_ble_eq_true rfl) ?_
  intro p e s m args below meth c hG hr
  unfold X4_divide at hf
  refine v_lload_n hG 2 rfl rfl dX4_divide_0 ?_
  refine v_lconst hG (v := 0) (by decide) dX4_divide_1 ?_
  refine v_lcmp_ne hG 7 dX4_divide_2 dX4_divide_3 rfl hf (fun hf => ?_) (fun hf => ?_)
  · refine v_iconst hG (v := 0) (by decide) dX4_divide_7 ?_
    refine v_istore hG [(4, _), (0, _), (1, _), (2, _)] dX4_divide_8 (by decide) rfl ?_
    refine v_sub [(0, _), (1, _), (2, _), (4, _)] [1, 2, 3, 0] rfl ?_
    obtain ⟨z10, hlz10, hf⟩ := bd_some hf
    refine loop_v (step := X4_divide_L10 a0 a1) (fun s10 : CW × Int32 => V p l e (k2_rm 1 25) s m args below meth c (inW (ccells g ad w)) (EN below args s g (ccells g ad w) (ccells g ad rr) none) g 5 (ccells g ad s10.1) 0 0 10 [(0, .ref (ad 63)), (1, .int a0), (2, .long a1), (4, .int s10.2)] []) (fun z10_q : (CW) => V p l e (k2_rm 1 25) s m args below meth c (inW (ccells g ad w)) (EN below args s g (ccells g ad w) (ccells g ad rr) none) g 5 (ccells g ad z10_q) 0 0 44 [(0, .ref (ad 63)), (1, .int a0), (2, .long a1)] []) ?_ 5000 (w, 0) z10 hlz10 ?_
    · intro s10 rL hf hin hout
      unfold X4_divide_L10 at hf
      refine v_iload hG 3 rfl dX4_divide_10 ?_
      refine v_aload_n hG 0 rfl rfl dX4_divide_12 ?_
      refine c_g_63_1 hG wk_291 dX4_divide_13 ?_
      refine c_g_22_7 hG wk_159 dX4_divide_16 ?_
      refine v_icmp_ge hG 44 dX4_divide_19 rfl hf (fun hf => ?_) (fun hf => ?_)
      · refine v_sub [(0, _), (1, _), (2, _)] [0, 1, 2] rfl ?_
        exact hout _ (Option.some.inj hf).symm
      · refine v_aload_n hG 0 rfl rfl dX4_divide_22 ?_
        refine c_g_63_1 hG wk_291 dX4_divide_23 ?_
        refine c_g_22_6 hG wk_150 dX4_divide_26 ?_
        refine v_iload_n hG 1 rfl rfl dX4_divide_29 ?_
        refine c_o_29 hG dX4_divide_30 hf (fun hi30 hf => ?_)
        refine v_iload hG 3 rfl dX4_divide_31 ?_
        refine v_dup2 hG rfl rfl dX4_divide_33 ?_
        refine c_rl_29 hG hi30 dX4_divide_34 hf (fun hf => ?_)
        refine v_lload_n hG 2 rfl rfl dX4_divide_35 ?_
        refine v_ldiv hG dX4_divide_36 hf (fun hf => ?_)
        refine c_rs_29 hG hi30 dX4_divide_37 hf (fun w37 hf => ?_)
        refine v_iinc hG 3 (v := s10.2 + 1) [(4, _), (0, _), (1, _), (2, _)] dX4_divide_38 rfl rfl (by decide) rfl ?_
        refine v_goto hG 10 dX4_divide_41 rfl ?_
        refine v_sub [(0, _), (1, _), (2, _), (4, _)] [1, 2, 3, 0] rfl ?_
        exact hin _ (Option.some.inj hf).symm
    · show V p l e (k2_rm 1 25) s m args below meth c (inW (ccells g ad w)) (EN below args s g (ccells g ad w) (ccells g ad rr) none) g 5 (ccells g ad z10) 0 0 44 [(0, .ref (ad 63)), (1, .int a0), (2, .long a1)] []
      refine v_aload_n hG 0 rfl rfl dX4_divide_44 ?_
      refine c_g_63_1 hG wk_291 dX4_divide_45 ?_
      refine c_g_22_5 hG wk_144 dX4_divide_48 ?_
      refine v_iload_n hG 1 rfl rfl dX4_divide_51 ?_
      refine v_aload_n hG 0 rfl rfl dX4_divide_52 ?_
      refine c_g_63_1 hG wk_291 dX4_divide_53 ?_
      refine c_g_22_5 hG wk_144 dX4_divide_56 ?_
      refine v_iload_n hG 1 rfl rfl dX4_divide_59 ?_
      refine c_l_28 hG dX4_divide_60 hf (fun hf => ?_)
      refine v_lload_n hG 2 rfl rfl dX4_divide_61 ?_
      obtain ⟨r62, hr62, hf⟩ := bd_some hf
      refine v_callP hG (st := [.int a0, .ref (ad 28)]) (ct_J9_floorDiv_f86c9 l g ((gT_right (gC_tab z10)) a0.toNatClampNeg) a1 r62 hr62) sw_J9_floorDiv_f86c9 wk_640 ⟨rfl, rfl, Nat.le_of_ble_eq_true rfl, Nat.le_of_ble_eq_true rfl⟩ ⟨Nat.le_of_ble_eq_true rfl, Nat.le_of_ble_eq_true rfl⟩ rfl rfl (Nat.le_of_ble_eq_true rfl) dX4_divide_62 ?_
      refine (show V p l e (k2_rm 1 25) s m args below meth c (inW (ccells g ad w)) (EN below args s g (ccells g ad w) (ccells g ad rr) none) g 5 (ccells g ad z10) 0 0 65 [(0, .ref (ad 63)), (1, .int a0), (2, .long a1)] [.long r62, .int a0, .ref (ad 28)] from ?_)
      refine c_s_28 hG dX4_divide_65 hf (fun w65 hf => ?_)
      cases hf
      exact v_vret hG hr dX4_divide_66
  · cases hf
    exact v_vret hG hr dX4_divide_6
def X4_turnSigns_L2 (a0 : Int32) (s2 : CW × Int32) : Option ((CW × Int32) ⊕ ((CW))) := (if (gT_columns (gC_tab s2.1)) ≤ s2.2 then (some (.inr s2.1)) else (if inR a0 12 = true then (if inR a0 12 = true then (if inR s2.2 12 = true then (if inR s2.2 12 = true then (bnd (sC_tab s2.1 (sT_a (gC_tab s2.1) (va_up (gT_a (gC_tab s2.1)) a0.toNatClampNeg (vp_updL ((gT_a (gC_tab s2.1)) a0.toNatClampNeg) s2.2.toNatClampNeg (-((gT_a (gC_tab s2.1)) a0.toNatClampNeg s2.2.toNatClampNeg)))))) (fun w35 : CW => (some (.inl (w35, (s2.2 + 1)))))) else none) else none) else none) else none))
def X4_turnSigns (w : CW) (a0 : Int32) : Option (CW) := ((iter (X4_turnSigns_L2 a0) 5000 (w, 0)).bind (fun z2 : (CW) => (if inR a0 12 = true then (if inR a0 12 = true then (bnd (sC_tab z2 (sT_right (gC_tab z2) (vp_updL (gT_right (gC_tab z2)) a0.toNatClampNeg (-((gT_right (gC_tab z2)) a0.toNatClampNeg))))) (fun w60 : CW => (some w60))) else none) else none)))
set_option maxRecDepth 100000 in
set_option maxHeartbeats 4000000 in
theorem ct_X4_turnSigns (l : Launch) (g : wG) (ad : Nat → Nat) (w : CW) (a0 : Int32) (rr : CW) (hf : X4_turnSigns w a0 = some rr) : MetN l g yX4_turnSigns cX4_turnSigns 3 none (k2_rm 0 0) [.ref (ad 63), .int a0] (ccells g ad w) (ccells g ad rr) none := by
  refine MetN.of2 [(0, .ref (ad 63)), (1, .int a0)] rfl (by decide +kernel) (Nat.le_of_ble_eq_true rfl) ?_
  intro p e s m args below meth c hG hr
  unfold X4_turnSigns at hf
  refine v_iconst hG (v := 0) (by decide) dX4_turnSigns_0 ?_
  refine v_istore_n hG [(2, _), (0, _), (1, _)] dX4_turnSigns_1 rfl (by decide) rfl ?_
  refine v_sub [(0, _), (1, _), (2, _)] [1, 2, 0] rfl ?_
  obtain ⟨z2, hlz2, hf⟩ := bd_some hf
  refine loop_v (step := X4_turnSigns_L2 a0) (fun s2 : CW × Int32 => V p l e (k2_rm 0 0) s m args below meth c (inW (ccells g ad w)) (EN below args s g (ccells g ad w) (ccells g ad rr) none) g 3 (ccells g ad s2.1) 0 0 2 [(0, .ref (ad 63)), (1, .int a0), (2, .int s2.2)] []) (fun z2_q : (CW) => V p l e (k2_rm 0 0) s m args below meth c (inW (ccells g ad w)) (EN below args s g (ccells g ad w) (ccells g ad rr) none) g 3 (ccells g ad z2_q) 0 0 42 [(0, .ref (ad 63)), (1, .int a0)] []) ?_ 5000 (w, 0) z2 hlz2 ?_
  · intro s2 rL hf hin hout
    unfold X4_turnSigns_L2 at hf
    refine v_iload_n hG 2 rfl rfl dX4_turnSigns_2 ?_
    refine v_aload_n hG 0 rfl rfl dX4_turnSigns_3 ?_
    refine c_g_63_1 hG wk_291 dX4_turnSigns_4 ?_
    refine c_g_22_7 hG wk_159 dX4_turnSigns_7 ?_
    refine v_icmp_ge hG 42 dX4_turnSigns_10 rfl hf (fun hf => ?_) (fun hf => ?_)
    · refine v_sub [(0, _), (1, _)] [0, 1] rfl ?_
      exact hout _ (Option.some.inj hf).symm
    · refine v_aload_n hG 0 rfl rfl dX4_turnSigns_13 ?_
      refine c_g_63_1 hG wk_291 dX4_turnSigns_14 ?_
      refine c_g_22_6 hG wk_150 dX4_turnSigns_17 ?_
      refine v_iload_n hG 1 rfl rfl dX4_turnSigns_20 ?_
      refine c_o_29 hG dX4_turnSigns_21 hf (fun hi21 hf => ?_)
      refine v_iload_n hG 2 rfl rfl dX4_turnSigns_22 ?_
      refine v_aload_n hG 0 rfl rfl dX4_turnSigns_23 ?_
      refine c_g_63_1 hG wk_291 dX4_turnSigns_24 ?_
      refine c_g_22_6 hG wk_150 dX4_turnSigns_27 ?_
      refine v_iload_n hG 1 rfl rfl dX4_turnSigns_30 ?_
      refine c_o_29 hG dX4_turnSigns_31 hf (fun hi31 hf => ?_)
      refine v_iload_n hG 2 rfl rfl dX4_turnSigns_32 ?_
      refine c_rl_29 hG hi31 dX4_turnSigns_33 hf (fun hf => ?_)
      refine v_lneg hG dX4_turnSigns_34 ?_
      refine c_rs_29 hG hi21 dX4_turnSigns_35 hf (fun w35 hf => ?_)
      refine v_iinc hG 2 (v := s2.2 + 1) [(2, _), (0, _), (1, _)] dX4_turnSigns_36 rfl rfl (by decide) rfl ?_
      refine v_goto hG 2 dX4_turnSigns_39 rfl ?_
      refine v_sub [(0, _), (1, _), (2, _)] [1, 2, 0] rfl ?_
      exact hin _ (Option.some.inj hf).symm
  · show V p l e (k2_rm 0 0) s m args below meth c (inW (ccells g ad w)) (EN below args s g (ccells g ad w) (ccells g ad rr) none) g 3 (ccells g ad z2) 0 0 42 [(0, .ref (ad 63)), (1, .int a0)] []
    refine v_aload_n hG 0 rfl rfl dX4_turnSigns_42 ?_
    refine c_g_63_1 hG wk_291 dX4_turnSigns_43 ?_
    refine c_g_22_5 hG wk_144 dX4_turnSigns_46 ?_
    refine v_iload_n hG 1 rfl rfl dX4_turnSigns_49 ?_
    refine v_aload_n hG 0 rfl rfl dX4_turnSigns_50 ?_
    refine c_g_63_1 hG wk_291 dX4_turnSigns_51 ?_
    refine c_g_22_5 hG wk_144 dX4_turnSigns_54 ?_
    refine v_iload_n hG 1 rfl rfl dX4_turnSigns_57 ?_
    refine c_l_28 hG dX4_turnSigns_58 hf (fun hf => ?_)
    refine v_lneg hG dX4_turnSigns_59 ?_
    refine c_s_28 hG dX4_turnSigns_60 hf (fun w60 hf => ?_)
    cases hf
    exact v_vret hG hr dX4_turnSigns_61
def X4_divideShared_J148 (a0 : Int32) (j148_0 : CW) : Option (Int32 × CW) := ((X5_noteAnew j148_0 a0).bind (fun r153 : CW => (some (1, r153))))
def X4_divideShared_J137 (a0 : Int32) (j137_0 : CW) (j137_1 : Int64) (j137_2 : Int32) : Option (Int32 × CW) := (if 1 < j137_1 then (X4_divideShared_J148 a0 j137_0) else (if j137_2 = 0 then (some (1, j137_0)) else (X4_divideShared_J148 a0 j137_0)))
def X4_divideShared_J127 (a0 : Int32) (j127_0 : CW) (j127_1 : Int64) (j127_2 : Int32) : Option (Int32 × CW) := (if j127_2 = 0 then (X4_divideShared_J137 a0 j127_0 j127_1 j127_2) else ((X4_turnSigns j127_0 a0).bind (fun r134 : CW => (X4_divideShared_J137 a0 r134 j127_1 j127_2))))
def X4_divideShared_J113 (a0 : Int32) (j113_0 : CW) (j113_1 : Int64) (j113_2 : Int32) : Option (Int32 × CW) := (if j113_1 ≤ 1 then (X4_divideShared_J127 a0 j113_0 j113_1 j113_2) else ((X4_divide j113_0 a0 j113_1).bind (fun r124 : CW => (X4_divideShared_J127 a0 r124 j113_1 j113_2))))
def X4_divideShared_J112 (a0 : Int32) (j112_0 : CW) (j112_1 : Int64) : Option (Int32 × CW) := (X4_divideShared_J113 a0 j112_0 j112_1 0)
def X4_divideShared_J87 (a0 : Int32) (j87_0 : CW) (j87_1 : Int32) (j87_2 : Int64) (j87_3 : Int32) : Option (Int32 × CW) := (if j87_3 = 0 then (X4_divideShared_J112 a0 j87_0 j87_2) else (if inR a0 12 = true then (if inR j87_1 12 = true then (if 0 ≤ ((gT_a (gC_tab j87_0)) a0.toNatClampNeg j87_1.toNatClampNeg) then (X4_divideShared_J112 a0 j87_0 j87_2) else (X4_divideShared_J113 a0 j87_0 j87_2 1)) else none) else none))
def X4_divideShared_J41 (a0 : Int32) (j41_0 : CW) (j41_1 : Int32) (j41_2 : Int64) (j41_3 : Int32) : Option (Int32 × CW) := (if j41_3 = 0 then (X4_divideShared_J87 a0 j41_0 j41_1 j41_2 j41_3) else (if j41_2 = 0 then (X4_divideShared_J87 a0 j41_0 j41_1 j41_2 j41_3) else (if inR a0 12 = true then (if j41_2 = 0 then none else (if (((gT_right (gC_tab j41_0)) a0.toNatClampNeg) - ((gT_right (gC_tab j41_0)) a0.toNatClampNeg) / j41_2 * j41_2) = 0 then (X4_divideShared_J87 a0 j41_0 j41_1 j41_2 j41_3) else (if inR a0 12 = true then ((X5_endAll j41_0 ((gC_rowRest j41_0) a0.toNatClampNeg)).bind (fun r83 : Int32 × CW => (if isB r83.1 = true then some (r83.1, r83.2) else none))) else none))) else none)))
def X4_divideShared (w : CW) (a0 : Int32) : Option (Int32 × CW) := ((X6_nextTerm (gC_tab w) a0 0).bind (fun r6 : Int32 => (if r6 = (-1) then (some (1, w)) else ((X4_sharedDivisor w a0).bind (fun r19 : Int64 => (if inR a0 12 = true then (if ((gT_kind (gC_tab w)) a0.toNatClampNeg) = 1 then (X4_divideShared_J41 a0 w r6 r19 1) else (X4_divideShared_J41 a0 w r6 r19 0)) else none))))))
set_option maxRecDepth 100000 in
set_option maxHeartbeats 4000000 in
theorem ct_X4_divideShared (l : Launch) (g : wG) (ad : Nat → Nat) (w : CW) (a0 : Int32) (rr : Int32 × CW) (hf : X4_divideShared w a0 = some rr) : MetN l g yX4_divideShared cX4_divideShared 7 (some .boolean) (k2_rm 2 54) [.ref (ad 63), .int a0] (ccells g ad w) (ccells g ad rr.2) (some (.int rr.1)) := by
  refine MetN.of2 [(0, .ref (ad 63)), (1, .int a0)] rfl (by decide +kernel) (Nat.le_of_ble_eq_true rfl) ?_
  intro p e s m args below meth c hG hr
  unfold X4_divideShared at hf
  have j148 : ∀ (j148_0 : CW), X4_divideShared_J148 a0 j148_0 = some rr → V p l e (k2_rm 2 54) s m args below meth c (inW (ccells g ad w)) (EN below args s g (ccells g ad w) (ccells g ad rr.2) (some (.int rr.1))) g 7 (ccells g ad j148_0) 0 0 148 [(0, .ref (ad 63)), (1, .int a0)] [] := by
    intro j148_0 hf
    unfold X4_divideShared_J148 at hf
    refine v_aload_n hG 0 rfl rfl dX4_divideShared_148 ?_
    refine c_g_63_0 hG wk_290 dX4_divideShared_149 ?_
    refine v_iload_n hG 1 rfl rfl dX4_divideShared_152 ?_
    obtain ⟨r153, hr153, hf⟩ := bd_some hf
    refine v_callV hG (st := []) 21 5 (ct_X5_noteAnew l g ad j148_0 a0 r153 hr153) iw_X5_noteAnew wk_647 rfl rfl ⟨rfl, rfl, Nat.le_of_ble_eq_true rfl, Nat.le_of_ble_eq_true rfl⟩ ⟨Nat.le_of_ble_eq_true rfl, Nat.le_of_ble_eq_true rfl⟩ rfl rfl (Nat.le_of_ble_eq_true rfl) (ccells_fst _ _ _ _) dX4_divideShared_153 ?_
    refine (show V p l e (k2_rm 2 54) s m args below meth c (inW (ccells g ad w)) (EN below args s g (ccells g ad w) (ccells g ad rr.2) (some (.int rr.1))) g 7 (ccells g ad r153) 0 0 156 [(0, .ref (ad 63)), (1, .int a0)] [] from ?_)
    refine v_iconst hG (v := 1) (by decide) dX4_divideShared_156 ?_
    cases hf
    exact v_zret (x := 1) hG hr rfl dX4_divideShared_157
  have j137 : ∀ (j137_0 : CW) (j137_1 : Int64) (j137_2 : Int32), X4_divideShared_J137 a0 j137_0 j137_1 j137_2 = some rr → V p l e (k2_rm 2 54) s m args below meth c (inW (ccells g ad w)) (EN below args s g (ccells g ad w) (ccells g ad rr.2) (some (.int rr.1))) g 7 (ccells g ad j137_0) 0 0 137 [(0, .ref (ad 63)), (1, .int a0), (3, .long j137_1), (6, .int j137_2)] [] := by
    intro j137_0 j137_1 j137_2 hf
    unfold X4_divideShared_J137 at hf
    refine v_lload_n hG 2 rfl rfl dX4_divideShared_137 ?_
    refine v_lconst hG (v := 1) (by decide) dX4_divideShared_138 ?_
    refine v_lcmp_gt hG 148 dX4_divideShared_139 dX4_divideShared_140 rfl hf (fun hf => ?_) (fun hf => ?_)
    · refine v_sub [(0, _), (1, _)] [0, 1] rfl ?_
      exact j148 j137_0 hf
    · refine v_iload hG 3 rfl dX4_divideShared_143 ?_
      refine v_if_eq hG 156 dX4_divideShared_145 rfl hf (fun hf => ?_) (fun hf => ?_)
      · refine v_iconst hG (v := 1) (by decide) dX4_divideShared_156 ?_
        cases hf
        exact v_zret (x := 1) hG hr rfl dX4_divideShared_157
      · refine v_sub [(0, _), (1, _)] [0, 1] rfl ?_
        exact j148 j137_0 hf
  have j127 : ∀ (j127_0 : CW) (j127_1 : Int64) (j127_2 : Int32), X4_divideShared_J127 a0 j127_0 j127_1 j127_2 = some rr → V p l e (k2_rm 2 54) s m args below meth c (inW (ccells g ad w)) (EN below args s g (ccells g ad w) (ccells g ad rr.2) (some (.int rr.1))) g 7 (ccells g ad j127_0) 0 0 127 [(0, .ref (ad 63)), (1, .int a0), (3, .long j127_1), (6, .int j127_2)] [] := by
    intro j127_0 j127_1 j127_2 hf
    unfold X4_divideShared_J127 at hf
    refine v_iload hG 3 rfl dX4_divideShared_127 ?_
    refine v_if_eq hG 137 dX4_divideShared_129 rfl hf (fun hf => ?_) (fun hf => ?_)
    · exact j137 j127_0 j127_1 j127_2 hf
    · refine v_aload_n hG 0 rfl rfl dX4_divideShared_132 ?_
      refine v_iload_n hG 1 rfl rfl dX4_divideShared_133 ?_
      obtain ⟨r134, hr134, hf⟩ := bd_some hf
      refine v_callV hG (st := []) 63 4 (ct_X4_turnSigns l g ad j127_0 a0 r134 hr134) iw_X4_turnSigns wk_643 rfl rfl ⟨rfl, rfl, Nat.le_of_ble_eq_true rfl, Nat.le_of_ble_eq_true rfl⟩ ⟨Nat.le_of_ble_eq_true rfl, Nat.le_of_ble_eq_true rfl⟩ rfl rfl (Nat.le_of_ble_eq_true rfl) (ccells_fst _ _ _ _) dX4_divideShared_134 ?_
      refine (show V p l e (k2_rm 2 54) s m args below meth c (inW (ccells g ad w)) (EN below args s g (ccells g ad w) (ccells g ad rr.2) (some (.int rr.1))) g 7 (ccells g ad r134) 0 0 137 [(0, .ref (ad 63)), (1, .int a0), (3, .long j127_1), (6, .int j127_2)] [] from ?_)
      exact j137 r134 j127_1 j127_2 hf
  have j113 : ∀ (j113_0 : CW) (j113_1 : Int64) (j113_2 : Int32), X4_divideShared_J113 a0 j113_0 j113_1 j113_2 = some rr → V p l e (k2_rm 2 54) s m args below meth c (inW (ccells g ad w)) (EN below args s g (ccells g ad w) (ccells g ad rr.2) (some (.int rr.1))) g 7 (ccells g ad j113_0) 0 0 113 [(0, .ref (ad 63)), (1, .int a0), (3, .long j113_1)] [.int j113_2] := by
    intro j113_0 j113_1 j113_2 hf
    unfold X4_divideShared_J113 at hf
    refine v_istore hG [(6, _), (0, _), (1, _), (3, _)] dX4_divideShared_113 (by decide) rfl ?_
    refine v_lload_n hG 3 rfl rfl dX4_divideShared_115 ?_
    refine v_lconst hG (v := 1) (by decide) dX4_divideShared_116 ?_
    refine v_lcmp_le hG 127 dX4_divideShared_117 dX4_divideShared_118 rfl hf (fun hf => ?_) (fun hf => ?_)
    · refine v_sub [(0, _), (1, _), (3, _), (6, _)] [1, 2, 3, 0] rfl ?_
      exact j127 j113_0 j113_1 j113_2 hf
    · refine v_aload_n hG 1 rfl rfl dX4_divideShared_121 ?_
      refine v_iload_n hG 2 rfl rfl dX4_divideShared_122 ?_
      refine v_lload_n hG 3 rfl rfl dX4_divideShared_123 ?_
      obtain ⟨r124, hr124, hf⟩ := bd_some hf
      refine v_callV hG (st := []) 63 4 (ct_X4_divide l g ad j113_0 a0 j113_1 r124 hr124) iw_X4_divide wk_636 rfl rfl ⟨rfl, rfl, Nat.le_of_ble_eq_true rfl, Nat.le_of_ble_eq_true rfl⟩ ⟨Nat.le_of_ble_eq_true rfl, Nat.le_of_ble_eq_true rfl⟩ rfl rfl (Nat.le_of_ble_eq_true rfl) (ccells_fst _ _ _ _) dX4_divideShared_124 ?_
      refine (show V p l e (k2_rm 2 54) s m args below meth c (inW (ccells g ad w)) (EN below args s g (ccells g ad w) (ccells g ad rr.2) (some (.int rr.1))) g 7 (ccells g ad r124) 0 0 127 [(6, .int j113_2), (0, .ref (ad 63)), (1, .int a0), (3, .long j113_1)] [] from ?_)
      refine v_sub [(0, _), (1, _), (3, _), (6, _)] [1, 2, 3, 0] rfl ?_
      exact j127 r124 j113_1 j113_2 hf
  have j112 : ∀ (j112_0 : CW) (j112_1 : Int64), X4_divideShared_J112 a0 j112_0 j112_1 = some rr → V p l e (k2_rm 2 54) s m args below meth c (inW (ccells g ad w)) (EN below args s g (ccells g ad w) (ccells g ad rr.2) (some (.int rr.1))) g 7 (ccells g ad j112_0) 0 0 112 [(0, .ref (ad 63)), (1, .int a0), (3, .long j112_1)] [] := by
    intro j112_0 j112_1 hf
    unfold X4_divideShared_J112 at hf
    refine v_iconst hG (v := 0) (by decide) dX4_divideShared_112 ?_
    exact j113 j112_0 j112_1 0 hf
  have j87 : ∀ (j87_0 : CW) (j87_1 : Int32) (j87_2 : Int64) (j87_3 : Int32), X4_divideShared_J87 a0 j87_0 j87_1 j87_2 j87_3 = some rr → V p l e (k2_rm 2 54) s m args below meth c (inW (ccells g ad w)) (EN below args s g (ccells g ad w) (ccells g ad rr.2) (some (.int rr.1))) g 7 (ccells g ad j87_0) 0 0 87 [(0, .ref (ad 63)), (1, .int a0), (2, .int j87_1), (3, .long j87_2), (5, .int j87_3)] [] := by
    intro j87_0 j87_1 j87_2 j87_3 hf
    unfold X4_divideShared_J87 at hf
    refine v_iload hG 4 rfl dX4_divideShared_87 ?_
    refine v_if_eq hG 112 dX4_divideShared_89 rfl hf (fun hf => ?_) (fun hf => ?_)
    · refine v_sub [(0, _), (1, _), (3, _)] [0, 1, 3] rfl ?_
      exact j112 j87_0 j87_2 hf
    · refine v_aload_n hG 0 rfl rfl dX4_divideShared_92 ?_
      refine c_g_63_1 hG wk_291 dX4_divideShared_93 ?_
      refine c_g_22_6 hG wk_150 dX4_divideShared_96 ?_
      refine v_iload_n hG 1 rfl rfl dX4_divideShared_99 ?_
      refine c_o_29 hG dX4_divideShared_100 hf (fun hi100 hf => ?_)
      refine v_iload_n hG 2 rfl rfl dX4_divideShared_101 ?_
      refine c_rl_29 hG hi100 dX4_divideShared_102 hf (fun hf => ?_)
      refine v_lconst hG (v := 0) (by decide) dX4_divideShared_103 ?_
      refine v_lcmp_ge hG 112 dX4_divideShared_104 dX4_divideShared_105 rfl hf (fun hf => ?_) (fun hf => ?_)
      · refine v_sub [(0, _), (1, _), (3, _)] [0, 1, 3] rfl ?_
        exact j112 j87_0 j87_2 hf
      · refine v_iconst hG (v := 1) (by decide) dX4_divideShared_108 ?_
        refine v_goto hG 113 dX4_divideShared_109 rfl ?_
        refine v_sub [(0, _), (1, _), (3, _)] [0, 1, 3] rfl ?_
        exact j113 j87_0 j87_2 1 hf
  have j41 : ∀ (j41_0 : CW) (j41_1 : Int32) (j41_2 : Int64) (j41_3 : Int32), X4_divideShared_J41 a0 j41_0 j41_1 j41_2 j41_3 = some rr → V p l e (k2_rm 2 54) s m args below meth c (inW (ccells g ad w)) (EN below args s g (ccells g ad w) (ccells g ad rr.2) (some (.int rr.1))) g 7 (ccells g ad j41_0) 0 0 41 [(0, .ref (ad 63)), (1, .int a0), (2, .int j41_1), (3, .long j41_2)] [.int j41_3] := by
    intro j41_0 j41_1 j41_2 j41_3 hf
    unfold X4_divideShared_J41 at hf
    refine v_istore hG [(5, _), (0, _), (1, _), (2, _), (3, _)] dX4_divideShared_41 (by decide) rfl ?_
    refine v_iload hG 0 rfl dX4_divideShared_43 ?_
    refine v_if_eq hG 87 dX4_divideShared_45 rfl hf (fun hf => ?_) (fun hf => ?_)
    · refine v_sub [(0, _), (1, _), (2, _), (3, _), (5, _)] [1, 2, 3, 4, 0] rfl ?_
      exact j87 j41_0 j41_1 j41_2 j41_3 hf
    · refine v_lload_n hG 4 rfl rfl dX4_divideShared_48 ?_
      refine v_lconst hG (v := 0) (by decide) dX4_divideShared_49 ?_
      refine v_lcmp_eq hG 87 dX4_divideShared_50 dX4_divideShared_51 rfl hf (fun hf => ?_) (fun hf => ?_)
      · refine v_sub [(0, _), (1, _), (2, _), (3, _), (5, _)] [1, 2, 3, 4, 0] rfl ?_
        exact j87 j41_0 j41_1 j41_2 j41_3 hf
      · refine v_aload_n hG 1 rfl rfl dX4_divideShared_54 ?_
        refine c_g_63_1 hG wk_291 dX4_divideShared_55 ?_
        refine c_g_22_5 hG wk_144 dX4_divideShared_58 ?_
        refine v_iload_n hG 2 rfl rfl dX4_divideShared_61 ?_
        refine c_l_28 hG dX4_divideShared_62 hf (fun hf => ?_)
        refine v_lload_n hG 4 rfl rfl dX4_divideShared_63 ?_
        refine v_lrem hG dX4_divideShared_64 hf (fun hf => ?_)
        refine v_lconst hG (v := 0) (by decide) dX4_divideShared_65 ?_
        refine v_lcmp_eq hG 87 dX4_divideShared_66 dX4_divideShared_67 rfl hf (fun hf => ?_) (fun hf => ?_)
        · refine v_sub [(0, _), (1, _), (2, _), (3, _), (5, _)] [1, 2, 3, 4, 0] rfl ?_
          exact j87 j41_0 j41_1 j41_2 j41_3 hf
        · refine v_aload_n hG 1 rfl rfl dX4_divideShared_70 ?_
          refine c_g_63_0 hG wk_290 dX4_divideShared_71 ?_
          refine v_aload_n hG 1 rfl rfl dX4_divideShared_74 ?_
          refine c_g_63_0 hG wk_290 dX4_divideShared_75 ?_
          refine c_g_21_1 hG wk_223 dX4_divideShared_78 ?_
          refine v_iload_n hG 2 rfl rfl dX4_divideShared_81 ?_
          refine c_l_42 hG dX4_divideShared_82 hf (fun hf => ?_)
          obtain ⟨r83, hr83, hf⟩ := bd_some hf
          refine v_callV hG (st := []) 21 5 (ct_X5_endAll l g ad j41_0 ((gC_rowRest j41_0) a0.toNatClampNeg) r83 hr83) iw_X5_endAll wk_610 rfl rfl ⟨rfl, rfl, Nat.le_of_ble_eq_true rfl, Nat.le_of_ble_eq_true rfl⟩ ⟨Nat.le_of_ble_eq_true rfl, Nat.le_of_ble_eq_true rfl⟩ rfl rfl (Nat.le_of_ble_eq_true rfl) (ccells_fst _ _ _ _) dX4_divideShared_83 ?_
          refine (show V p l e (k2_rm 2 54) s m args below meth c (inW (ccells g ad w)) (EN below args s g (ccells g ad w) (ccells g ad rr.2) (some (.int rr.1))) g 7 (ccells g ad r83.2) 0 0 86 [(5, .int j41_3), (0, .ref (ad 63)), (1, .int a0), (2, .int j41_1), (3, .long j41_2)] [.int r83.1] from ?_)
          obtain ⟨hb, hf⟩ := gd_some hf
          cases hf
          exact v_zret hG hr (isB_nar hb) dX4_divideShared_86
  refine v_aload_n hG 0 rfl rfl dX4_divideShared_0 ?_
  refine c_g_63_1 hG wk_291 dX4_divideShared_1 ?_
  refine v_iload_n hG 1 rfl rfl dX4_divideShared_4 ?_
  refine v_iconst hG (v := 0) (by decide) dX4_divideShared_5 ?_
  obtain ⟨r6, hr6, hf⟩ := bd_some hf
  refine v_callV hG (st := []) 22 6 (ct_X6_nextTerm_s l g ad w a0 0 r6 hr6) iw_X6_nextTerm wk_601 rfl rfl ⟨rfl, rfl, Nat.le_of_ble_eq_true rfl, Nat.le_of_ble_eq_true rfl⟩ ⟨Nat.le_of_ble_eq_true rfl, Nat.le_of_ble_eq_true rfl⟩ rfl rfl (Nat.le_of_ble_eq_true rfl) (ccells_fst _ _ _ _) dX4_divideShared_6 ?_
  refine (show V p l e (k2_rm 2 54) s m args below meth c (inW (ccells g ad w)) (EN below args s g (ccells g ad w) (ccells g ad rr.2) (some (.int rr.1))) g 7 (ccells g ad w) 0 0 9 [(0, .ref (ad 63)), (1, .int a0)] [.int r6] from ?_)
  refine v_istore_n hG [(2, _), (0, _), (1, _)] dX4_divideShared_9 rfl (by decide) rfl ?_
  refine v_iload_n hG 0 rfl rfl dX4_divideShared_10 ?_
  refine v_iconst hG (v := -1) (by decide) dX4_divideShared_11 ?_
  refine v_icmp_ne hG 17 dX4_divideShared_12 rfl hf (fun hf => ?_) (fun hf => ?_)
  · refine v_aload_n hG 1 rfl rfl dX4_divideShared_17 ?_
    refine v_iload_n hG 2 rfl rfl dX4_divideShared_18 ?_
    obtain ⟨r19, hr19, hf⟩ := bd_some hf
    refine v_callV hG (st := []) 63 4 (ct_X4_sharedDivisor l g ad w a0 r19 hr19) iw_X4_sharedDivisor wk_626 rfl rfl ⟨rfl, rfl, Nat.le_of_ble_eq_true rfl, Nat.le_of_ble_eq_true rfl⟩ ⟨Nat.le_of_ble_eq_true rfl, Nat.le_of_ble_eq_true rfl⟩ rfl rfl (Nat.le_of_ble_eq_true rfl) (ccells_fst _ _ _ _) dX4_divideShared_19 ?_
    refine (show V p l e (k2_rm 2 54) s m args below meth c (inW (ccells g ad w)) (EN below args s g (ccells g ad w) (ccells g ad rr.2) (some (.int rr.1))) g 7 (ccells g ad w) 0 0 22 [(2, .int r6), (0, .ref (ad 63)), (1, .int a0)] [.long r19] from ?_)
    refine v_lstore_n hG [(3, _), (2, _), (0, _), (1, _)] dX4_divideShared_22 rfl (by decide) rfl ?_
    refine v_aload_n hG 2 rfl rfl dX4_divideShared_23 ?_
    refine c_g_63_1 hG wk_291 dX4_divideShared_24 ?_
    refine c_g_22_4 hG wk_138 dX4_divideShared_27 ?_
    refine v_iload_n hG 3 rfl rfl dX4_divideShared_30 ?_
    refine c_l_27 hG dX4_divideShared_31 hf (fun hf => ?_)
    refine v_iconst hG (v := 1) (by decide) dX4_divideShared_32 ?_
    refine v_icmp_ne hG 40 dX4_divideShared_33 rfl hf (fun hf => ?_) (fun hf => ?_)
    · refine v_iconst hG (v := 0) (by decide) dX4_divideShared_40 ?_
      refine v_sub [(0, _), (1, _), (2, _), (3, _)] [2, 3, 1, 0] rfl ?_
      exact j41 w r6 r19 0 hf
    · refine v_iconst hG (v := 1) (by decide) dX4_divideShared_36 ?_
      refine v_goto hG 41 dX4_divideShared_37 rfl ?_
      refine v_sub [(0, _), (1, _), (2, _), (3, _)] [2, 3, 1, 0] rfl ?_
      exact j41 w r6 r19 1 hf
  · refine v_iconst hG (v := 1) (by decide) dX4_divideShared_15 ?_
    cases hf
    exact v_zret (x := 1) hG hr rfl dX4_divideShared_16
def X4_leaveSingle_J177 (a0 : Int32) (j177_0 : CW) : Option (Int32 × CW) := ((X5_leaveOut j177_0 a0).bind (fun r182 : CW => (some (1, r182))))
def X4_leaveSingle_J157 (a0 : Int32) (j157_0 : CW) (j157_1 : Int32) (j157_2 : Int64) (j157_3 : Int64) (j157_4 : Int32) : Option (Int32 × CW) := ((X5_narrow j157_0 a0 j157_1 1 j157_3 j157_2 j157_4).bind (fun r169 : Int32 × CW => (if r169.1 = 0 then (some (0, r169.2)) else (X4_leaveSingle_J177 a0 r169.2))))
def X4_leaveSingle_J146 (a0 : Int32) (j146_0 : CW) (j146_1 : Int32) (j146_2 : Int64) (j146_3 : Int64) (j146_4 : Int32) (j146_5 : Int32) : Option (Int32 × CW) := (if j146_5 = 0 then (if j146_2 ≤ 0 then (X4_leaveSingle_J177 a0 j146_0) else (X4_leaveSingle_J157 a0 j146_0 j146_1 j146_2 j146_3 j146_4)) else (X4_leaveSingle_J157 a0 j146_0 j146_1 j146_2 j146_3 j146_4))
def X4_leaveSingle_J126 (a0 : Int32) (j126_0 : CW) (j126_1 : Int32) (j126_2 : Int64) (j126_3 : Int64) (j126_4 : Int32) (j126_5 : Int32) : Option (Int32 × CW) := ((X5_narrow j126_0 a0 j126_1 0 j126_3 j126_2 j126_4).bind (fun r138 : Int32 × CW => (if r138.1 = 0 then (some (0, r138.2)) else (X4_leaveSingle_J146 a0 r138.2 j126_1 j126_2 j126_3 j126_4 j126_5))))
def X4_leaveSingle_J115 (a0 : Int32) (j115_0 : CW) (j115_1 : Int32) (j115_2 : Int64) (j115_3 : Int64) (j115_4 : Int32) (j115_5 : Int32) : Option (Int32 × CW) := (if j115_5 = 0 then (if 0 ≤ j115_2 then (X4_leaveSingle_J146 a0 j115_0 j115_1 j115_2 j115_3 j115_4 j115_5) else (X4_leaveSingle_J126 a0 j115_0 j115_1 j115_2 j115_3 j115_4 j115_5)) else (X4_leaveSingle_J126 a0 j115_0 j115_1 j115_2 j115_3 j115_4 j115_5))
def X4_leaveSingle_J83 (a0 : Int32) (j83_0 : CW) (j83_1 : Int32) (j83_2 : Int64) (j83_3 : Int64) (j83_4 : Int32) (j83_5 : Int32) : Option (Int32 × CW) := (if j83_5 = 0 then (X4_leaveSingle_J115 a0 j83_0 j83_1 j83_2 j83_3 j83_4 j83_5) else (if j83_2 = 0 then (X4_leaveSingle_J115 a0 j83_0 j83_1 j83_2 j83_3 j83_4 j83_5) else (if j83_2 = 0 then none else (if (j83_3 - j83_3 / j83_2 * j83_2) = 0 then (X4_leaveSingle_J115 a0 j83_0 j83_1 j83_2 j83_3 j83_4 j83_5) else ((X5_endAll j83_0 j83_4).bind (fun r111 : Int32 × CW => (if isB r111.1 = true then some (r111.1, r111.2) else none)))))))
def X4_leaveSingle (w : CW) (a0 : Int32) : Option (Int32 × CW) := ((X6_countTerms (gC_tab w) a0).bind (fun r5 : Int32 => (if r5 = 1 then ((X6_nextTerm (gC_tab w) a0 0).bind (fun r20 : Int32 => (if r20 = (-1) then (some (1, w)) else (if inR a0 12 = true then (if inR r20 12 = true then (if inR a0 12 = true then (if inR a0 12 = true then (if inR a0 12 = true then (if ((gT_kind (gC_tab w)) a0.toNatClampNeg) = 1 then (X4_leaveSingle_J83 a0 w r20 ((gT_a (gC_tab w)) a0.toNatClampNeg r20.toNatClampNeg) ((gT_right (gC_tab w)) a0.toNatClampNeg) ((gC_rowRest w) a0.toNatClampNeg) 1) else (X4_leaveSingle_J83 a0 w r20 ((gT_a (gC_tab w)) a0.toNatClampNeg r20.toNatClampNeg) ((gT_right (gC_tab w)) a0.toNatClampNeg) ((gC_rowRest w) a0.toNatClampNeg) 0)) else none) else none) else none) else none) else none)))) else (some (1, w)))))
set_option maxRecDepth 100000 in
set_option maxHeartbeats 4000000 in
theorem ct_X4_leaveSingle (l : Launch) (g : wG) (ad : Nat → Nat) (w : CW) (a0 : Int32) (rr : Int32 × CW) (hf : X4_leaveSingle w a0 = some rr) : MetN l g yX4_leaveSingle cX4_leaveSingle 9 (some .boolean) (k2_rm 2 57) [.ref (ad 63), .int a0] (ccells g ad w) (ccells g ad rr.2) (some (.int rr.1)) := by
  refine MetN.of2 [(0, .ref (ad 63)), (1, .int a0)] rfl (by decide +kernel) (Nat.le_of_ble_eq_true rfl) ?_
  intro p e s m args below meth c hG hr
  unfold X4_leaveSingle at hf
  have j177 : ∀ (j177_0 : CW), X4_leaveSingle_J177 a0 j177_0 = some rr → V p l e (k2_rm 2 57) s m args below meth c (inW (ccells g ad w)) (EN below args s g (ccells g ad w) (ccells g ad rr.2) (some (.int rr.1))) g 9 (ccells g ad j177_0) 0 0 177 [(0, .ref (ad 63)), (1, .int a0)] [] := by
    intro j177_0 hf
    unfold X4_leaveSingle_J177 at hf
    refine v_aload_n hG 0 rfl rfl dX4_leaveSingle_177 ?_
    refine c_g_63_0 hG wk_290 dX4_leaveSingle_178 ?_
    refine v_iload_n hG 1 rfl rfl dX4_leaveSingle_181 ?_
    obtain ⟨r182, hr182, hf⟩ := bd_some hf
    refine v_callV hG (st := []) 21 5 (ct_X5_leaveOut l g ad j177_0 a0 r182 hr182) iw_X5_leaveOut wk_614 rfl rfl ⟨rfl, rfl, Nat.le_of_ble_eq_true rfl, Nat.le_of_ble_eq_true rfl⟩ ⟨Nat.le_of_ble_eq_true rfl, Nat.le_of_ble_eq_true rfl⟩ rfl rfl (Nat.le_of_ble_eq_true rfl) (ccells_fst _ _ _ _) dX4_leaveSingle_182 ?_
    refine (show V p l e (k2_rm 2 57) s m args below meth c (inW (ccells g ad w)) (EN below args s g (ccells g ad w) (ccells g ad rr.2) (some (.int rr.1))) g 9 (ccells g ad r182) 0 0 185 [(0, .ref (ad 63)), (1, .int a0)] [] from ?_)
    refine v_iconst hG (v := 1) (by decide) dX4_leaveSingle_185 ?_
    cases hf
    exact v_zret (x := 1) hG hr rfl dX4_leaveSingle_186
  have j157 : ∀ (j157_0 : CW) (j157_1 : Int32) (j157_2 : Int64) (j157_3 : Int64) (j157_4 : Int32), X4_leaveSingle_J157 a0 j157_0 j157_1 j157_2 j157_3 j157_4 = some rr → V p l e (k2_rm 2 57) s m args below meth c (inW (ccells g ad w)) (EN below args s g (ccells g ad w) (ccells g ad rr.2) (some (.int rr.1))) g 9 (ccells g ad j157_0) 0 0 157 [(0, .ref (ad 63)), (1, .int a0), (2, .int j157_1), (3, .long j157_2), (5, .long j157_3), (7, .int j157_4)] [] := by
    intro j157_0 j157_1 j157_2 j157_3 j157_4 hf
    unfold X4_leaveSingle_J157 at hf
    refine v_aload_n hG 0 rfl rfl dX4_leaveSingle_157 ?_
    refine c_g_63_0 hG wk_290 dX4_leaveSingle_158 ?_
    refine v_iload_n hG 1 rfl rfl dX4_leaveSingle_161 ?_
    refine v_iload_n hG 2 rfl rfl dX4_leaveSingle_162 ?_
    refine v_iconst hG (v := 1) (by decide) dX4_leaveSingle_163 ?_
    refine v_lload hG 4 rfl dX4_leaveSingle_164 ?_
    refine v_lload_n hG 3 rfl rfl dX4_leaveSingle_166 ?_
    refine v_iload hG 5 rfl dX4_leaveSingle_167 ?_
    obtain ⟨r169, hr169, hf⟩ := bd_some hf
    refine v_callV hG (st := []) 21 5 (ct_X5_narrow l g ad j157_0 a0 j157_1 1 j157_3 j157_2 j157_4 r169 hr169) iw_X5_narrow wk_659 rfl rfl ⟨rfl, rfl, Nat.le_of_ble_eq_true rfl, Nat.le_of_ble_eq_true rfl⟩ ⟨Nat.le_of_ble_eq_true rfl, Nat.le_of_ble_eq_true rfl⟩ rfl rfl (Nat.le_of_ble_eq_true rfl) (ccells_fst _ _ _ _) dX4_leaveSingle_169 ?_
    refine (show V p l e (k2_rm 2 57) s m args below meth c (inW (ccells g ad w)) (EN below args s g (ccells g ad w) (ccells g ad rr.2) (some (.int rr.1))) g 9 (ccells g ad r169.2) 0 0 172 [(0, .ref (ad 63)), (1, .int a0), (2, .int j157_1), (3, .long j157_2), (5, .long j157_3), (7, .int j157_4)] [.int r169.1] from ?_)
    refine v_if_ne hG 177 dX4_leaveSingle_172 rfl hf (fun hf => ?_) (fun hf => ?_)
    · refine v_sub [(0, _), (1, _)] [0, 1] rfl ?_
      exact j177 r169.2 hf
    · refine v_iconst hG (v := 0) (by decide) dX4_leaveSingle_175 ?_
      cases hf
      exact v_zret (x := 0) hG hr rfl dX4_leaveSingle_176
  have j146 : ∀ (j146_0 : CW) (j146_1 : Int32) (j146_2 : Int64) (j146_3 : Int64) (j146_4 : Int32) (j146_5 : Int32), X4_leaveSingle_J146 a0 j146_0 j146_1 j146_2 j146_3 j146_4 j146_5 = some rr → V p l e (k2_rm 2 57) s m args below meth c (inW (ccells g ad w)) (EN below args s g (ccells g ad w) (ccells g ad rr.2) (some (.int rr.1))) g 9 (ccells g ad j146_0) 0 0 146 [(0, .ref (ad 63)), (1, .int a0), (2, .int j146_1), (3, .long j146_2), (5, .long j146_3), (7, .int j146_4), (8, .int j146_5)] [] := by
    intro j146_0 j146_1 j146_2 j146_3 j146_4 j146_5 hf
    unfold X4_leaveSingle_J146 at hf
    refine v_iload hG 6 rfl dX4_leaveSingle_146 ?_
    refine v_if_ne hG 157 dX4_leaveSingle_148 rfl hf (fun hf => ?_) (fun hf => ?_)
    · refine v_sub [(0, _), (1, _), (2, _), (3, _), (5, _), (7, _)] [0, 1, 2, 3, 4, 5] rfl ?_
      exact j157 j146_0 j146_1 j146_2 j146_3 j146_4 hf
    · refine v_lload_n hG 3 rfl rfl dX4_leaveSingle_151 ?_
      refine v_lconst hG (v := 0) (by decide) dX4_leaveSingle_152 ?_
      refine v_lcmp_le hG 177 dX4_leaveSingle_153 dX4_leaveSingle_154 rfl hf (fun hf => ?_) (fun hf => ?_)
      · refine v_sub [(0, _), (1, _)] [0, 1] rfl ?_
        exact j177 j146_0 hf
      · refine v_sub [(0, _), (1, _), (2, _), (3, _), (5, _), (7, _)] [0, 1, 2, 3, 4, 5] rfl ?_
        exact j157 j146_0 j146_1 j146_2 j146_3 j146_4 hf
  have j126 : ∀ (j126_0 : CW) (j126_1 : Int32) (j126_2 : Int64) (j126_3 : Int64) (j126_4 : Int32) (j126_5 : Int32), X4_leaveSingle_J126 a0 j126_0 j126_1 j126_2 j126_3 j126_4 j126_5 = some rr → V p l e (k2_rm 2 57) s m args below meth c (inW (ccells g ad w)) (EN below args s g (ccells g ad w) (ccells g ad rr.2) (some (.int rr.1))) g 9 (ccells g ad j126_0) 0 0 126 [(0, .ref (ad 63)), (1, .int a0), (2, .int j126_1), (3, .long j126_2), (5, .long j126_3), (7, .int j126_4), (8, .int j126_5)] [] := by
    intro j126_0 j126_1 j126_2 j126_3 j126_4 j126_5 hf
    unfold X4_leaveSingle_J126 at hf
    refine v_aload_n hG 0 rfl rfl dX4_leaveSingle_126 ?_
    refine c_g_63_0 hG wk_290 dX4_leaveSingle_127 ?_
    refine v_iload_n hG 1 rfl rfl dX4_leaveSingle_130 ?_
    refine v_iload_n hG 2 rfl rfl dX4_leaveSingle_131 ?_
    refine v_iconst hG (v := 0) (by decide) dX4_leaveSingle_132 ?_
    refine v_lload hG 4 rfl dX4_leaveSingle_133 ?_
    refine v_lload_n hG 3 rfl rfl dX4_leaveSingle_135 ?_
    refine v_iload hG 5 rfl dX4_leaveSingle_136 ?_
    obtain ⟨r138, hr138, hf⟩ := bd_some hf
    refine v_callV hG (st := []) 21 5 (ct_X5_narrow l g ad j126_0 a0 j126_1 0 j126_3 j126_2 j126_4 r138 hr138) iw_X5_narrow wk_659 rfl rfl ⟨rfl, rfl, Nat.le_of_ble_eq_true rfl, Nat.le_of_ble_eq_true rfl⟩ ⟨Nat.le_of_ble_eq_true rfl, Nat.le_of_ble_eq_true rfl⟩ rfl rfl (Nat.le_of_ble_eq_true rfl) (ccells_fst _ _ _ _) dX4_leaveSingle_138 ?_
    refine (show V p l e (k2_rm 2 57) s m args below meth c (inW (ccells g ad w)) (EN below args s g (ccells g ad w) (ccells g ad rr.2) (some (.int rr.1))) g 9 (ccells g ad r138.2) 0 0 141 [(0, .ref (ad 63)), (1, .int a0), (2, .int j126_1), (3, .long j126_2), (5, .long j126_3), (7, .int j126_4), (8, .int j126_5)] [.int r138.1] from ?_)
    refine v_if_ne hG 146 dX4_leaveSingle_141 rfl hf (fun hf => ?_) (fun hf => ?_)
    · exact j146 r138.2 j126_1 j126_2 j126_3 j126_4 j126_5 hf
    · refine v_iconst hG (v := 0) (by decide) dX4_leaveSingle_144 ?_
      cases hf
      exact v_zret (x := 0) hG hr rfl dX4_leaveSingle_145
  have j115 : ∀ (j115_0 : CW) (j115_1 : Int32) (j115_2 : Int64) (j115_3 : Int64) (j115_4 : Int32) (j115_5 : Int32), X4_leaveSingle_J115 a0 j115_0 j115_1 j115_2 j115_3 j115_4 j115_5 = some rr → V p l e (k2_rm 2 57) s m args below meth c (inW (ccells g ad w)) (EN below args s g (ccells g ad w) (ccells g ad rr.2) (some (.int rr.1))) g 9 (ccells g ad j115_0) 0 0 115 [(0, .ref (ad 63)), (1, .int a0), (2, .int j115_1), (3, .long j115_2), (5, .long j115_3), (7, .int j115_4), (8, .int j115_5)] [] := by
    intro j115_0 j115_1 j115_2 j115_3 j115_4 j115_5 hf
    unfold X4_leaveSingle_J115 at hf
    refine v_iload hG 6 rfl dX4_leaveSingle_115 ?_
    refine v_if_ne hG 126 dX4_leaveSingle_117 rfl hf (fun hf => ?_) (fun hf => ?_)
    · exact j126 j115_0 j115_1 j115_2 j115_3 j115_4 j115_5 hf
    · refine v_lload_n hG 3 rfl rfl dX4_leaveSingle_120 ?_
      refine v_lconst hG (v := 0) (by decide) dX4_leaveSingle_121 ?_
      refine v_lcmp_ge hG 146 dX4_leaveSingle_122 dX4_leaveSingle_123 rfl hf (fun hf => ?_) (fun hf => ?_)
      · exact j146 j115_0 j115_1 j115_2 j115_3 j115_4 j115_5 hf
      · exact j126 j115_0 j115_1 j115_2 j115_3 j115_4 j115_5 hf
  have j83 : ∀ (j83_0 : CW) (j83_1 : Int32) (j83_2 : Int64) (j83_3 : Int64) (j83_4 : Int32) (j83_5 : Int32), X4_leaveSingle_J83 a0 j83_0 j83_1 j83_2 j83_3 j83_4 j83_5 = some rr → V p l e (k2_rm 2 57) s m args below meth c (inW (ccells g ad w)) (EN below args s g (ccells g ad w) (ccells g ad rr.2) (some (.int rr.1))) g 9 (ccells g ad j83_0) 0 0 83 [(0, .ref (ad 63)), (1, .int a0), (2, .int j83_1), (3, .long j83_2), (5, .long j83_3), (7, .int j83_4)] [.int j83_5] := by
    intro j83_0 j83_1 j83_2 j83_3 j83_4 j83_5 hf
    unfold X4_leaveSingle_J83 at hf
    refine v_istore hG [(8, _), (0, _), (1, _), (2, _), (3, _), (5, _), (7, _)] dX4_leaveSingle_83 (by decide) rfl ?_
    refine v_iload hG 0 rfl dX4_leaveSingle_85 ?_
    refine v_if_eq hG 115 dX4_leaveSingle_87 rfl hf (fun hf => ?_) (fun hf => ?_)
    · refine v_sub [(0, _), (1, _), (2, _), (3, _), (5, _), (7, _), (8, _)] [1, 2, 3, 4, 5, 6, 0] rfl ?_
      exact j115 j83_0 j83_1 j83_2 j83_3 j83_4 j83_5 hf
    · refine v_lload_n hG 4 rfl rfl dX4_leaveSingle_90 ?_
      refine v_lconst hG (v := 0) (by decide) dX4_leaveSingle_91 ?_
      refine v_lcmp_eq hG 115 dX4_leaveSingle_92 dX4_leaveSingle_93 rfl hf (fun hf => ?_) (fun hf => ?_)
      · refine v_sub [(0, _), (1, _), (2, _), (3, _), (5, _), (7, _), (8, _)] [1, 2, 3, 4, 5, 6, 0] rfl ?_
        exact j115 j83_0 j83_1 j83_2 j83_3 j83_4 j83_5 hf
      · refine v_lload hG 5 rfl dX4_leaveSingle_96 ?_
        refine v_lload_n hG 4 rfl rfl dX4_leaveSingle_98 ?_
        refine v_lrem hG dX4_leaveSingle_99 hf (fun hf => ?_)
        refine v_lconst hG (v := 0) (by decide) dX4_leaveSingle_100 ?_
        refine v_lcmp_eq hG 115 dX4_leaveSingle_101 dX4_leaveSingle_102 rfl hf (fun hf => ?_) (fun hf => ?_)
        · refine v_sub [(0, _), (1, _), (2, _), (3, _), (5, _), (7, _), (8, _)] [1, 2, 3, 4, 5, 6, 0] rfl ?_
          exact j115 j83_0 j83_1 j83_2 j83_3 j83_4 j83_5 hf
        · refine v_aload_n hG 1 rfl rfl dX4_leaveSingle_105 ?_
          refine c_g_63_0 hG wk_290 dX4_leaveSingle_106 ?_
          refine v_iload hG 6 rfl dX4_leaveSingle_109 ?_
          obtain ⟨r111, hr111, hf⟩ := bd_some hf
          refine v_callV hG (st := []) 21 5 (ct_X5_endAll l g ad j83_0 j83_4 r111 hr111) iw_X5_endAll wk_610 rfl rfl ⟨rfl, rfl, Nat.le_of_ble_eq_true rfl, Nat.le_of_ble_eq_true rfl⟩ ⟨Nat.le_of_ble_eq_true rfl, Nat.le_of_ble_eq_true rfl⟩ rfl rfl (Nat.le_of_ble_eq_true rfl) (ccells_fst _ _ _ _) dX4_leaveSingle_111 ?_
          refine (show V p l e (k2_rm 2 57) s m args below meth c (inW (ccells g ad w)) (EN below args s g (ccells g ad w) (ccells g ad rr.2) (some (.int rr.1))) g 9 (ccells g ad r111.2) 0 0 114 [(8, .int j83_5), (0, .ref (ad 63)), (1, .int a0), (2, .int j83_1), (3, .long j83_2), (5, .long j83_3), (7, .int j83_4)] [.int r111.1] from ?_)
          obtain ⟨hb, hf⟩ := gd_some hf
          cases hf
          exact v_zret hG hr (isB_nar hb) dX4_leaveSingle_114
  refine v_aload_n hG 0 rfl rfl dX4_leaveSingle_0 ?_
  refine c_g_63_1 hG wk_291 dX4_leaveSingle_1 ?_
  refine v_iload_n hG 1 rfl rfl dX4_leaveSingle_4 ?_
  obtain ⟨r5, hr5, hf⟩ := bd_some hf
  refine v_callV hG (st := []) 22 6 (ct_X6_countTerms_s l g ad w a0 r5 hr5) iw_X6_countTerms wk_655 rfl rfl ⟨rfl, rfl, Nat.le_of_ble_eq_true rfl, Nat.le_of_ble_eq_true rfl⟩ ⟨Nat.le_of_ble_eq_true rfl, Nat.le_of_ble_eq_true rfl⟩ rfl rfl (Nat.le_of_ble_eq_true rfl) (ccells_fst _ _ _ _) dX4_leaveSingle_5 ?_
  refine (show V p l e (k2_rm 2 57) s m args below meth c (inW (ccells g ad w)) (EN below args s g (ccells g ad w) (ccells g ad rr.2) (some (.int rr.1))) g 9 (ccells g ad w) 0 0 8 [(0, .ref (ad 63)), (1, .int a0)] [.int r5] from ?_)
  refine v_iconst hG (v := 1) (by decide) dX4_leaveSingle_8 ?_
  refine v_icmp_eq hG 14 dX4_leaveSingle_9 rfl hf (fun hf => ?_) (fun hf => ?_)
  · refine v_aload_n hG 0 rfl rfl dX4_leaveSingle_14 ?_
    refine c_g_63_1 hG wk_291 dX4_leaveSingle_15 ?_
    refine v_iload_n hG 1 rfl rfl dX4_leaveSingle_18 ?_
    refine v_iconst hG (v := 0) (by decide) dX4_leaveSingle_19 ?_
    obtain ⟨r20, hr20, hf⟩ := bd_some hf
    refine v_callV hG (st := []) 22 6 (ct_X6_nextTerm_s l g ad w a0 0 r20 hr20) iw_X6_nextTerm wk_601 rfl rfl ⟨rfl, rfl, Nat.le_of_ble_eq_true rfl, Nat.le_of_ble_eq_true rfl⟩ ⟨Nat.le_of_ble_eq_true rfl, Nat.le_of_ble_eq_true rfl⟩ rfl rfl (Nat.le_of_ble_eq_true rfl) (ccells_fst _ _ _ _) dX4_leaveSingle_20 ?_
    refine (show V p l e (k2_rm 2 57) s m args below meth c (inW (ccells g ad w)) (EN below args s g (ccells g ad w) (ccells g ad rr.2) (some (.int rr.1))) g 9 (ccells g ad w) 0 0 23 [(0, .ref (ad 63)), (1, .int a0)] [.int r20] from ?_)
    refine v_istore_n hG [(2, _), (0, _), (1, _)] dX4_leaveSingle_23 rfl (by decide) rfl ?_
    refine v_iload_n hG 0 rfl rfl dX4_leaveSingle_24 ?_
    refine v_iconst hG (v := -1) (by decide) dX4_leaveSingle_25 ?_
    refine v_icmp_ne hG 31 dX4_leaveSingle_26 rfl hf (fun hf => ?_) (fun hf => ?_)
    · refine v_aload_n hG 1 rfl rfl dX4_leaveSingle_31 ?_
      refine c_g_63_1 hG wk_291 dX4_leaveSingle_32 ?_
      refine c_g_22_6 hG wk_150 dX4_leaveSingle_35 ?_
      refine v_iload_n hG 2 rfl rfl dX4_leaveSingle_38 ?_
      refine c_o_29 hG dX4_leaveSingle_39 hf (fun hi39 hf => ?_)
      refine v_iload_n hG 0 rfl rfl dX4_leaveSingle_40 ?_
      refine c_rl_29 hG hi39 dX4_leaveSingle_41 hf (fun hf => ?_)
      refine v_lstore_n hG [(3, _), (2, _), (0, _), (1, _)] dX4_leaveSingle_42 rfl (by decide) rfl ?_
      refine v_aload_n hG 2 rfl rfl dX4_leaveSingle_43 ?_
      refine c_g_63_1 hG wk_291 dX4_leaveSingle_44 ?_
      refine c_g_22_5 hG wk_144 dX4_leaveSingle_47 ?_
      refine v_iload_n hG 3 rfl rfl dX4_leaveSingle_50 ?_
      refine c_l_28 hG dX4_leaveSingle_51 hf (fun hf => ?_)
      refine v_lstore hG [(5, _), (3, _), (2, _), (0, _), (1, _)] dX4_leaveSingle_52 (by decide) rfl ?_
      refine v_aload_n hG 3 rfl rfl dX4_leaveSingle_54 ?_
      refine c_g_63_0 hG wk_290 dX4_leaveSingle_55 ?_
      refine c_g_21_1 hG wk_223 dX4_leaveSingle_58 ?_
      refine v_iload_n hG 4 rfl rfl dX4_leaveSingle_61 ?_
      refine c_l_42 hG dX4_leaveSingle_62 hf (fun hf => ?_)
      refine v_istore hG [(7, _), (5, _), (3, _), (2, _), (0, _), (1, _)] dX4_leaveSingle_63 (by decide) rfl ?_
      refine v_aload_n hG 4 rfl rfl dX4_leaveSingle_65 ?_
      refine c_g_63_1 hG wk_291 dX4_leaveSingle_66 ?_
      refine c_g_22_4 hG wk_138 dX4_leaveSingle_69 ?_
      refine v_iload_n hG 5 rfl rfl dX4_leaveSingle_72 ?_
      refine c_l_27 hG dX4_leaveSingle_73 hf (fun hf => ?_)
      refine v_iconst hG (v := 1) (by decide) dX4_leaveSingle_74 ?_
      refine v_icmp_ne hG 82 dX4_leaveSingle_75 rfl hf (fun hf => ?_) (fun hf => ?_)
      · refine v_iconst hG (v := 0) (by decide) dX4_leaveSingle_82 ?_
        refine v_sub [(0, _), (1, _), (2, _), (3, _), (5, _), (7, _)] [4, 5, 3, 2, 1, 0] rfl ?_
        exact j83 w r20 ((gT_a (gC_tab w)) a0.toNatClampNeg r20.toNatClampNeg) ((gT_right (gC_tab w)) a0.toNatClampNeg) ((gC_rowRest w) a0.toNatClampNeg) 0 hf
      · refine v_iconst hG (v := 1) (by decide) dX4_leaveSingle_78 ?_
        refine v_goto hG 83 dX4_leaveSingle_79 rfl ?_
        refine v_sub [(0, _), (1, _), (2, _), (3, _), (5, _), (7, _)] [4, 5, 3, 2, 1, 0] rfl ?_
        exact j83 w r20 ((gT_a (gC_tab w)) a0.toNatClampNeg r20.toNatClampNeg) ((gT_right (gC_tab w)) a0.toNatClampNeg) ((gC_rowRest w) a0.toNatClampNeg) 1 hf
    · refine v_iconst hG (v := 1) (by decide) dX4_leaveSingle_29 ?_
      cases hf
      exact v_zret (x := 1) hG hr rfl dX4_leaveSingle_30
  · refine v_iconst hG (v := 1) (by decide) dX4_leaveSingle_12 ?_
    cases hf
    exact v_zret (x := 1) hG hr rfl dX4_leaveSingle_13
def X4_holdAtEnd_J139  (j139_0 : CW) (j139_1 : Int32) : Option ((CW × Int32) ⊕ ((CW) ⊕ (CW))) := (some (.inl (j139_0, (j139_1 + 1))))
def X4_holdAtEnd_J127 (w : CW) (a0 : Int32) (r16 : Int32) (j127_0 : CW) (j127_1 : Int32) (j127_2 : Int64) (j127_3 : Int32) (j127_4 : Int32) (j127_5 : Int32) : Option ((CW × Int32) ⊕ ((CW) ⊕ (CW))) := ((X5_narrow j127_0 j127_3 j127_4 j127_5 j127_2 1 (((gC_rowRest w) a0.toNatClampNeg) ||| r16)).bind (fun r131 : Int32 × CW => (if r131.1 = 0 then (some (.inr (.inl r131.2))) else (X4_holdAtEnd_J139 r131.2 j127_1))))
def X4_holdAtEnd_J108 (w : CW) (a0 : Int32) (r16 : Int32) (j108_0 : CW) (j108_1 : Int32) (j108_2 : Int32) (j108_3 : Int64) : Option ((CW × Int32) ⊕ ((CW) ⊕ (CW))) := (if j108_2 = 0 then (X4_holdAtEnd_J127 w a0 r16 j108_0 j108_1 j108_3 a0 j108_1 1) else (X4_holdAtEnd_J127 w a0 r16 j108_0 j108_1 j108_3 a0 j108_1 0))
def X4_holdAtEnd_J78 (w : CW) (a0 : Int32) (r16 : Int32) (j78_0 : CW) (j78_1 : Int32) (j78_2 : Int32) : Option ((CW × Int32) ⊕ ((CW) ⊕ (CW))) := (if j78_2 = 0 then (if inR j78_1 12 = true then (X4_holdAtEnd_J108 w a0 r16 j78_0 j78_1 j78_2 ((gT_low (gC_tab j78_0)) j78_1.toNatClampNeg)) else none) else (if inR j78_1 12 = true then (X4_holdAtEnd_J108 w a0 r16 j78_0 j78_1 j78_2 ((gT_high (gC_tab j78_0)) j78_1.toNatClampNeg)) else none))
def X4_holdAtEnd_J69 (w : CW) (a0 : Int32) (a1 : Int32) (r16 : Int32) (j69_0 : CW) (j69_1 : Int32) (j69_2 : Int32) : Option ((CW × Int32) ⊕ ((CW) ⊕ (CW))) := (if j69_2 = a1 then (X4_holdAtEnd_J78 w a0 r16 j69_0 j69_1 1) else (X4_holdAtEnd_J78 w a0 r16 j69_0 j69_1 0))
def X4_holdAtEnd_L24 (w : CW) (a0 : Int32) (a1 : Int32) (r16 : Int32) (s24 : CW × Int32) : Option ((CW × Int32) ⊕ ((CW) ⊕ (CW))) := (if (gT_columns (gC_tab s24.1)) ≤ s24.2 then (some (.inr (.inr s24.1))) else (if inR a0 12 = true then (if inR s24.2 12 = true then (if ((gT_a (gC_tab s24.1)) a0.toNatClampNeg s24.2.toNatClampNeg) = 0 then (X4_holdAtEnd_J139 s24.1 s24.2) else (if ((gT_a (gC_tab s24.1)) a0.toNatClampNeg s24.2.toNatClampNeg) ≤ 0 then (X4_holdAtEnd_J69 w a0 a1 r16 s24.1 s24.2 0) else (X4_holdAtEnd_J69 w a0 a1 r16 s24.1 s24.2 1))) else none) else none))
def X4_holdAtEnd (w : CW) (a0 : Int32) (a1 : Int32) : Option (Int32 × CW) := (if inR a0 12 = true then ((X5_reachRest w a0 (-1) a1).bind (fun r16 : Int32 => ((iter (X4_holdAtEnd_L24 w a0 a1 r16) 5000 (w, 0)).bind (fun z24 : (CW) ⊕ (CW) => (Sum.elim (fun z24_0 : CW => (some (0, z24_0))) (fun z24_r0 : (CW) => ((X5_leaveOut z24_r0 a0).bind (fun r150 : CW => (some (1, r150))))) z24))))) else none)
set_option maxRecDepth 100000 in
set_option maxHeartbeats 4000000 in
theorem ct_X4_holdAtEnd (l : Launch) (g : wG) (ad : Nat → Nat) (w : CW) (a0 : Int32) (a1 : Int32) (rr : Int32 × CW) (hf : X4_holdAtEnd w a0 a1 = some rr) : MetN l g yX4_holdAtEnd cX4_holdAtEnd 10 (some .boolean) (k2_rm 2 57) [.ref (ad 63), .int a0, .int a1] (ccells g ad w) (ccells g ad rr.2) (some (.int rr.1)) := by
  refine MetN.of2 [(0, .ref (ad 63)), (1, .int a0), (2, .int a1)] rfl (by decide +kernel) (Nat.le_of_ble_eq_true rfl) ?_
  intro p e s m args below meth c hG hr
  unfold X4_holdAtEnd at hf
  refine v_aload_n hG 0 rfl rfl dX4_holdAtEnd_0 ?_
  refine c_g_63_0 hG wk_290 dX4_holdAtEnd_1 ?_
  refine c_g_21_1 hG wk_223 dX4_holdAtEnd_4 ?_
  refine v_iload_n hG 1 rfl rfl dX4_holdAtEnd_7 ?_
  refine c_l_42 hG dX4_holdAtEnd_8 hf (fun hf => ?_)
  refine v_aload_n hG 0 rfl rfl dX4_holdAtEnd_9 ?_
  refine c_g_63_0 hG wk_290 dX4_holdAtEnd_10 ?_
  refine v_iload_n hG 1 rfl rfl dX4_holdAtEnd_13 ?_
  refine v_iconst hG (v := -1) (by decide) dX4_holdAtEnd_14 ?_
  refine v_iload_n hG 2 rfl rfl dX4_holdAtEnd_15 ?_
  obtain ⟨r16, hr16, hf⟩ := bd_some hf
  refine v_callV hG (st := [.int ((gC_rowRest w) a0.toNatClampNeg)]) 21 5 (ct_X5_reachRest l g ad w a0 (-1) a1 r16 hr16) iw_X5_reachRest wk_673 rfl rfl ⟨rfl, rfl, Nat.le_of_ble_eq_true rfl, Nat.le_of_ble_eq_true rfl⟩ ⟨Nat.le_of_ble_eq_true rfl, Nat.le_of_ble_eq_true rfl⟩ rfl rfl (Nat.le_of_ble_eq_true rfl) (ccells_fst _ _ _ _) dX4_holdAtEnd_16 ?_
  refine (show V p l e (k2_rm 2 57) s m args below meth c (inW (ccells g ad w)) (EN below args s g (ccells g ad w) (ccells g ad rr.2) (some (.int rr.1))) g 10 (ccells g ad w) 0 0 19 [(0, .ref (ad 63)), (1, .int a0), (2, .int a1)] [.int r16, .int ((gC_rowRest w) a0.toNatClampNeg)] from ?_)
  refine v_ior hG dX4_holdAtEnd_19 ?_
  refine v_istore_n hG [(3, _), (0, _), (1, _), (2, _)] dX4_holdAtEnd_20 rfl (by decide) rfl ?_
  refine v_iconst hG (v := 0) (by decide) dX4_holdAtEnd_21 ?_
  refine v_istore hG [(4, _), (3, _), (0, _), (1, _), (2, _)] dX4_holdAtEnd_22 (by decide) rfl ?_
  refine v_sub [(0, _), (1, _), (2, _), (3, _), (4, _)] [2, 3, 4, 1, 0] rfl ?_
  obtain ⟨z24, hlz24, hf⟩ := bd_some hf
  refine loop_v (step := X4_holdAtEnd_L24 w a0 a1 r16) (fun s24 : CW × Int32 => V p l e (k2_rm 2 57) s m args below meth c (inW (ccells g ad w)) (EN below args s g (ccells g ad w) (ccells g ad rr.2) (some (.int rr.1))) g 10 (ccells g ad s24.1) 0 0 24 [(0, .ref (ad 63)), (1, .int a0), (2, .int a1), (3, .int (((gC_rowRest w) a0.toNatClampNeg) ||| r16)), (4, .int s24.2)] []) (fun z24_q : (CW) ⊕ (CW) => Sum.elim (fun z24_0 : CW => V p l e (k2_rm 2 57) s m args below meth c (inW (ccells g ad w)) (EN below args s g (ccells g ad w) (ccells g ad rr.2) (some (.int rr.1))) g 10 (ccells g ad z24_0) 0 0 137 [] []) (fun z24_r0 : (CW) => V p l e (k2_rm 2 57) s m args below meth c (inW (ccells g ad w)) (EN below args s g (ccells g ad w) (ccells g ad rr.2) (some (.int rr.1))) g 10 (ccells g ad z24_r0) 0 0 145 [(0, .ref (ad 63)), (1, .int a0)] []) z24_q) ?_ 5000 (w, 0) z24 hlz24 ?_
  · intro s24 rL hf hin hout
    unfold X4_holdAtEnd_L24 at hf
    have j139 : ∀ (j139_0 : CW) (j139_1 : Int32), X4_holdAtEnd_J139 j139_0 j139_1 = some rL → V p l e (k2_rm 2 57) s m args below meth c (inW (ccells g ad w)) (EN below args s g (ccells g ad w) (ccells g ad rr.2) (some (.int rr.1))) g 10 (ccells g ad j139_0) 0 0 139 [(0, .ref (ad 63)), (1, .int a0), (2, .int a1), (3, .int (((gC_rowRest w) a0.toNatClampNeg) ||| r16)), (4, .int j139_1)] [] := by
      intro j139_0 j139_1 hf
      unfold X4_holdAtEnd_J139 at hf
      refine v_iinc hG 4 (v := j139_1 + 1) [(4, _), (0, _), (1, _), (2, _), (3, _)] dX4_holdAtEnd_139 rfl rfl (by decide) rfl ?_
      refine v_goto hG 24 dX4_holdAtEnd_142 rfl ?_
      refine v_sub [(0, _), (1, _), (2, _), (3, _), (4, _)] [1, 2, 3, 4, 0] rfl ?_
      exact hin _ (Option.some.inj hf).symm
    have j127 : ∀ (j127_0 : CW) (j127_1 : Int32) (j127_2 : Int64) (j127_3 : Int32) (j127_4 : Int32) (j127_5 : Int32), X4_holdAtEnd_J127 w a0 r16 j127_0 j127_1 j127_2 j127_3 j127_4 j127_5 = some rL → V p l e (k2_rm 2 57) s m args below meth c (inW (ccells g ad w)) (EN below args s g (ccells g ad w) (ccells g ad rr.2) (some (.int rr.1))) g 10 (ccells g ad j127_0) 0 0 127 [(0, .ref (ad 63)), (1, .int a0), (2, .int a1), (3, .int (((gC_rowRest w) a0.toNatClampNeg) ||| r16)), (4, .int j127_1), (8, .long j127_2)] [.int j127_5, .int j127_4, .int j127_3, .ref (ad 21)] := by
      intro j127_0 j127_1 j127_2 j127_3 j127_4 j127_5 hf
      unfold X4_holdAtEnd_J127 at hf
      refine v_lload hG 5 rfl dX4_holdAtEnd_127 ?_
      refine v_lconst hG (v := 1) (by decide) dX4_holdAtEnd_129 ?_
      refine v_iload_n hG 3 rfl rfl dX4_holdAtEnd_130 ?_
      obtain ⟨r131, hr131, hf⟩ := bd_some hf
      refine v_callV hG (st := []) 21 5 (ct_X5_narrow l g ad j127_0 j127_3 j127_4 j127_5 j127_2 1 (((gC_rowRest w) a0.toNatClampNeg) ||| r16) r131 hr131) iw_X5_narrow wk_659 rfl rfl ⟨rfl, rfl, Nat.le_of_ble_eq_true rfl, Nat.le_of_ble_eq_true rfl⟩ ⟨Nat.le_of_ble_eq_true rfl, Nat.le_of_ble_eq_true rfl⟩ rfl rfl (Nat.le_of_ble_eq_true rfl) (ccells_fst _ _ _ _) dX4_holdAtEnd_131 ?_
      refine (show V p l e (k2_rm 2 57) s m args below meth c (inW (ccells g ad w)) (EN below args s g (ccells g ad w) (ccells g ad rr.2) (some (.int rr.1))) g 10 (ccells g ad r131.2) 0 0 134 [(0, .ref (ad 63)), (1, .int a0), (2, .int a1), (3, .int (((gC_rowRest w) a0.toNatClampNeg) ||| r16)), (4, .int j127_1), (8, .long j127_2)] [.int r131.1] from ?_)
      refine v_if_ne hG 139 dX4_holdAtEnd_134 rfl hf (fun hf => ?_) (fun hf => ?_)
      · refine v_sub [(0, _), (1, _), (2, _), (3, _), (4, _)] [0, 1, 2, 3, 4] rfl ?_
        exact j139 r131.2 j127_1 hf
      · refine v_sub [] [] rfl ?_
        exact hout _ (Option.some.inj hf).symm
    have j108 : ∀ (j108_0 : CW) (j108_1 : Int32) (j108_2 : Int32) (j108_3 : Int64), X4_holdAtEnd_J108 w a0 r16 j108_0 j108_1 j108_2 j108_3 = some rL → V p l e (k2_rm 2 57) s m args below meth c (inW (ccells g ad w)) (EN below args s g (ccells g ad w) (ccells g ad rr.2) (some (.int rr.1))) g 10 (ccells g ad j108_0) 0 0 108 [(0, .ref (ad 63)), (1, .int a0), (2, .int a1), (3, .int (((gC_rowRest w) a0.toNatClampNeg) ||| r16)), (4, .int j108_1), (7, .int j108_2)] [.long j108_3] := by
      intro j108_0 j108_1 j108_2 j108_3 hf
      unfold X4_holdAtEnd_J108 at hf
      refine v_lstore hG [(8, _), (0, _), (1, _), (2, _), (3, _), (4, _), (7, _)] dX4_holdAtEnd_108 (by decide) rfl ?_
      refine v_aload_n hG 1 rfl rfl dX4_holdAtEnd_110 ?_
      refine c_g_63_0 hG wk_290 dX4_holdAtEnd_111 ?_
      refine v_iload_n hG 2 rfl rfl dX4_holdAtEnd_114 ?_
      refine v_iload hG 5 rfl dX4_holdAtEnd_115 ?_
      refine v_iload hG 6 rfl dX4_holdAtEnd_117 ?_
      refine v_if_ne hG 126 dX4_holdAtEnd_119 rfl hf (fun hf => ?_) (fun hf => ?_)
      · refine v_iconst hG (v := 0) (by decide) dX4_holdAtEnd_126 ?_
        refine v_sub [(0, _), (1, _), (2, _), (3, _), (4, _), (8, _)] [1, 2, 3, 4, 5, 0] rfl ?_
        exact j127 j108_0 j108_1 j108_3 a0 j108_1 0 hf
      · refine v_iconst hG (v := 1) (by decide) dX4_holdAtEnd_122 ?_
        refine v_goto hG 127 dX4_holdAtEnd_123 rfl ?_
        refine v_sub [(0, _), (1, _), (2, _), (3, _), (4, _), (8, _)] [1, 2, 3, 4, 5, 0] rfl ?_
        exact j127 j108_0 j108_1 j108_3 a0 j108_1 1 hf
    have j78 : ∀ (j78_0 : CW) (j78_1 : Int32) (j78_2 : Int32), X4_holdAtEnd_J78 w a0 r16 j78_0 j78_1 j78_2 = some rL → V p l e (k2_rm 2 57) s m args below meth c (inW (ccells g ad w)) (EN below args s g (ccells g ad w) (ccells g ad rr.2) (some (.int rr.1))) g 10 (ccells g ad j78_0) 0 0 78 [(0, .ref (ad 63)), (1, .int a0), (2, .int a1), (3, .int (((gC_rowRest w) a0.toNatClampNeg) ||| r16)), (4, .int j78_1)] [.int j78_2] := by
      intro j78_0 j78_1 j78_2 hf
      unfold X4_holdAtEnd_J78 at hf
      refine v_istore hG [(7, _), (0, _), (1, _), (2, _), (3, _), (4, _)] dX4_holdAtEnd_78 (by decide) rfl ?_
      refine v_iload hG 0 rfl dX4_holdAtEnd_80 ?_
      refine v_if_eq hG 98 dX4_holdAtEnd_82 rfl hf (fun hf => ?_) (fun hf => ?_)
      · refine v_aload_n hG 1 rfl rfl dX4_holdAtEnd_98 ?_
        refine c_g_63_1 hG wk_291 dX4_holdAtEnd_99 ?_
        refine c_g_22_0 hG wk_121 dX4_holdAtEnd_102 ?_
        refine v_iload hG 5 rfl dX4_holdAtEnd_105 ?_
        refine c_l_23 hG dX4_holdAtEnd_107 hf (fun hf => ?_)
        refine v_sub [(0, _), (1, _), (2, _), (3, _), (4, _), (7, _)] [1, 2, 3, 4, 5, 0] rfl ?_
        exact j108 j78_0 j78_1 j78_2 ((gT_low (gC_tab j78_0)) j78_1.toNatClampNeg) hf
      · refine v_aload_n hG 1 rfl rfl dX4_holdAtEnd_85 ?_
        refine c_g_63_1 hG wk_291 dX4_holdAtEnd_86 ?_
        refine c_g_22_1 hG wk_128 dX4_holdAtEnd_89 ?_
        refine v_iload hG 5 rfl dX4_holdAtEnd_92 ?_
        refine c_l_24 hG dX4_holdAtEnd_94 hf (fun hf => ?_)
        refine v_goto hG 108 dX4_holdAtEnd_95 rfl ?_
        refine v_sub [(0, _), (1, _), (2, _), (3, _), (4, _), (7, _)] [1, 2, 3, 4, 5, 0] rfl ?_
        exact j108 j78_0 j78_1 j78_2 ((gT_high (gC_tab j78_0)) j78_1.toNatClampNeg) hf
    have j69 : ∀ (j69_0 : CW) (j69_1 : Int32) (j69_2 : Int32), X4_holdAtEnd_J69 w a0 a1 r16 j69_0 j69_1 j69_2 = some rL → V p l e (k2_rm 2 57) s m args below meth c (inW (ccells g ad w)) (EN below args s g (ccells g ad w) (ccells g ad rr.2) (some (.int rr.1))) g 10 (ccells g ad j69_0) 0 0 69 [(0, .ref (ad 63)), (1, .int a0), (2, .int a1), (3, .int (((gC_rowRest w) a0.toNatClampNeg) ||| r16)), (4, .int j69_1)] [.int j69_2] := by
      intro j69_0 j69_1 j69_2 hf
      unfold X4_holdAtEnd_J69 at hf
      refine v_iload_n hG 2 rfl rfl dX4_holdAtEnd_69 ?_
      refine v_icmp_ne hG 77 dX4_holdAtEnd_70 rfl hf (fun hf => ?_) (fun hf => ?_)
      · refine v_iconst hG (v := 0) (by decide) dX4_holdAtEnd_77 ?_
        exact j78 j69_0 j69_1 0 hf
      · refine v_iconst hG (v := 1) (by decide) dX4_holdAtEnd_73 ?_
        refine v_goto hG 78 dX4_holdAtEnd_74 rfl ?_
        exact j78 j69_0 j69_1 1 hf
    refine v_iload hG 4 rfl dX4_holdAtEnd_24 ?_
    refine v_aload_n hG 0 rfl rfl dX4_holdAtEnd_26 ?_
    refine c_g_63_1 hG wk_291 dX4_holdAtEnd_27 ?_
    refine c_g_22_7 hG wk_159 dX4_holdAtEnd_30 ?_
    refine v_icmp_ge hG 145 dX4_holdAtEnd_33 rfl hf (fun hf => ?_) (fun hf => ?_)
    · refine v_sub [(0, _), (1, _)] [0, 1] rfl ?_
      exact hout _ (Option.some.inj hf).symm
    · refine v_aload_n hG 0 rfl rfl dX4_holdAtEnd_36 ?_
      refine c_g_63_1 hG wk_291 dX4_holdAtEnd_37 ?_
      refine c_g_22_6 hG wk_150 dX4_holdAtEnd_40 ?_
      refine v_iload_n hG 1 rfl rfl dX4_holdAtEnd_43 ?_
      refine c_o_29 hG dX4_holdAtEnd_44 hf (fun hi44 hf => ?_)
      refine v_iload hG 4 rfl dX4_holdAtEnd_45 ?_
      refine c_rl_29 hG hi44 dX4_holdAtEnd_47 hf (fun hf => ?_)
      refine v_lstore hG [(5, _), (0, _), (1, _), (2, _), (3, _), (4, _)] dX4_holdAtEnd_48 (by decide) rfl ?_
      refine v_lload hG 0 rfl dX4_holdAtEnd_50 ?_
      refine v_lconst hG (v := 0) (by decide) dX4_holdAtEnd_52 ?_
      refine v_lcmp_eq hG 139 dX4_holdAtEnd_53 dX4_holdAtEnd_54 rfl hf (fun hf => ?_) (fun hf => ?_)
      · refine v_sub [(0, _), (1, _), (2, _), (3, _), (4, _)] [1, 2, 3, 4, 5] rfl ?_
        exact j139 s24.1 s24.2 hf
      · refine v_lload hG 0 rfl dX4_holdAtEnd_57 ?_
        refine v_lconst hG (v := 0) (by decide) dX4_holdAtEnd_59 ?_
        refine v_lcmp_le hG 68 dX4_holdAtEnd_60 dX4_holdAtEnd_61 rfl hf (fun hf => ?_) (fun hf => ?_)
        · refine v_iconst hG (v := 0) (by decide) dX4_holdAtEnd_68 ?_
          refine v_sub [(0, _), (1, _), (2, _), (3, _), (4, _)] [1, 2, 3, 4, 5] rfl ?_
          exact j69 s24.1 s24.2 0 hf
        · refine v_iconst hG (v := 1) (by decide) dX4_holdAtEnd_64 ?_
          refine v_goto hG 69 dX4_holdAtEnd_65 rfl ?_
          refine v_sub [(0, _), (1, _), (2, _), (3, _), (4, _)] [1, 2, 3, 4, 5] rfl ?_
          exact j69 s24.1 s24.2 1 hf
  · rcases z24 with z24_x0 | z24_x0
    · simp only [Sum.elim_inl] at hf
      show V p l e (k2_rm 2 57) s m args below meth c (inW (ccells g ad w)) (EN below args s g (ccells g ad w) (ccells g ad rr.2) (some (.int rr.1))) g 10 (ccells g ad z24_x0) 0 0 137 [] []
      refine v_iconst hG (v := 0) (by decide) dX4_holdAtEnd_137 ?_
      cases hf
      exact v_zret (x := 0) hG hr rfl dX4_holdAtEnd_138
    · simp only [Sum.elim_inr] at hf
      show V p l e (k2_rm 2 57) s m args below meth c (inW (ccells g ad w)) (EN below args s g (ccells g ad w) (ccells g ad rr.2) (some (.int rr.1))) g 10 (ccells g ad z24_x0) 0 0 145 [(0, .ref (ad 63)), (1, .int a0)] []
      refine v_aload_n hG 0 rfl rfl dX4_holdAtEnd_145 ?_
      refine c_g_63_0 hG wk_290 dX4_holdAtEnd_146 ?_
      refine v_iload_n hG 1 rfl rfl dX4_holdAtEnd_149 ?_
      obtain ⟨r150, hr150, hf⟩ := bd_some hf
      refine v_callV hG (st := []) 21 5 (ct_X5_leaveOut l g ad z24_x0 a0 r150 hr150) iw_X5_leaveOut wk_614 rfl rfl ⟨rfl, rfl, Nat.le_of_ble_eq_true rfl, Nat.le_of_ble_eq_true rfl⟩ ⟨Nat.le_of_ble_eq_true rfl, Nat.le_of_ble_eq_true rfl⟩ rfl rfl (Nat.le_of_ble_eq_true rfl) (ccells_fst _ _ _ _) dX4_holdAtEnd_150 ?_
      refine (show V p l e (k2_rm 2 57) s m args below meth c (inW (ccells g ad w)) (EN below args s g (ccells g ad w) (ccells g ad rr.2) (some (.int rr.1))) g 10 (ccells g ad r150) 0 0 153 [(0, .ref (ad 63)), (1, .int a0)] [] from ?_)
      refine v_iconst hG (v := 1) (by decide) dX4_holdAtEnd_153 ?_
      cases hf
      exact v_zret (x := 1) hG hr rfl dX4_holdAtEnd_154
def X4_lookAtSpan_J151 (a0 : Int32) (j151_0 : CW) (j151_1 : Int64) (j151_2 : Int32) (j151_3 : Int64) (j151_4 : Int64) : Option (Int32 × CW) := (if j151_3 = j151_1 then ((X4_holdAtEnd j151_0 a0 0).bind (fun r161 : Int32 × CW => (if isB r161.1 = true then some (r161.1, r161.2) else none))) else (if j151_2 = 0 then (some (1, j151_0)) else (if j151_4 = j151_1 then ((X4_holdAtEnd j151_0 a0 1).bind (fun r180 : Int32 × CW => (if isB r180.1 = true then some (r180.1, r180.2) else none))) else (some (1, j151_0)))))
def X4_lookAtSpan_J129 (a0 : Int32) (j129_0 : CW) (j129_1 : Int64) (j129_2 : Int32) (j129_3 : Int64) (j129_4 : Int64) : Option (Int32 × CW) := (if j129_2 = 0 then (if j129_1 < j129_4 then (X4_lookAtSpan_J151 a0 j129_0 j129_1 j129_2 j129_3 j129_4) else ((X5_leaveOut j129_0 a0).bind (fun r146 : CW => (some (1, r146))))) else (X4_lookAtSpan_J151 a0 j129_0 j129_1 j129_2 j129_3 j129_4))
def X4_lookAtSpan_J28 (a0 : Int32) (j28_0 : CW) (j28_1 : Int64) (j28_2 : Int32) : Option (Int32 × CW) := ((X5_reach j28_0 a0 (-1) 0).bind (fun r37 : Int64 => ((X5_reach j28_0 a0 (-1) 1).bind (fun r49 : Int64 => (if r37 ≤ j28_1 then (if j28_2 = 0 then (X4_lookAtSpan_J129 a0 j28_0 j28_1 j28_2 r37 r49) else (if j28_1 ≤ r49 then (X4_lookAtSpan_J129 a0 j28_0 j28_1 j28_2 r37 r49) else (if inR a0 12 = true then ((X5_reachRest j28_0 a0 (-1) 1).bind (fun r121 : Int32 => ((X5_endAll j28_0 (((gC_rowRest j28_0) a0.toNatClampNeg) ||| r121)).bind (fun r125 : Int32 × CW => (if isB r125.1 = true then some (r125.1, r125.2) else none))))) else none))) else (if inR a0 12 = true then ((X5_reachRest j28_0 a0 (-1) 0).bind (fun r81 : Int32 => ((X5_endAll j28_0 (((gC_rowRest j28_0) a0.toNatClampNeg) ||| r81)).bind (fun r85 : Int32 × CW => (if isB r85.1 = true then some (r85.1, r85.2) else none))))) else none))))))
def X4_lookAtSpan (w : CW) (a0 : Int32) : Option (Int32 × CW) := (if inR a0 12 = true then (if inR a0 12 = true then (if ((gT_kind (gC_tab w)) a0.toNatClampNeg) = 1 then (X4_lookAtSpan_J28 a0 w ((gT_right (gC_tab w)) a0.toNatClampNeg) 1) else (X4_lookAtSpan_J28 a0 w ((gT_right (gC_tab w)) a0.toNatClampNeg) 0)) else none) else none)
set_option maxRecDepth 100000 in
set_option maxHeartbeats 4000000 in
theorem ct_X4_lookAtSpan (l : Launch) (g : wG) (ad : Nat → Nat) (w : CW) (a0 : Int32) (rr : Int32 × CW) (hf : X4_lookAtSpan w a0 = some rr) : MetN l g yX4_lookAtSpan cX4_lookAtSpan 9 (some .boolean) (k2_rm 3 86) [.ref (ad 63), .int a0] (ccells g ad w) (ccells g ad rr.2) (some (.int rr.1)) := by
  refine MetN.of2 [(0, .ref (ad 63)), (1, .int a0)] rfl (by decide +kernel) (Nat.le_of_ble_eq_true rfl) ?_
  intro p e s m args below meth c hG hr
  unfold X4_lookAtSpan at hf
  have j151 : ∀ (j151_0 : CW) (j151_1 : Int64) (j151_2 : Int32) (j151_3 : Int64) (j151_4 : Int64), X4_lookAtSpan_J151 a0 j151_0 j151_1 j151_2 j151_3 j151_4 = some rr → V p l e (k2_rm 3 86) s m args below meth c (inW (ccells g ad w)) (EN below args s g (ccells g ad w) (ccells g ad rr.2) (some (.int rr.1))) g 9 (ccells g ad j151_0) 0 0 151 [(0, .ref (ad 63)), (1, .int a0), (2, .long j151_1), (4, .int j151_2), (5, .long j151_3), (7, .long j151_4)] [] := by
    intro j151_0 j151_1 j151_2 j151_3 j151_4 hf
    unfold X4_lookAtSpan_J151 at hf
    refine v_lload hG 4 rfl dX4_lookAtSpan_151 ?_
    refine v_lload_n hG 2 rfl rfl dX4_lookAtSpan_153 ?_
    refine v_lcmp_ne hG 165 dX4_lookAtSpan_154 dX4_lookAtSpan_155 rfl hf (fun hf => ?_) (fun hf => ?_)
    · refine v_iload hG 3 rfl dX4_lookAtSpan_165 ?_
      refine v_if_eq hG 184 dX4_lookAtSpan_167 rfl hf (fun hf => ?_) (fun hf => ?_)
      · refine v_iconst hG (v := 1) (by decide) dX4_lookAtSpan_184 ?_
        cases hf
        exact v_zret (x := 1) hG hr rfl dX4_lookAtSpan_185
      · refine v_lload hG 5 rfl dX4_lookAtSpan_170 ?_
        refine v_lload_n hG 2 rfl rfl dX4_lookAtSpan_172 ?_
        refine v_lcmp_ne hG 184 dX4_lookAtSpan_173 dX4_lookAtSpan_174 rfl hf (fun hf => ?_) (fun hf => ?_)
        · refine v_iconst hG (v := 1) (by decide) dX4_lookAtSpan_184 ?_
          cases hf
          exact v_zret (x := 1) hG hr rfl dX4_lookAtSpan_185
        · refine v_aload_n hG 0 rfl rfl dX4_lookAtSpan_177 ?_
          refine v_iload_n hG 1 rfl rfl dX4_lookAtSpan_178 ?_
          refine v_iconst hG (v := 1) (by decide) dX4_lookAtSpan_179 ?_
          obtain ⟨r180, hr180, hf⟩ := bd_some hf
          refine v_callV hG (st := []) 63 4 (ct_X4_holdAtEnd l g ad j151_0 a0 1 r180 hr180) iw_X4_holdAtEnd wk_677 rfl rfl ⟨rfl, rfl, Nat.le_of_ble_eq_true rfl, Nat.le_of_ble_eq_true rfl⟩ ⟨Nat.le_of_ble_eq_true rfl, Nat.le_of_ble_eq_true rfl⟩ rfl rfl (Nat.le_of_ble_eq_true rfl) (ccells_fst _ _ _ _) dX4_lookAtSpan_180 ?_
          refine (show V p l e (k2_rm 3 86) s m args below meth c (inW (ccells g ad w)) (EN below args s g (ccells g ad w) (ccells g ad rr.2) (some (.int rr.1))) g 9 (ccells g ad r180.2) 0 0 183 [(0, .ref (ad 63)), (1, .int a0), (2, .long j151_1), (4, .int j151_2), (5, .long j151_3), (7, .long j151_4)] [.int r180.1] from ?_)
          obtain ⟨hb, hf⟩ := gd_some hf
          cases hf
          exact v_zret hG hr (isB_nar hb) dX4_lookAtSpan_183
    · refine v_aload_n hG 0 rfl rfl dX4_lookAtSpan_158 ?_
      refine v_iload_n hG 1 rfl rfl dX4_lookAtSpan_159 ?_
      refine v_iconst hG (v := 0) (by decide) dX4_lookAtSpan_160 ?_
      obtain ⟨r161, hr161, hf⟩ := bd_some hf
      refine v_callV hG (st := []) 63 4 (ct_X4_holdAtEnd l g ad j151_0 a0 0 r161 hr161) iw_X4_holdAtEnd wk_677 rfl rfl ⟨rfl, rfl, Nat.le_of_ble_eq_true rfl, Nat.le_of_ble_eq_true rfl⟩ ⟨Nat.le_of_ble_eq_true rfl, Nat.le_of_ble_eq_true rfl⟩ rfl rfl (Nat.le_of_ble_eq_true rfl) (ccells_fst _ _ _ _) dX4_lookAtSpan_161 ?_
      refine (show V p l e (k2_rm 3 86) s m args below meth c (inW (ccells g ad w)) (EN below args s g (ccells g ad w) (ccells g ad rr.2) (some (.int rr.1))) g 9 (ccells g ad r161.2) 0 0 164 [(0, .ref (ad 63)), (1, .int a0), (2, .long j151_1), (4, .int j151_2), (5, .long j151_3), (7, .long j151_4)] [.int r161.1] from ?_)
      obtain ⟨hb, hf⟩ := gd_some hf
      cases hf
      exact v_zret hG hr (isB_nar hb) dX4_lookAtSpan_164
  have j129 : ∀ (j129_0 : CW) (j129_1 : Int64) (j129_2 : Int32) (j129_3 : Int64) (j129_4 : Int64), X4_lookAtSpan_J129 a0 j129_0 j129_1 j129_2 j129_3 j129_4 = some rr → V p l e (k2_rm 3 86) s m args below meth c (inW (ccells g ad w)) (EN below args s g (ccells g ad w) (ccells g ad rr.2) (some (.int rr.1))) g 9 (ccells g ad j129_0) 0 0 129 [(0, .ref (ad 63)), (1, .int a0), (2, .long j129_1), (4, .int j129_2), (5, .long j129_3), (7, .long j129_4)] [] := by
    intro j129_0 j129_1 j129_2 j129_3 j129_4 hf
    unfold X4_lookAtSpan_J129 at hf
    refine v_iload hG 3 rfl dX4_lookAtSpan_129 ?_
    refine v_if_ne hG 151 dX4_lookAtSpan_131 rfl hf (fun hf => ?_) (fun hf => ?_)
    · exact j151 j129_0 j129_1 j129_2 j129_3 j129_4 hf
    · refine v_lload hG 5 rfl dX4_lookAtSpan_134 ?_
      refine v_lload_n hG 2 rfl rfl dX4_lookAtSpan_136 ?_
      refine v_lcmp_gt hG 151 dX4_lookAtSpan_137 dX4_lookAtSpan_138 rfl hf (fun hf => ?_) (fun hf => ?_)
      · exact j151 j129_0 j129_1 j129_2 j129_3 j129_4 hf
      · refine v_aload_n hG 0 rfl rfl dX4_lookAtSpan_141 ?_
        refine c_g_63_0 hG wk_290 dX4_lookAtSpan_142 ?_
        refine v_iload_n hG 1 rfl rfl dX4_lookAtSpan_145 ?_
        obtain ⟨r146, hr146, hf⟩ := bd_some hf
        refine v_callV hG (st := []) 21 5 (ct_X5_leaveOut l g ad j129_0 a0 r146 hr146) iw_X5_leaveOut wk_614 rfl rfl ⟨rfl, rfl, Nat.le_of_ble_eq_true rfl, Nat.le_of_ble_eq_true rfl⟩ ⟨Nat.le_of_ble_eq_true rfl, Nat.le_of_ble_eq_true rfl⟩ rfl rfl (Nat.le_of_ble_eq_true rfl) (ccells_fst _ _ _ _) dX4_lookAtSpan_146 ?_
        refine (show V p l e (k2_rm 3 86) s m args below meth c (inW (ccells g ad w)) (EN below args s g (ccells g ad w) (ccells g ad rr.2) (some (.int rr.1))) g 9 (ccells g ad r146) 0 0 149 [(0, .ref (ad 63)), (1, .int a0), (2, .long j129_1), (4, .int j129_2), (5, .long j129_3), (7, .long j129_4)] [] from ?_)
        refine v_iconst hG (v := 1) (by decide) dX4_lookAtSpan_149 ?_
        cases hf
        exact v_zret (x := 1) hG hr rfl dX4_lookAtSpan_150
  have j28 : ∀ (j28_0 : CW) (j28_1 : Int64) (j28_2 : Int32), X4_lookAtSpan_J28 a0 j28_0 j28_1 j28_2 = some rr → V p l e (k2_rm 3 86) s m args below meth c (inW (ccells g ad w)) (EN below args s g (ccells g ad w) (ccells g ad rr.2) (some (.int rr.1))) g 9 (ccells g ad j28_0) 0 0 28 [(0, .ref (ad 63)), (1, .int a0), (2, .long j28_1)] [.int j28_2] := by
    intro j28_0 j28_1 j28_2 hf
    unfold X4_lookAtSpan_J28 at hf
    refine v_istore hG [(4, _), (0, _), (1, _), (2, _)] dX4_lookAtSpan_28 (by decide) rfl ?_
    refine v_aload_n hG 1 rfl rfl dX4_lookAtSpan_30 ?_
    refine c_g_63_0 hG wk_290 dX4_lookAtSpan_31 ?_
    refine v_iload_n hG 2 rfl rfl dX4_lookAtSpan_34 ?_
    refine v_iconst hG (v := -1) (by decide) dX4_lookAtSpan_35 ?_
    refine v_iconst hG (v := 0) (by decide) dX4_lookAtSpan_36 ?_
    obtain ⟨r37, hr37, hf⟩ := bd_some hf
    refine v_callV hG (st := []) 21 5 (ct_X5_reach l g ad j28_0 a0 (-1) 0 r37 hr37) iw_X5_reach wk_669 rfl rfl ⟨rfl, rfl, Nat.le_of_ble_eq_true rfl, Nat.le_of_ble_eq_true rfl⟩ ⟨Nat.le_of_ble_eq_true rfl, Nat.le_of_ble_eq_true rfl⟩ rfl rfl (Nat.le_of_ble_eq_true rfl) (ccells_fst _ _ _ _) dX4_lookAtSpan_37 ?_
    refine (show V p l e (k2_rm 3 86) s m args below meth c (inW (ccells g ad w)) (EN below args s g (ccells g ad w) (ccells g ad rr.2) (some (.int rr.1))) g 9 (ccells g ad j28_0) 0 0 40 [(4, .int j28_2), (0, .ref (ad 63)), (1, .int a0), (2, .long j28_1)] [.long r37] from ?_)
    refine v_lstore hG [(5, _), (4, _), (0, _), (1, _), (2, _)] dX4_lookAtSpan_40 (by decide) rfl ?_
    refine v_aload_n hG 2 rfl rfl dX4_lookAtSpan_42 ?_
    refine c_g_63_0 hG wk_290 dX4_lookAtSpan_43 ?_
    refine v_iload_n hG 3 rfl rfl dX4_lookAtSpan_46 ?_
    refine v_iconst hG (v := -1) (by decide) dX4_lookAtSpan_47 ?_
    refine v_iconst hG (v := 1) (by decide) dX4_lookAtSpan_48 ?_
    obtain ⟨r49, hr49, hf⟩ := bd_some hf
    refine v_callV hG (st := []) 21 5 (ct_X5_reach l g ad j28_0 a0 (-1) 1 r49 hr49) iw_X5_reach wk_669 rfl rfl ⟨rfl, rfl, Nat.le_of_ble_eq_true rfl, Nat.le_of_ble_eq_true rfl⟩ ⟨Nat.le_of_ble_eq_true rfl, Nat.le_of_ble_eq_true rfl⟩ rfl rfl (Nat.le_of_ble_eq_true rfl) (ccells_fst _ _ _ _) dX4_lookAtSpan_49 ?_
    refine (show V p l e (k2_rm 3 86) s m args below meth c (inW (ccells g ad w)) (EN below args s g (ccells g ad w) (ccells g ad rr.2) (some (.int rr.1))) g 9 (ccells g ad j28_0) 0 0 52 [(5, .long r37), (4, .int j28_2), (0, .ref (ad 63)), (1, .int a0), (2, .long j28_1)] [.long r49] from ?_)
    refine v_lstore hG [(7, _), (5, _), (4, _), (0, _), (1, _), (2, _)] dX4_lookAtSpan_52 (by decide) rfl ?_
    refine v_lload hG 1 rfl dX4_lookAtSpan_54 ?_
    refine v_lload_n hG 5 rfl rfl dX4_lookAtSpan_56 ?_
    refine v_lcmp_le hG 89 dX4_lookAtSpan_57 dX4_lookAtSpan_58 rfl hf (fun hf => ?_) (fun hf => ?_)
    · refine v_iload hG 2 rfl dX4_lookAtSpan_89 ?_
      refine v_if_eq hG 129 dX4_lookAtSpan_91 rfl hf (fun hf => ?_) (fun hf => ?_)
      · refine v_sub [(0, _), (1, _), (2, _), (4, _), (5, _), (7, _)] [3, 4, 5, 2, 1, 0] rfl ?_
        exact j129 j28_0 j28_1 j28_2 r37 r49 hf
      · refine v_lload hG 0 rfl dX4_lookAtSpan_94 ?_
        refine v_lload_n hG 5 rfl rfl dX4_lookAtSpan_96 ?_
        refine v_lcmp_ge hG 129 dX4_lookAtSpan_97 dX4_lookAtSpan_98 rfl hf (fun hf => ?_) (fun hf => ?_)
        · refine v_sub [(0, _), (1, _), (2, _), (4, _), (5, _), (7, _)] [3, 4, 5, 2, 1, 0] rfl ?_
          exact j129 j28_0 j28_1 j28_2 r37 r49 hf
        · refine v_aload_n hG 3 rfl rfl dX4_lookAtSpan_101 ?_
          refine c_g_63_0 hG wk_290 dX4_lookAtSpan_102 ?_
          refine v_aload_n hG 3 rfl rfl dX4_lookAtSpan_105 ?_
          refine c_g_63_0 hG wk_290 dX4_lookAtSpan_106 ?_
          refine c_g_21_1 hG wk_223 dX4_lookAtSpan_109 ?_
          refine v_iload_n hG 4 rfl rfl dX4_lookAtSpan_112 ?_
          refine c_l_42 hG dX4_lookAtSpan_113 hf (fun hf => ?_)
          refine v_aload_n hG 3 rfl rfl dX4_lookAtSpan_114 ?_
          refine c_g_63_0 hG wk_290 dX4_lookAtSpan_115 ?_
          refine v_iload_n hG 4 rfl rfl dX4_lookAtSpan_118 ?_
          refine v_iconst hG (v := -1) (by decide) dX4_lookAtSpan_119 ?_
          refine v_iconst hG (v := 1) (by decide) dX4_lookAtSpan_120 ?_
          obtain ⟨r121, hr121, hf⟩ := bd_some hf
          refine v_callV hG (st := [.int ((gC_rowRest j28_0) a0.toNatClampNeg), .ref (ad 21)]) 21 5 (ct_X5_reachRest l g ad j28_0 a0 (-1) 1 r121 hr121) iw_X5_reachRest wk_673 rfl rfl ⟨rfl, rfl, Nat.le_of_ble_eq_true rfl, Nat.le_of_ble_eq_true rfl⟩ ⟨Nat.le_of_ble_eq_true rfl, Nat.le_of_ble_eq_true rfl⟩ rfl rfl (Nat.le_of_ble_eq_true rfl) (ccells_fst _ _ _ _) dX4_lookAtSpan_121 ?_
          refine (show V p l e (k2_rm 3 86) s m args below meth c (inW (ccells g ad w)) (EN below args s g (ccells g ad w) (ccells g ad rr.2) (some (.int rr.1))) g 9 (ccells g ad j28_0) 0 0 124 [(7, .long r49), (5, .long r37), (4, .int j28_2), (0, .ref (ad 63)), (1, .int a0), (2, .long j28_1)] [.int r121, .int ((gC_rowRest j28_0) a0.toNatClampNeg), .ref (ad 21)] from ?_)
          refine v_ior hG dX4_lookAtSpan_124 ?_
          obtain ⟨r125, hr125, hf⟩ := bd_some hf
          refine v_callV hG (st := []) 21 5 (ct_X5_endAll l g ad j28_0 (((gC_rowRest j28_0) a0.toNatClampNeg) ||| r121) r125 hr125) iw_X5_endAll wk_610 rfl rfl ⟨rfl, rfl, Nat.le_of_ble_eq_true rfl, Nat.le_of_ble_eq_true rfl⟩ ⟨Nat.le_of_ble_eq_true rfl, Nat.le_of_ble_eq_true rfl⟩ rfl rfl (Nat.le_of_ble_eq_true rfl) (ccells_fst _ _ _ _) dX4_lookAtSpan_125 ?_
          refine (show V p l e (k2_rm 3 86) s m args below meth c (inW (ccells g ad w)) (EN below args s g (ccells g ad w) (ccells g ad rr.2) (some (.int rr.1))) g 9 (ccells g ad r125.2) 0 0 128 [(7, .long r49), (5, .long r37), (4, .int j28_2), (0, .ref (ad 63)), (1, .int a0), (2, .long j28_1)] [.int r125.1] from ?_)
          obtain ⟨hb, hf⟩ := gd_some hf
          cases hf
          exact v_zret hG hr (isB_nar hb) dX4_lookAtSpan_128
    · refine v_aload_n hG 3 rfl rfl dX4_lookAtSpan_61 ?_
      refine c_g_63_0 hG wk_290 dX4_lookAtSpan_62 ?_
      refine v_aload_n hG 3 rfl rfl dX4_lookAtSpan_65 ?_
      refine c_g_63_0 hG wk_290 dX4_lookAtSpan_66 ?_
      refine c_g_21_1 hG wk_223 dX4_lookAtSpan_69 ?_
      refine v_iload_n hG 4 rfl rfl dX4_lookAtSpan_72 ?_
      refine c_l_42 hG dX4_lookAtSpan_73 hf (fun hf => ?_)
      refine v_aload_n hG 3 rfl rfl dX4_lookAtSpan_74 ?_
      refine c_g_63_0 hG wk_290 dX4_lookAtSpan_75 ?_
      refine v_iload_n hG 4 rfl rfl dX4_lookAtSpan_78 ?_
      refine v_iconst hG (v := -1) (by decide) dX4_lookAtSpan_79 ?_
      refine v_iconst hG (v := 0) (by decide) dX4_lookAtSpan_80 ?_
      obtain ⟨r81, hr81, hf⟩ := bd_some hf
      refine v_callV hG (st := [.int ((gC_rowRest j28_0) a0.toNatClampNeg), .ref (ad 21)]) 21 5 (ct_X5_reachRest l g ad j28_0 a0 (-1) 0 r81 hr81) iw_X5_reachRest wk_673 rfl rfl ⟨rfl, rfl, Nat.le_of_ble_eq_true rfl, Nat.le_of_ble_eq_true rfl⟩ ⟨Nat.le_of_ble_eq_true rfl, Nat.le_of_ble_eq_true rfl⟩ rfl rfl (Nat.le_of_ble_eq_true rfl) (ccells_fst _ _ _ _) dX4_lookAtSpan_81 ?_
      refine (show V p l e (k2_rm 3 86) s m args below meth c (inW (ccells g ad w)) (EN below args s g (ccells g ad w) (ccells g ad rr.2) (some (.int rr.1))) g 9 (ccells g ad j28_0) 0 0 84 [(7, .long r49), (5, .long r37), (4, .int j28_2), (0, .ref (ad 63)), (1, .int a0), (2, .long j28_1)] [.int r81, .int ((gC_rowRest j28_0) a0.toNatClampNeg), .ref (ad 21)] from ?_)
      refine v_ior hG dX4_lookAtSpan_84 ?_
      obtain ⟨r85, hr85, hf⟩ := bd_some hf
      refine v_callV hG (st := []) 21 5 (ct_X5_endAll l g ad j28_0 (((gC_rowRest j28_0) a0.toNatClampNeg) ||| r81) r85 hr85) iw_X5_endAll wk_610 rfl rfl ⟨rfl, rfl, Nat.le_of_ble_eq_true rfl, Nat.le_of_ble_eq_true rfl⟩ ⟨Nat.le_of_ble_eq_true rfl, Nat.le_of_ble_eq_true rfl⟩ rfl rfl (Nat.le_of_ble_eq_true rfl) (ccells_fst _ _ _ _) dX4_lookAtSpan_85 ?_
      refine (show V p l e (k2_rm 3 86) s m args below meth c (inW (ccells g ad w)) (EN below args s g (ccells g ad w) (ccells g ad rr.2) (some (.int rr.1))) g 9 (ccells g ad r85.2) 0 0 88 [(7, .long r49), (5, .long r37), (4, .int j28_2), (0, .ref (ad 63)), (1, .int a0), (2, .long j28_1)] [.int r85.1] from ?_)
      obtain ⟨hb, hf⟩ := gd_some hf
      cases hf
      exact v_zret hG hr (isB_nar hb) dX4_lookAtSpan_88
  refine v_aload_n hG 0 rfl rfl dX4_lookAtSpan_0 ?_
  refine c_g_63_1 hG wk_291 dX4_lookAtSpan_1 ?_
  refine c_g_22_5 hG wk_144 dX4_lookAtSpan_4 ?_
  refine v_iload_n hG 1 rfl rfl dX4_lookAtSpan_7 ?_
  refine c_l_28 hG dX4_lookAtSpan_8 hf (fun hf => ?_)
  refine v_lstore_n hG [(2, _), (0, _), (1, _)] dX4_lookAtSpan_9 rfl (by decide) rfl ?_
  refine v_aload_n hG 1 rfl rfl dX4_lookAtSpan_10 ?_
  refine c_g_63_1 hG wk_291 dX4_lookAtSpan_11 ?_
  refine c_g_22_4 hG wk_138 dX4_lookAtSpan_14 ?_
  refine v_iload_n hG 2 rfl rfl dX4_lookAtSpan_17 ?_
  refine c_l_27 hG dX4_lookAtSpan_18 hf (fun hf => ?_)
  refine v_iconst hG (v := 1) (by decide) dX4_lookAtSpan_19 ?_
  refine v_icmp_ne hG 27 dX4_lookAtSpan_20 rfl hf (fun hf => ?_) (fun hf => ?_)
  · refine v_iconst hG (v := 0) (by decide) dX4_lookAtSpan_27 ?_
    refine v_sub [(0, _), (1, _), (2, _)] [1, 2, 0] rfl ?_
    exact j28 w ((gT_right (gC_tab w)) a0.toNatClampNeg) 0 hf
  · refine v_iconst hG (v := 1) (by decide) dX4_lookAtSpan_23 ?_
    refine v_goto hG 28 dX4_lookAtSpan_24 rfl ?_
    refine v_sub [(0, _), (1, _), (2, _)] [1, 2, 0] rfl ?_
    exact j28 w ((gT_right (gC_tab w)) a0.toNatClampNeg) 1 hf
def X4_tightenTerm_J84  (j84_0 : CW) (j84_1 : Int64) (j84_2 : Int64) (j84_3 : Int32) (j84_4 : Int32) (j84_5 : Int32) (j84_6 : Int32) : Option (Int32 × CW) := ((X5_narrow j84_0 j84_4 j84_5 j84_6 j84_2 j84_1 j84_3).bind (fun r90 : Int32 × CW => (if isB r90.1 = true then some (r90.1, r90.2) else none)))
def X4_tightenTerm_J75 (a2 : Int32) (j75_0 : CW) (j75_1 : Int64) (j75_2 : Int64) (j75_3 : Int32) (j75_4 : Int32) (j75_5 : Int32) (j75_6 : Int32) : Option (Int32 × CW) := (if j75_6 = a2 then (X4_tightenTerm_J84 j75_0 j75_1 j75_2 j75_3 j75_4 j75_5 0) else (X4_tightenTerm_J84 j75_0 j75_1 j75_2 j75_3 j75_4 j75_5 1))
def X4_tightenTerm (w : CW) (a0 : Int32) (a1 : Int32) (a2 : Int32) : Option (Int32 × CW) := (if inR a0 12 = true then (if inR a1 12 = true then (if inR a0 12 = true then ((X5_reach w a0 a1 a2).bind (fun r29 : Int64 => (if inR a0 12 = true then ((X5_reachRest w a0 a1 a2).bind (fun r51 : Int32 => (if ((gT_a (gC_tab w)) a0.toNatClampNeg a1.toNatClampNeg) ≤ 0 then (X4_tightenTerm_J75 a2 w ((gT_a (gC_tab w)) a0.toNatClampNeg a1.toNatClampNeg) (((gT_right (gC_tab w)) a0.toNatClampNeg) - r29) (((gC_rowRest w) a0.toNatClampNeg) ||| r51) a0 a1 0) else (X4_tightenTerm_J75 a2 w ((gT_a (gC_tab w)) a0.toNatClampNeg a1.toNatClampNeg) (((gT_right (gC_tab w)) a0.toNatClampNeg) - r29) (((gC_rowRest w) a0.toNatClampNeg) ||| r51) a0 a1 1)))) else none))) else none) else none) else none)
set_option maxRecDepth 100000 in
set_option maxHeartbeats 4000000 in
theorem ct_X4_tightenTerm (l : Launch) (g : wG) (ad : Nat → Nat) (w : CW) (a0 : Int32) (a1 : Int32) (a2 : Int32) (rr : Int32 × CW) (hf : X4_tightenTerm w a0 a1 a2 = some rr) : MetN l g yX4_tightenTerm cX4_tightenTerm 9 (some .boolean) (k2_rm 2 57) [.ref (ad 63), .int a0, .int a1, .int a2] (ccells g ad w) (ccells g ad rr.2) (some (.int rr.1)) := by
  refine MetN.of2 [(0, .ref (ad 63)), (1, .int a0), (2, .int a1), (3, .int a2)] rfl (by decide +kernel) (Nat.le_of_ble_eq_true rfl) ?_
  intro p e s m args below meth c hG hr
  unfold X4_tightenTerm at hf
  have j84 : ∀ (j84_0 : CW) (j84_1 : Int64) (j84_2 : Int64) (j84_3 : Int32) (j84_4 : Int32) (j84_5 : Int32) (j84_6 : Int32), X4_tightenTerm_J84 j84_0 j84_1 j84_2 j84_3 j84_4 j84_5 j84_6 = some rr → V p l e (k2_rm 2 57) s m args below meth c (inW (ccells g ad w)) (EN below args s g (ccells g ad w) (ccells g ad rr.2) (some (.int rr.1))) g 9 (ccells g ad j84_0) 0 0 84 [(4, .long j84_1), (6, .long j84_2), (8, .int j84_3)] [.int j84_6, .int j84_5, .int j84_4, .ref (ad 21)] := by
    intro j84_0 j84_1 j84_2 j84_3 j84_4 j84_5 j84_6 hf
    unfold X4_tightenTerm_J84 at hf
    refine v_lload hG 1 rfl dX4_tightenTerm_84 ?_
    refine v_lload hG 0 rfl dX4_tightenTerm_86 ?_
    refine v_iload hG 2 rfl dX4_tightenTerm_88 ?_
    obtain ⟨r90, hr90, hf⟩ := bd_some hf
    refine v_callV hG (st := []) 21 5 (ct_X5_narrow l g ad j84_0 j84_4 j84_5 j84_6 j84_2 j84_1 j84_3 r90 hr90) iw_X5_narrow wk_659 rfl rfl ⟨rfl, rfl, Nat.le_of_ble_eq_true rfl, Nat.le_of_ble_eq_true rfl⟩ ⟨Nat.le_of_ble_eq_true rfl, Nat.le_of_ble_eq_true rfl⟩ rfl rfl (Nat.le_of_ble_eq_true rfl) (ccells_fst _ _ _ _) dX4_tightenTerm_90 ?_
    refine (show V p l e (k2_rm 2 57) s m args below meth c (inW (ccells g ad w)) (EN below args s g (ccells g ad w) (ccells g ad rr.2) (some (.int rr.1))) g 9 (ccells g ad r90.2) 0 0 93 [(4, .long j84_1), (6, .long j84_2), (8, .int j84_3)] [.int r90.1] from ?_)
    obtain ⟨hb, hf⟩ := gd_some hf
    cases hf
    exact v_zret hG hr (isB_nar hb) dX4_tightenTerm_93
  have j75 : ∀ (j75_0 : CW) (j75_1 : Int64) (j75_2 : Int64) (j75_3 : Int32) (j75_4 : Int32) (j75_5 : Int32) (j75_6 : Int32), X4_tightenTerm_J75 a2 j75_0 j75_1 j75_2 j75_3 j75_4 j75_5 j75_6 = some rr → V p l e (k2_rm 2 57) s m args below meth c (inW (ccells g ad w)) (EN below args s g (ccells g ad w) (ccells g ad rr.2) (some (.int rr.1))) g 9 (ccells g ad j75_0) 0 0 75 [(3, .int a2), (4, .long j75_1), (6, .long j75_2), (8, .int j75_3)] [.int j75_6, .int j75_5, .int j75_4, .ref (ad 21)] := by
    intro j75_0 j75_1 j75_2 j75_3 j75_4 j75_5 j75_6 hf
    unfold X4_tightenTerm_J75 at hf
    refine v_iload_n hG 0 rfl rfl dX4_tightenTerm_75 ?_
    refine v_icmp_eq hG 83 dX4_tightenTerm_76 rfl hf (fun hf => ?_) (fun hf => ?_)
    · refine v_iconst hG (v := 0) (by decide) dX4_tightenTerm_83 ?_
      refine v_sub [(4, _), (6, _), (8, _)] [1, 2, 3] rfl ?_
      exact j84 j75_0 j75_1 j75_2 j75_3 j75_4 j75_5 0 hf
    · refine v_iconst hG (v := 1) (by decide) dX4_tightenTerm_79 ?_
      refine v_goto hG 84 dX4_tightenTerm_80 rfl ?_
      refine v_sub [(4, _), (6, _), (8, _)] [1, 2, 3] rfl ?_
      exact j84 j75_0 j75_1 j75_2 j75_3 j75_4 j75_5 1 hf
  refine v_aload_n hG 0 rfl rfl dX4_tightenTerm_0 ?_
  refine c_g_63_1 hG wk_291 dX4_tightenTerm_1 ?_
  refine c_g_22_6 hG wk_150 dX4_tightenTerm_4 ?_
  refine v_iload_n hG 1 rfl rfl dX4_tightenTerm_7 ?_
  refine c_o_29 hG dX4_tightenTerm_8 hf (fun hi8 hf => ?_)
  refine v_iload_n hG 2 rfl rfl dX4_tightenTerm_9 ?_
  refine c_rl_29 hG hi8 dX4_tightenTerm_10 hf (fun hf => ?_)
  refine v_lstore hG [(4, _), (0, _), (1, _), (2, _), (3, _)] dX4_tightenTerm_11 (by decide) rfl ?_
  refine v_aload_n hG 1 rfl rfl dX4_tightenTerm_13 ?_
  refine c_g_63_1 hG wk_291 dX4_tightenTerm_14 ?_
  refine c_g_22_5 hG wk_144 dX4_tightenTerm_17 ?_
  refine v_iload_n hG 2 rfl rfl dX4_tightenTerm_20 ?_
  refine c_l_28 hG dX4_tightenTerm_21 hf (fun hf => ?_)
  refine v_aload_n hG 1 rfl rfl dX4_tightenTerm_22 ?_
  refine c_g_63_0 hG wk_290 dX4_tightenTerm_23 ?_
  refine v_iload_n hG 2 rfl rfl dX4_tightenTerm_26 ?_
  refine v_iload_n hG 3 rfl rfl dX4_tightenTerm_27 ?_
  refine v_iload_n hG 4 rfl rfl dX4_tightenTerm_28 ?_
  obtain ⟨r29, hr29, hf⟩ := bd_some hf
  refine v_callV hG (st := [.long ((gT_right (gC_tab w)) a0.toNatClampNeg)]) 21 5 (ct_X5_reach l g ad w a0 a1 a2 r29 hr29) iw_X5_reach wk_669 rfl rfl ⟨rfl, rfl, Nat.le_of_ble_eq_true rfl, Nat.le_of_ble_eq_true rfl⟩ ⟨Nat.le_of_ble_eq_true rfl, Nat.le_of_ble_eq_true rfl⟩ rfl rfl (Nat.le_of_ble_eq_true rfl) (ccells_fst _ _ _ _) dX4_tightenTerm_29 ?_
  refine (show V p l e (k2_rm 2 57) s m args below meth c (inW (ccells g ad w)) (EN below args s g (ccells g ad w) (ccells g ad rr.2) (some (.int rr.1))) g 9 (ccells g ad w) 0 0 32 [(4, .long ((gT_a (gC_tab w)) a0.toNatClampNeg a1.toNatClampNeg)), (0, .ref (ad 63)), (1, .int a0), (2, .int a1), (3, .int a2)] [.long r29, .long ((gT_right (gC_tab w)) a0.toNatClampNeg)] from ?_)
  refine v_lsub hG dX4_tightenTerm_32 ?_
  refine v_lstore hG [(6, _), (4, _), (0, _), (1, _), (2, _), (3, _)] dX4_tightenTerm_33 (by decide) rfl ?_
  refine v_aload_n hG 2 rfl rfl dX4_tightenTerm_35 ?_
  refine c_g_63_0 hG wk_290 dX4_tightenTerm_36 ?_
  refine c_g_21_1 hG wk_223 dX4_tightenTerm_39 ?_
  refine v_iload_n hG 3 rfl rfl dX4_tightenTerm_42 ?_
  refine c_l_42 hG dX4_tightenTerm_43 hf (fun hf => ?_)
  refine v_aload_n hG 2 rfl rfl dX4_tightenTerm_44 ?_
  refine c_g_63_0 hG wk_290 dX4_tightenTerm_45 ?_
  refine v_iload_n hG 3 rfl rfl dX4_tightenTerm_48 ?_
  refine v_iload_n hG 4 rfl rfl dX4_tightenTerm_49 ?_
  refine v_iload_n hG 5 rfl rfl dX4_tightenTerm_50 ?_
  obtain ⟨r51, hr51, hf⟩ := bd_some hf
  refine v_callV hG (st := [.int ((gC_rowRest w) a0.toNatClampNeg)]) 21 5 (ct_X5_reachRest l g ad w a0 a1 a2 r51 hr51) iw_X5_reachRest wk_673 rfl rfl ⟨rfl, rfl, Nat.le_of_ble_eq_true rfl, Nat.le_of_ble_eq_true rfl⟩ ⟨Nat.le_of_ble_eq_true rfl, Nat.le_of_ble_eq_true rfl⟩ rfl rfl (Nat.le_of_ble_eq_true rfl) (ccells_fst _ _ _ _) dX4_tightenTerm_51 ?_
  refine (show V p l e (k2_rm 2 57) s m args below meth c (inW (ccells g ad w)) (EN below args s g (ccells g ad w) (ccells g ad rr.2) (some (.int rr.1))) g 9 (ccells g ad w) 0 0 54 [(6, .long (((gT_right (gC_tab w)) a0.toNatClampNeg) - r29)), (4, .long ((gT_a (gC_tab w)) a0.toNatClampNeg a1.toNatClampNeg)), (0, .ref (ad 63)), (1, .int a0), (2, .int a1), (3, .int a2)] [.int r51, .int ((gC_rowRest w) a0.toNatClampNeg)] from ?_)
  refine v_ior hG dX4_tightenTerm_54 ?_
  refine v_istore hG [(8, _), (6, _), (4, _), (0, _), (1, _), (2, _), (3, _)] dX4_tightenTerm_55 (by decide) rfl ?_
  refine v_aload_n hG 3 rfl rfl dX4_tightenTerm_57 ?_
  refine c_g_63_0 hG wk_290 dX4_tightenTerm_58 ?_
  refine v_iload_n hG 4 rfl rfl dX4_tightenTerm_61 ?_
  refine v_iload_n hG 5 rfl rfl dX4_tightenTerm_62 ?_
  refine v_lload hG 2 rfl dX4_tightenTerm_63 ?_
  refine v_lconst hG (v := 0) (by decide) dX4_tightenTerm_65 ?_
  refine v_lcmp_le hG 74 dX4_tightenTerm_66 dX4_tightenTerm_67 rfl hf (fun hf => ?_) (fun hf => ?_)
  · refine v_iconst hG (v := 0) (by decide) dX4_tightenTerm_74 ?_
    refine v_sub [(3, _), (4, _), (6, _), (8, _)] [6, 2, 1, 0] rfl ?_
    exact j75 w ((gT_a (gC_tab w)) a0.toNatClampNeg a1.toNatClampNeg) (((gT_right (gC_tab w)) a0.toNatClampNeg) - r29) (((gC_rowRest w) a0.toNatClampNeg) ||| r51) a0 a1 0 hf
  · refine v_iconst hG (v := 1) (by decide) dX4_tightenTerm_70 ?_
    refine v_goto hG 75 dX4_tightenTerm_71 rfl ?_
    refine v_sub [(3, _), (4, _), (6, _), (8, _)] [6, 2, 1, 0] rfl ?_
    exact j75 w ((gT_a (gC_tab w)) a0.toNatClampNeg a1.toNatClampNeg) (((gT_right (gC_tab w)) a0.toNatClampNeg) - r29) (((gC_rowRest w) a0.toNatClampNeg) ||| r51) a0 a1 1 hf
def X4_tighten_J74  (j74_0 : CW) (j74_1 : Int32) : Option ((CW × Int32) ⊕ ((CW) ⊕ (CW))) := (some (.inl (j74_0, (j74_1 + 1))))
def X4_tighten_L21 (a0 : Int32) (j18_1 : Int32) (s21 : CW × Int32) : Option ((CW × Int32) ⊕ ((CW) ⊕ (CW))) := (if (gT_columns (gC_tab s21.1)) ≤ s21.2 then (some (.inr (.inr s21.1))) else (if inR a0 12 = true then (if inR s21.2 12 = true then (if ((gT_a (gC_tab s21.1)) a0.toNatClampNeg s21.2.toNatClampNeg) = 0 then (X4_tighten_J74 s21.1 s21.2) else ((X4_tightenTerm s21.1 a0 s21.2 0).bind (fun r52 : Int32 × CW => (if r52.1 = 0 then (some (.inr (.inl r52.2))) else (if j18_1 = 0 then (X4_tighten_J74 r52.2 s21.2) else ((X4_tightenTerm r52.2 a0 s21.2 1).bind (fun r66 : Int32 × CW => (if r66.1 = 0 then (some (.inr (.inl r66.2))) else (X4_tighten_J74 r66.2 s21.2))))))))) else none) else none))
def X4_tighten_J18 (a0 : Int32) (j18_0 : CW) (j18_1 : Int32) : Option (Int32 × CW) := ((iter (X4_tighten_L21 a0 j18_1) 5000 (j18_0, 0)).bind (fun z21 : (CW) ⊕ (CW) => (Sum.elim (fun z21_0 : CW => (some (0, z21_0))) (fun z21_r0 : (CW) => (some (1, z21_r0))) z21)))
def X4_tighten (w : CW) (a0 : Int32) : Option (Int32 × CW) := (if inR a0 12 = true then (if ((gT_kind (gC_tab w)) a0.toNatClampNeg) = 1 then (X4_tighten_J18 a0 w 1) else (X4_tighten_J18 a0 w 0)) else none)
set_option maxRecDepth 100000 in
set_option maxHeartbeats 4000000 in
theorem ct_X4_tighten (l : Launch) (g : wG) (ad : Nat → Nat) (w : CW) (a0 : Int32) (rr : Int32 × CW) (hf : X4_tighten w a0 = some rr) : MetN l g yX4_tighten cX4_tighten 4 (some .boolean) (k2_rm 3 85) [.ref (ad 63), .int a0] (ccells g ad w) (ccells g ad rr.2) (some (.int rr.1)) := by
  refine MetN.of2 [(0, .ref (ad 63)), (1, .int a0)] rfl (by decide +kernel) (Nat.le_of_ble_eq_true rfl) ?_
  intro p e s m args below meth c hG hr
  unfold X4_tighten at hf
  have j18 : ∀ (j18_0 : CW) (j18_1 : Int32), X4_tighten_J18 a0 j18_0 j18_1 = some rr → V p l e (k2_rm 3 85) s m args below meth c (inW (ccells g ad w)) (EN below args s g (ccells g ad w) (ccells g ad rr.2) (some (.int rr.1))) g 4 (ccells g ad j18_0) 0 0 18 [(0, .ref (ad 63)), (1, .int a0)] [.int j18_1] := by
    intro j18_0 j18_1 hf
    unfold X4_tighten_J18 at hf
    refine v_istore_n hG [(2, _), (0, _), (1, _)] dX4_tighten_18 rfl (by decide) rfl ?_
    refine v_iconst hG (v := 0) (by decide) dX4_tighten_19 ?_
    refine v_istore_n hG [(3, _), (2, _), (0, _), (1, _)] dX4_tighten_20 rfl (by decide) rfl ?_
    refine v_sub [(0, _), (1, _), (2, _), (3, _)] [2, 3, 1, 0] rfl ?_
    obtain ⟨z21, hlz21, hf⟩ := bd_some hf
    refine loop_v (step := X4_tighten_L21 a0 j18_1) (fun s21 : CW × Int32 => V p l e (k2_rm 3 85) s m args below meth c (inW (ccells g ad w)) (EN below args s g (ccells g ad w) (ccells g ad rr.2) (some (.int rr.1))) g 4 (ccells g ad s21.1) 0 0 21 [(0, .ref (ad 63)), (1, .int a0), (2, .int j18_1), (3, .int s21.2)] []) (fun z21_q : (CW) ⊕ (CW) => Sum.elim (fun z21_0 : CW => V p l e (k2_rm 3 85) s m args below meth c (inW (ccells g ad w)) (EN below args s g (ccells g ad w) (ccells g ad rr.2) (some (.int rr.1))) g 4 (ccells g ad z21_0) 0 0 72 [] []) (fun z21_r0 : (CW) => V p l e (k2_rm 3 85) s m args below meth c (inW (ccells g ad w)) (EN below args s g (ccells g ad w) (ccells g ad rr.2) (some (.int rr.1))) g 4 (ccells g ad z21_r0) 0 0 80 [] []) z21_q) ?_ 5000 (j18_0, 0) z21 hlz21 ?_
    · intro s21 rL hf hin hout
      unfold X4_tighten_L21 at hf
      have j74 : ∀ (j74_0 : CW) (j74_1 : Int32), X4_tighten_J74 j74_0 j74_1 = some rL → V p l e (k2_rm 3 85) s m args below meth c (inW (ccells g ad w)) (EN below args s g (ccells g ad w) (ccells g ad rr.2) (some (.int rr.1))) g 4 (ccells g ad j74_0) 0 0 74 [(0, .ref (ad 63)), (1, .int a0), (2, .int j18_1), (3, .int j74_1)] [] := by
        intro j74_0 j74_1 hf
        unfold X4_tighten_J74 at hf
        refine v_iinc hG 3 (v := j74_1 + 1) [(3, _), (0, _), (1, _), (2, _)] dX4_tighten_74 rfl rfl (by decide) rfl ?_
        refine v_goto hG 21 dX4_tighten_77 rfl ?_
        refine v_sub [(0, _), (1, _), (2, _), (3, _)] [1, 2, 3, 0] rfl ?_
        exact hin _ (Option.some.inj hf).symm
      refine v_iload_n hG 3 rfl rfl dX4_tighten_21 ?_
      refine v_aload_n hG 0 rfl rfl dX4_tighten_22 ?_
      refine c_g_63_1 hG wk_291 dX4_tighten_23 ?_
      refine c_g_22_7 hG wk_159 dX4_tighten_26 ?_
      refine v_icmp_ge hG 80 dX4_tighten_29 rfl hf (fun hf => ?_) (fun hf => ?_)
      · refine v_sub [] [] rfl ?_
        exact hout _ (Option.some.inj hf).symm
      · refine v_aload_n hG 0 rfl rfl dX4_tighten_32 ?_
        refine c_g_63_1 hG wk_291 dX4_tighten_33 ?_
        refine c_g_22_6 hG wk_150 dX4_tighten_36 ?_
        refine v_iload_n hG 1 rfl rfl dX4_tighten_39 ?_
        refine c_o_29 hG dX4_tighten_40 hf (fun hi40 hf => ?_)
        refine v_iload_n hG 3 rfl rfl dX4_tighten_41 ?_
        refine c_rl_29 hG hi40 dX4_tighten_42 hf (fun hf => ?_)
        refine v_lconst hG (v := 0) (by decide) dX4_tighten_43 ?_
        refine v_lcmp_eq hG 74 dX4_tighten_44 dX4_tighten_45 rfl hf (fun hf => ?_) (fun hf => ?_)
        · exact j74 s21.1 s21.2 hf
        · refine v_aload_n hG 0 rfl rfl dX4_tighten_48 ?_
          refine v_iload_n hG 1 rfl rfl dX4_tighten_49 ?_
          refine v_iload_n hG 3 rfl rfl dX4_tighten_50 ?_
          refine v_iconst hG (v := 0) (by decide) dX4_tighten_51 ?_
          obtain ⟨r52, hr52, hf⟩ := bd_some hf
          refine v_callV hG (st := []) 63 4 (ct_X4_tightenTerm l g ad s21.1 a0 s21.2 0 r52 hr52) iw_X4_tightenTerm wk_685 rfl rfl ⟨rfl, rfl, Nat.le_of_ble_eq_true rfl, Nat.le_of_ble_eq_true rfl⟩ ⟨Nat.le_of_ble_eq_true rfl, Nat.le_of_ble_eq_true rfl⟩ rfl rfl (Nat.le_of_ble_eq_true rfl) (ccells_fst _ _ _ _) dX4_tighten_52 ?_
          refine (show V p l e (k2_rm 3 85) s m args below meth c (inW (ccells g ad w)) (EN below args s g (ccells g ad w) (ccells g ad rr.2) (some (.int rr.1))) g 4 (ccells g ad r52.2) 0 0 55 [(0, .ref (ad 63)), (1, .int a0), (2, .int j18_1), (3, .int s21.2)] [.int r52.1] from ?_)
          refine v_if_eq hG 72 dX4_tighten_55 rfl hf (fun hf => ?_) (fun hf => ?_)
          · refine v_sub [] [] rfl ?_
            exact hout _ (Option.some.inj hf).symm
          · refine v_iload_n hG 2 rfl rfl dX4_tighten_58 ?_
            refine v_if_eq hG 74 dX4_tighten_59 rfl hf (fun hf => ?_) (fun hf => ?_)
            · exact j74 r52.2 s21.2 hf
            · refine v_aload_n hG 0 rfl rfl dX4_tighten_62 ?_
              refine v_iload_n hG 1 rfl rfl dX4_tighten_63 ?_
              refine v_iload_n hG 3 rfl rfl dX4_tighten_64 ?_
              refine v_iconst hG (v := 1) (by decide) dX4_tighten_65 ?_
              obtain ⟨r66, hr66, hf⟩ := bd_some hf
              refine v_callV hG (st := []) 63 4 (ct_X4_tightenTerm l g ad r52.2 a0 s21.2 1 r66 hr66) iw_X4_tightenTerm wk_685 rfl rfl ⟨rfl, rfl, Nat.le_of_ble_eq_true rfl, Nat.le_of_ble_eq_true rfl⟩ ⟨Nat.le_of_ble_eq_true rfl, Nat.le_of_ble_eq_true rfl⟩ rfl rfl (Nat.le_of_ble_eq_true rfl) (ccells_fst _ _ _ _) dX4_tighten_66 ?_
              refine (show V p l e (k2_rm 3 85) s m args below meth c (inW (ccells g ad w)) (EN below args s g (ccells g ad w) (ccells g ad rr.2) (some (.int rr.1))) g 4 (ccells g ad r66.2) 0 0 69 [(0, .ref (ad 63)), (1, .int a0), (2, .int j18_1), (3, .int s21.2)] [.int r66.1] from ?_)
              refine v_if_ne hG 74 dX4_tighten_69 rfl hf (fun hf => ?_) (fun hf => ?_)
              · exact j74 r66.2 s21.2 hf
              · refine v_sub [] [] rfl ?_
                exact hout _ (Option.some.inj hf).symm
    · rcases z21 with z21_x0 | z21_x0
      · simp only [Sum.elim_inl] at hf
        show V p l e (k2_rm 3 85) s m args below meth c (inW (ccells g ad w)) (EN below args s g (ccells g ad w) (ccells g ad rr.2) (some (.int rr.1))) g 4 (ccells g ad z21_x0) 0 0 72 [] []
        refine v_iconst hG (v := 0) (by decide) dX4_tighten_72 ?_
        cases hf
        exact v_zret (x := 0) hG hr rfl dX4_tighten_73
      · simp only [Sum.elim_inr] at hf
        show V p l e (k2_rm 3 85) s m args below meth c (inW (ccells g ad w)) (EN below args s g (ccells g ad w) (ccells g ad rr.2) (some (.int rr.1))) g 4 (ccells g ad z21_x0) 0 0 80 [] []
        refine v_iconst hG (v := 1) (by decide) dX4_tighten_80 ?_
        cases hf
        exact v_zret (x := 1) hG hr rfl dX4_tighten_81
  refine v_aload_n hG 0 rfl rfl dX4_tighten_0 ?_
  refine c_g_63_1 hG wk_291 dX4_tighten_1 ?_
  refine c_g_22_4 hG wk_138 dX4_tighten_4 ?_
  refine v_iload_n hG 1 rfl rfl dX4_tighten_7 ?_
  refine c_l_27 hG dX4_tighten_8 hf (fun hf => ?_)
  refine v_iconst hG (v := 1) (by decide) dX4_tighten_9 ?_
  refine v_icmp_ne hG 17 dX4_tighten_10 rfl hf (fun hf => ?_) (fun hf => ?_)
  · refine v_iconst hG (v := 0) (by decide) dX4_tighten_17 ?_
    exact j18 w 0 hf
  · refine v_iconst hG (v := 1) (by decide) dX4_tighten_13 ?_
    refine v_goto hG 18 dX4_tighten_14 rfl ?_
    exact j18 w 1 hf
def X4_areTimes_L3 (w : CW) (a0 : Int32) (a1 : Int32) (a2 : Int32) (s3 : Int32) : Option ((Int32) ⊕ ((Unit) ⊕ (Unit))) := (if (gT_columns (gC_tab w)) ≤ s3 then (some (.inr (.inr ()))) else (if inR a0 12 = true then (if inR s3 12 = true then (if inR a1 12 = true then (if inR s3 12 = true then (if ((gT_a (gC_tab w)) a0.toNatClampNeg s3.toNatClampNeg) = (a2.toInt64 * ((gT_a (gC_tab w)) a1.toNatClampNeg s3.toNatClampNeg)) then (some (.inl (s3 + 1))) else (some (.inr (.inl ())))) else none) else none) else none) else none))
def X4_areTimes (w : CW) (a0 : Int32) (a1 : Int32) (a2 : Int32) : Option (Int32) := ((iter (X4_areTimes_L3 w a0 a1 a2) 5000 0).bind (fun z3 : (Unit) ⊕ (Unit) => (Sum.elim (fun z3_0 : Unit => (some 0)) (fun z3_r0 : (Unit) => (some 1)) z3)))
set_option maxRecDepth 100000 in
set_option maxHeartbeats 4000000 in
theorem ct_X4_areTimes (l : Launch) (g : wG) (ad : Nat → Nat) (w : CW) (a0 : Int32) (a1 : Int32) (a2 : Int32) (rr : Int32) (hf : X4_areTimes w a0 a1 a2 = some rr) : MetN l g yX4_areTimes cX4_areTimes 5 (some .boolean) (k2_rm 0 0) [.ref (ad 63), .int a0, .int a1, .int a2] (ccells g ad w) (ccells g ad w) (some (.int rr)) := by
  refine MetN.of2 [(0, .ref (ad 63)), (1, .int a0), (2, .int a1), (3, .int a2)] rfl (by decide +kernel) (Nat.le_of_ble_eq_true rfl) ?_
  intro p e s m args below meth c hG hr
  unfold X4_areTimes at hf
  refine v_iconst hG (v := 0) (by decide) dX4_areTimes_0 ?_
  refine v_istore hG [(4, _), (0, _), (1, _), (2, _), (3, _)] dX4_areTimes_1 (by decide) rfl ?_
  refine v_sub [(0, _), (1, _), (2, _), (3, _), (4, _)] [1, 2, 3, 4, 0] rfl ?_
  obtain ⟨z3, hlz3, hf⟩ := bd_some hf
  refine loop_v (step := X4_areTimes_L3 w a0 a1 a2) (fun s3 : Int32 => V p l e (k2_rm 0 0) s m args below meth c (inW (ccells g ad w)) (EN below args s g (ccells g ad w) (ccells g ad w) (some (.int rr))) g 5 (ccells g ad w) 0 0 3 [(0, .ref (ad 63)), (1, .int a0), (2, .int a1), (3, .int a2), (4, .int s3)] []) (fun z3_q : (Unit) ⊕ (Unit) => Sum.elim (fun z3_0 : Unit => V p l e (k2_rm 0 0) s m args below meth c (inW (ccells g ad w)) (EN below args s g (ccells g ad w) (ccells g ad w) (some (.int rr))) g 5 (ccells g ad w) 0 0 46 [] []) (fun z3_r0 : (Unit) => V p l e (k2_rm 0 0) s m args below meth c (inW (ccells g ad w)) (EN below args s g (ccells g ad w) (ccells g ad w) (some (.int rr))) g 5 (ccells g ad w) 0 0 54 [] []) z3_q) ?_ 5000 0 z3 hlz3 ?_
  · intro s3 rL hf hin hout
    unfold X4_areTimes_L3 at hf
    refine v_iload hG 4 rfl dX4_areTimes_3 ?_
    refine v_aload_n hG 0 rfl rfl dX4_areTimes_5 ?_
    refine c_g_63_1 hG wk_291 dX4_areTimes_6 ?_
    refine c_g_22_7 hG wk_159 dX4_areTimes_9 ?_
    refine v_icmp_ge hG 54 dX4_areTimes_12 rfl hf (fun hf => ?_) (fun hf => ?_)
    · refine v_sub [] [] rfl ?_
      exact hout _ (Option.some.inj hf).symm
    · refine v_aload_n hG 0 rfl rfl dX4_areTimes_15 ?_
      refine c_g_63_1 hG wk_291 dX4_areTimes_16 ?_
      refine c_g_22_6 hG wk_150 dX4_areTimes_19 ?_
      refine v_iload_n hG 1 rfl rfl dX4_areTimes_22 ?_
      refine c_o_29 hG dX4_areTimes_23 hf (fun hi23 hf => ?_)
      refine v_iload hG 4 rfl dX4_areTimes_24 ?_
      refine c_rl_29 hG hi23 dX4_areTimes_26 hf (fun hf => ?_)
      refine v_iload_n hG 3 rfl rfl dX4_areTimes_27 ?_
      refine v_i2l hG dX4_areTimes_28 ?_
      refine v_aload_n hG 0 rfl rfl dX4_areTimes_29 ?_
      refine c_g_63_1 hG wk_291 dX4_areTimes_30 ?_
      refine c_g_22_6 hG wk_150 dX4_areTimes_33 ?_
      refine v_iload_n hG 2 rfl rfl dX4_areTimes_36 ?_
      refine c_o_29 hG dX4_areTimes_37 hf (fun hi37 hf => ?_)
      refine v_iload hG 4 rfl dX4_areTimes_38 ?_
      refine c_rl_29 hG hi37 dX4_areTimes_40 hf (fun hf => ?_)
      refine v_lmul hG dX4_areTimes_41 ?_
      refine v_lcmp_eq hG 48 dX4_areTimes_42 dX4_areTimes_43 rfl hf (fun hf => ?_) (fun hf => ?_)
      · refine v_iinc hG 4 (v := s3 + 1) [(4, _), (0, _), (1, _), (2, _), (3, _)] dX4_areTimes_48 rfl rfl (by decide) rfl ?_
        refine v_goto hG 3 dX4_areTimes_51 rfl ?_
        refine v_sub [(0, _), (1, _), (2, _), (3, _), (4, _)] [1, 2, 3, 4, 0] rfl ?_
        exact hin _ (Option.some.inj hf).symm
      · refine v_sub [] [] rfl ?_
        exact hout _ (Option.some.inj hf).symm
  · rcases z3 with z3_x0 | z3_x0
    · simp only [Sum.elim_inl] at hf
      show V p l e (k2_rm 0 0) s m args below meth c (inW (ccells g ad w)) (EN below args s g (ccells g ad w) (ccells g ad w) (some (.int rr))) g 5 (ccells g ad w) 0 0 46 [] []
      refine v_iconst hG (v := 0) (by decide) dX4_areTimes_46 ?_
      cases hf
      exact v_zret (x := 0) hG hr rfl dX4_areTimes_47
    · simp only [Sum.elim_inr] at hf
      show V p l e (k2_rm 0 0) s m args below meth c (inW (ccells g ad w)) (EN below args s g (ccells g ad w) (ccells g ad w) (some (.int rr))) g 5 (ccells g ad w) 0 0 54 [] []
      refine v_iconst hG (v := 1) (by decide) dX4_areTimes_54 ?_
      cases hf
      exact v_zret (x := 1) hG hr rfl dX4_areTimes_55
def X4_leaveAlike_J191  (j191_0 : CW) (j191_1 : Int32) : Option (Int32 × CW) := ((X5_leaveOut j191_0 j191_1).bind (fun r191 : CW => (some (1, r191))))
def X4_leaveAlike_J138 (a0 : Int32) (a1 : Int32) (j138_0 : CW) (j138_1 : Int32) : Option (Int32 × CW) := (if j138_1 = 0 then (if inR a0 12 = true then (if inR a1 12 = true then ((X5_endAll j138_0 (((gC_rowRest j138_0) a0.toNatClampNeg) ||| ((gC_rowRest j138_0) a1.toNatClampNeg))).bind (fun r166 : Int32 × CW => (if isB r166.1 = true then some (r166.1, r166.2) else none))) else none) else none) else (if inR a0 12 = true then (if ((gT_kind (gC_tab j138_0)) a0.toNatClampNeg) = 0 then (X4_leaveAlike_J191 j138_0 a0) else (X4_leaveAlike_J191 j138_0 a1)) else none))
def X4_leaveAlike_J136 (a0 : Int32) (a1 : Int32) (j136_0 : CW) (j136_1 : Int32) : Option (Int32 × CW) := (X4_leaveAlike_J138 a0 a1 j136_0 j136_1)
def X4_leaveAlike_J119 (a0 : Int32) (a1 : Int32) (j119_0 : CW) (j119_1 : Int32) : Option (Int32 × CW) := (X4_leaveAlike_J138 a0 a1 j119_0 j119_1)
def X4_leaveAlike_J90 (a0 : Int32) (a1 : Int32) (j90_0 : CW) (j90_1 : Int32) : Option (Int32 × CW) := (X4_leaveAlike_J138 a0 a1 j90_0 j90_1)
def X4_leaveAlike_J66 (a0 : Int32) (a1 : Int32) (j66_0 : CW) (j66_1 : Int64) (j66_2 : Int64) : Option (Int32 × CW) := (if inR a0 12 = true then (if ((gT_kind (gC_tab j66_0)) a0.toNatClampNeg) = 0 then (if j66_1 < j66_2 then (X4_leaveAlike_J90 a0 a1 j66_0 0) else (X4_leaveAlike_J90 a0 a1 j66_0 1)) else (if inR a1 12 = true then (if ((gT_kind (gC_tab j66_0)) a1.toNatClampNeg) = 0 then (if j66_2 < j66_1 then (X4_leaveAlike_J119 a0 a1 j66_0 0) else (X4_leaveAlike_J119 a0 a1 j66_0 1)) else (if j66_1 = j66_2 then (X4_leaveAlike_J136 a0 a1 j66_0 1) else (X4_leaveAlike_J136 a0 a1 j66_0 0))) else none)) else none)
def X4_leaveAlike_J61  (j61_0 : CW) (j61_1 : Int32) : Option (Int32 × CW) := ((X5_leaveOut j61_0 j61_1).bind (fun r61 : CW => (some (1, r61))))
def X4_leaveAlike (w : CW) (a0 : Int32) (a1 : Int32) : Option (Int32 × CW) := (if inR a0 12 = true then (if inR a1 12 = true then (if inR a0 12 = true then (if ((gT_kind (gC_tab w)) a0.toNatClampNeg) = 0 then (if inR a1 12 = true then (if ((gT_kind (gC_tab w)) a1.toNatClampNeg) = 0 then (if ((gT_right (gC_tab w)) a0.toNatClampNeg) ≤ ((gT_right (gC_tab w)) a1.toNatClampNeg) then (X4_leaveAlike_J61 w a1) else (X4_leaveAlike_J61 w a0)) else (X4_leaveAlike_J66 a0 a1 w ((gT_right (gC_tab w)) a0.toNatClampNeg) ((gT_right (gC_tab w)) a1.toNatClampNeg))) else none) else (X4_leaveAlike_J66 a0 a1 w ((gT_right (gC_tab w)) a0.toNatClampNeg) ((gT_right (gC_tab w)) a1.toNatClampNeg))) else none) else none) else none)
set_option maxRecDepth 100000 in
set_option maxHeartbeats 4000000 in
theorem ct_X4_leaveAlike (l : Launch) (g : wG) (ad : Nat → Nat) (w : CW) (a0 : Int32) (a1 : Int32) (rr : Int32 × CW) (hf : X4_leaveAlike w a0 a1 = some rr) : MetN l g yX4_leaveAlike cX4_leaveAlike 8 (some .boolean) (k2_rm 2 48) [.ref (ad 63), .int a0, .int a1] (ccells g ad w) (ccells g ad rr.2) (some (.int rr.1)) := by
  refine MetN.of2 [(0, .ref (ad 63)), (1, .int a0), (2, .int a1)] rfl (by decide +kernel) (Nat.le_of_ble_eq_true rfl) ?_
  intro p e s m args below meth c hG hr
  unfold X4_leaveAlike at hf
  have j191 : ∀ (j191_0 : CW) (j191_1 : Int32), X4_leaveAlike_J191 j191_0 j191_1 = some rr → V p l e (k2_rm 2 48) s m args below meth c (inW (ccells g ad w)) (EN below args s g (ccells g ad w) (ccells g ad rr.2) (some (.int rr.1))) g 8 (ccells g ad j191_0) 0 0 191 [] [.int j191_1, .ref (ad 21)] := by
    intro j191_0 j191_1 hf
    unfold X4_leaveAlike_J191 at hf
    obtain ⟨r191, hr191, hf⟩ := bd_some hf
    refine v_callV hG (st := []) 21 5 (ct_X5_leaveOut l g ad j191_0 j191_1 r191 hr191) iw_X5_leaveOut wk_614 rfl rfl ⟨rfl, rfl, Nat.le_of_ble_eq_true rfl, Nat.le_of_ble_eq_true rfl⟩ ⟨Nat.le_of_ble_eq_true rfl, Nat.le_of_ble_eq_true rfl⟩ rfl rfl (Nat.le_of_ble_eq_true rfl) (ccells_fst _ _ _ _) dX4_leaveAlike_191 ?_
    refine (show V p l e (k2_rm 2 48) s m args below meth c (inW (ccells g ad w)) (EN below args s g (ccells g ad w) (ccells g ad rr.2) (some (.int rr.1))) g 8 (ccells g ad r191) 0 0 194 [] [] from ?_)
    refine v_iconst hG (v := 1) (by decide) dX4_leaveAlike_194 ?_
    cases hf
    exact v_zret (x := 1) hG hr rfl dX4_leaveAlike_195
  have j138 : ∀ (j138_0 : CW) (j138_1 : Int32), X4_leaveAlike_J138 a0 a1 j138_0 j138_1 = some rr → V p l e (k2_rm 2 48) s m args below meth c (inW (ccells g ad w)) (EN below args s g (ccells g ad w) (ccells g ad rr.2) (some (.int rr.1))) g 8 (ccells g ad j138_0) 0 0 138 [(0, .ref (ad 63)), (1, .int a0), (2, .int a1), (7, .int j138_1)] [] := by
    intro j138_0 j138_1 hf
    unfold X4_leaveAlike_J138 at hf
    refine v_iload hG 3 rfl dX4_leaveAlike_138 ?_
    refine v_if_ne hG 170 dX4_leaveAlike_140 rfl hf (fun hf => ?_) (fun hf => ?_)
    · refine v_aload_n hG 0 rfl rfl dX4_leaveAlike_170 ?_
      refine c_g_63_0 hG wk_290 dX4_leaveAlike_171 ?_
      refine v_aload_n hG 0 rfl rfl dX4_leaveAlike_174 ?_
      refine c_g_63_1 hG wk_291 dX4_leaveAlike_175 ?_
      refine c_g_22_4 hG wk_138 dX4_leaveAlike_178 ?_
      refine v_iload_n hG 1 rfl rfl dX4_leaveAlike_181 ?_
      refine c_l_27 hG dX4_leaveAlike_182 hf (fun hf => ?_)
      refine v_if_ne hG 190 dX4_leaveAlike_183 rfl hf (fun hf => ?_) (fun hf => ?_)
      · refine v_iload_n hG 2 rfl rfl dX4_leaveAlike_190 ?_
        refine v_sub [] [] rfl ?_
        exact j191 j138_0 a1 hf
      · refine v_iload_n hG 1 rfl rfl dX4_leaveAlike_186 ?_
        refine v_goto hG 191 dX4_leaveAlike_187 rfl ?_
        refine v_sub [] [] rfl ?_
        exact j191 j138_0 a0 hf
    · refine v_aload_n hG 0 rfl rfl dX4_leaveAlike_143 ?_
      refine c_g_63_0 hG wk_290 dX4_leaveAlike_144 ?_
      refine v_aload_n hG 0 rfl rfl dX4_leaveAlike_147 ?_
      refine c_g_63_0 hG wk_290 dX4_leaveAlike_148 ?_
      refine c_g_21_1 hG wk_223 dX4_leaveAlike_151 ?_
      refine v_iload_n hG 1 rfl rfl dX4_leaveAlike_154 ?_
      refine c_l_42 hG dX4_leaveAlike_155 hf (fun hf => ?_)
      refine v_aload_n hG 0 rfl rfl dX4_leaveAlike_156 ?_
      refine c_g_63_0 hG wk_290 dX4_leaveAlike_157 ?_
      refine c_g_21_1 hG wk_223 dX4_leaveAlike_160 ?_
      refine v_iload_n hG 2 rfl rfl dX4_leaveAlike_163 ?_
      refine c_l_42 hG dX4_leaveAlike_164 hf (fun hf => ?_)
      refine v_ior hG dX4_leaveAlike_165 ?_
      obtain ⟨r166, hr166, hf⟩ := bd_some hf
      refine v_callV hG (st := []) 21 5 (ct_X5_endAll l g ad j138_0 (((gC_rowRest j138_0) a0.toNatClampNeg) ||| ((gC_rowRest j138_0) a1.toNatClampNeg)) r166 hr166) iw_X5_endAll wk_610 rfl rfl ⟨rfl, rfl, Nat.le_of_ble_eq_true rfl, Nat.le_of_ble_eq_true rfl⟩ ⟨Nat.le_of_ble_eq_true rfl, Nat.le_of_ble_eq_true rfl⟩ rfl rfl (Nat.le_of_ble_eq_true rfl) (ccells_fst _ _ _ _) dX4_leaveAlike_166 ?_
      refine (show V p l e (k2_rm 2 48) s m args below meth c (inW (ccells g ad w)) (EN below args s g (ccells g ad w) (ccells g ad rr.2) (some (.int rr.1))) g 8 (ccells g ad r166.2) 0 0 169 [(0, .ref (ad 63)), (1, .int a0), (2, .int a1), (7, .int j138_1)] [.int r166.1] from ?_)
      obtain ⟨hb, hf⟩ := gd_some hf
      cases hf
      exact v_zret hG hr (isB_nar hb) dX4_leaveAlike_169
  have j136 : ∀ (j136_0 : CW) (j136_1 : Int32), X4_leaveAlike_J136 a0 a1 j136_0 j136_1 = some rr → V p l e (k2_rm 2 48) s m args below meth c (inW (ccells g ad w)) (EN below args s g (ccells g ad w) (ccells g ad rr.2) (some (.int rr.1))) g 8 (ccells g ad j136_0) 0 0 136 [(0, .ref (ad 63)), (1, .int a0), (2, .int a1)] [.int j136_1] := by
    intro j136_0 j136_1 hf
    unfold X4_leaveAlike_J136 at hf
    refine v_istore hG [(7, _), (0, _), (1, _), (2, _)] dX4_leaveAlike_136 (by decide) rfl ?_
    refine v_sub [(0, _), (1, _), (2, _), (7, _)] [1, 2, 3, 0] rfl ?_
    exact j138 j136_0 j136_1 hf
  have j119 : ∀ (j119_0 : CW) (j119_1 : Int32), X4_leaveAlike_J119 a0 a1 j119_0 j119_1 = some rr → V p l e (k2_rm 2 48) s m args below meth c (inW (ccells g ad w)) (EN below args s g (ccells g ad w) (ccells g ad rr.2) (some (.int rr.1))) g 8 (ccells g ad j119_0) 0 0 119 [(0, .ref (ad 63)), (1, .int a0), (2, .int a1)] [.int j119_1] := by
    intro j119_0 j119_1 hf
    unfold X4_leaveAlike_J119 at hf
    refine v_istore hG [(7, _), (0, _), (1, _), (2, _)] dX4_leaveAlike_119 (by decide) rfl ?_
    refine v_goto hG 138 dX4_leaveAlike_121 rfl ?_
    refine v_sub [(0, _), (1, _), (2, _), (7, _)] [1, 2, 3, 0] rfl ?_
    exact j138 j119_0 j119_1 hf
  have j90 : ∀ (j90_0 : CW) (j90_1 : Int32), X4_leaveAlike_J90 a0 a1 j90_0 j90_1 = some rr → V p l e (k2_rm 2 48) s m args below meth c (inW (ccells g ad w)) (EN below args s g (ccells g ad w) (ccells g ad rr.2) (some (.int rr.1))) g 8 (ccells g ad j90_0) 0 0 90 [(0, .ref (ad 63)), (1, .int a0), (2, .int a1)] [.int j90_1] := by
    intro j90_0 j90_1 hf
    unfold X4_leaveAlike_J90 at hf
    refine v_istore hG [(7, _), (0, _), (1, _), (2, _)] dX4_leaveAlike_90 (by decide) rfl ?_
    refine v_goto hG 138 dX4_leaveAlike_92 rfl ?_
    refine v_sub [(0, _), (1, _), (2, _), (7, _)] [1, 2, 3, 0] rfl ?_
    exact j138 j90_0 j90_1 hf
  have j66 : ∀ (j66_0 : CW) (j66_1 : Int64) (j66_2 : Int64), X4_leaveAlike_J66 a0 a1 j66_0 j66_1 j66_2 = some rr → V p l e (k2_rm 2 48) s m args below meth c (inW (ccells g ad w)) (EN below args s g (ccells g ad w) (ccells g ad rr.2) (some (.int rr.1))) g 8 (ccells g ad j66_0) 0 0 66 [(0, .ref (ad 63)), (1, .int a0), (2, .int a1), (3, .long j66_1), (5, .long j66_2)] [] := by
    intro j66_0 j66_1 j66_2 hf
    unfold X4_leaveAlike_J66 at hf
    refine v_aload_n hG 0 rfl rfl dX4_leaveAlike_66 ?_
    refine c_g_63_1 hG wk_291 dX4_leaveAlike_67 ?_
    refine c_g_22_4 hG wk_138 dX4_leaveAlike_70 ?_
    refine v_iload_n hG 1 rfl rfl dX4_leaveAlike_73 ?_
    refine c_l_27 hG dX4_leaveAlike_74 hf (fun hf => ?_)
    refine v_if_ne hG 95 dX4_leaveAlike_75 rfl hf (fun hf => ?_) (fun hf => ?_)
    · refine v_aload_n hG 0 rfl rfl dX4_leaveAlike_95 ?_
      refine c_g_63_1 hG wk_291 dX4_leaveAlike_96 ?_
      refine c_g_22_4 hG wk_138 dX4_leaveAlike_99 ?_
      refine v_iload_n hG 2 rfl rfl dX4_leaveAlike_102 ?_
      refine c_l_27 hG dX4_leaveAlike_103 hf (fun hf => ?_)
      refine v_if_ne hG 124 dX4_leaveAlike_104 rfl hf (fun hf => ?_) (fun hf => ?_)
      · refine v_lload_n hG 3 rfl rfl dX4_leaveAlike_124 ?_
        refine v_lload hG 4 rfl dX4_leaveAlike_125 ?_
        refine v_lcmp_ne hG 135 dX4_leaveAlike_127 dX4_leaveAlike_128 rfl hf (fun hf => ?_) (fun hf => ?_)
        · refine v_iconst hG (v := 0) (by decide) dX4_leaveAlike_135 ?_
          refine v_sub [(0, _), (1, _), (2, _)] [0, 1, 2] rfl ?_
          exact j136 j66_0 0 hf
        · refine v_iconst hG (v := 1) (by decide) dX4_leaveAlike_131 ?_
          refine v_goto hG 136 dX4_leaveAlike_132 rfl ?_
          refine v_sub [(0, _), (1, _), (2, _)] [0, 1, 2] rfl ?_
          exact j136 j66_0 1 hf
      · refine v_lload hG 4 rfl dX4_leaveAlike_107 ?_
        refine v_lload_n hG 3 rfl rfl dX4_leaveAlike_109 ?_
        refine v_lcmp_lt hG 118 dX4_leaveAlike_110 dX4_leaveAlike_111 rfl hf (fun hf => ?_) (fun hf => ?_)
        · refine v_iconst hG (v := 0) (by decide) dX4_leaveAlike_118 ?_
          refine v_sub [(0, _), (1, _), (2, _)] [0, 1, 2] rfl ?_
          exact j119 j66_0 0 hf
        · refine v_iconst hG (v := 1) (by decide) dX4_leaveAlike_114 ?_
          refine v_goto hG 119 dX4_leaveAlike_115 rfl ?_
          refine v_sub [(0, _), (1, _), (2, _)] [0, 1, 2] rfl ?_
          exact j119 j66_0 1 hf
    · refine v_lload_n hG 3 rfl rfl dX4_leaveAlike_78 ?_
      refine v_lload hG 4 rfl dX4_leaveAlike_79 ?_
      refine v_lcmp_lt hG 89 dX4_leaveAlike_81 dX4_leaveAlike_82 rfl hf (fun hf => ?_) (fun hf => ?_)
      · refine v_iconst hG (v := 0) (by decide) dX4_leaveAlike_89 ?_
        refine v_sub [(0, _), (1, _), (2, _)] [0, 1, 2] rfl ?_
        exact j90 j66_0 0 hf
      · refine v_iconst hG (v := 1) (by decide) dX4_leaveAlike_85 ?_
        refine v_goto hG 90 dX4_leaveAlike_86 rfl ?_
        refine v_sub [(0, _), (1, _), (2, _)] [0, 1, 2] rfl ?_
        exact j90 j66_0 1 hf
  have j61 : ∀ (j61_0 : CW) (j61_1 : Int32), X4_leaveAlike_J61 j61_0 j61_1 = some rr → V p l e (k2_rm 2 48) s m args below meth c (inW (ccells g ad w)) (EN below args s g (ccells g ad w) (ccells g ad rr.2) (some (.int rr.1))) g 8 (ccells g ad j61_0) 0 0 61 [] [.int j61_1, .ref (ad 21)] := by
    intro j61_0 j61_1 hf
    unfold X4_leaveAlike_J61 at hf
    obtain ⟨r61, hr61, hf⟩ := bd_some hf
    refine v_callV hG (st := []) 21 5 (ct_X5_leaveOut l g ad j61_0 j61_1 r61 hr61) iw_X5_leaveOut wk_614 rfl rfl ⟨rfl, rfl, Nat.le_of_ble_eq_true rfl, Nat.le_of_ble_eq_true rfl⟩ ⟨Nat.le_of_ble_eq_true rfl, Nat.le_of_ble_eq_true rfl⟩ rfl rfl (Nat.le_of_ble_eq_true rfl) (ccells_fst _ _ _ _) dX4_leaveAlike_61 ?_
    refine (show V p l e (k2_rm 2 48) s m args below meth c (inW (ccells g ad w)) (EN below args s g (ccells g ad w) (ccells g ad rr.2) (some (.int rr.1))) g 8 (ccells g ad r61) 0 0 64 [] [] from ?_)
    refine v_iconst hG (v := 1) (by decide) dX4_leaveAlike_64 ?_
    cases hf
    exact v_zret (x := 1) hG hr rfl dX4_leaveAlike_65
  refine v_aload_n hG 0 rfl rfl dX4_leaveAlike_0 ?_
  refine c_g_63_1 hG wk_291 dX4_leaveAlike_1 ?_
  refine c_g_22_5 hG wk_144 dX4_leaveAlike_4 ?_
  refine v_iload_n hG 1 rfl rfl dX4_leaveAlike_7 ?_
  refine c_l_28 hG dX4_leaveAlike_8 hf (fun hf => ?_)
  refine v_lstore_n hG [(3, _), (0, _), (1, _), (2, _)] dX4_leaveAlike_9 rfl (by decide) rfl ?_
  refine v_aload_n hG 1 rfl rfl dX4_leaveAlike_10 ?_
  refine c_g_63_1 hG wk_291 dX4_leaveAlike_11 ?_
  refine c_g_22_5 hG wk_144 dX4_leaveAlike_14 ?_
  refine v_iload_n hG 3 rfl rfl dX4_leaveAlike_17 ?_
  refine c_l_28 hG dX4_leaveAlike_18 hf (fun hf => ?_)
  refine v_lstore hG [(5, _), (3, _), (0, _), (1, _), (2, _)] dX4_leaveAlike_19 (by decide) rfl ?_
  refine v_aload_n hG 2 rfl rfl dX4_leaveAlike_21 ?_
  refine c_g_63_1 hG wk_291 dX4_leaveAlike_22 ?_
  refine c_g_22_4 hG wk_138 dX4_leaveAlike_25 ?_
  refine v_iload_n hG 3 rfl rfl dX4_leaveAlike_28 ?_
  refine c_l_27 hG dX4_leaveAlike_29 hf (fun hf => ?_)
  refine v_if_ne hG 66 dX4_leaveAlike_30 rfl hf (fun hf => ?_) (fun hf => ?_)
  · refine v_sub [(0, _), (1, _), (2, _), (3, _), (5, _)] [2, 3, 4, 1, 0] rfl ?_
    exact j66 w ((gT_right (gC_tab w)) a0.toNatClampNeg) ((gT_right (gC_tab w)) a1.toNatClampNeg) hf
  · refine v_aload_n hG 2 rfl rfl dX4_leaveAlike_33 ?_
    refine c_g_63_1 hG wk_291 dX4_leaveAlike_34 ?_
    refine c_g_22_4 hG wk_138 dX4_leaveAlike_37 ?_
    refine v_iload_n hG 4 rfl rfl dX4_leaveAlike_40 ?_
    refine c_l_27 hG dX4_leaveAlike_41 hf (fun hf => ?_)
    refine v_if_ne hG 66 dX4_leaveAlike_42 rfl hf (fun hf => ?_) (fun hf => ?_)
    · refine v_sub [(0, _), (1, _), (2, _), (3, _), (5, _)] [2, 3, 4, 1, 0] rfl ?_
      exact j66 w ((gT_right (gC_tab w)) a0.toNatClampNeg) ((gT_right (gC_tab w)) a1.toNatClampNeg) hf
    · refine v_aload_n hG 2 rfl rfl dX4_leaveAlike_45 ?_
      refine c_g_63_0 hG wk_290 dX4_leaveAlike_46 ?_
      refine v_lload_n hG 1 rfl rfl dX4_leaveAlike_49 ?_
      refine v_lload hG 0 rfl dX4_leaveAlike_50 ?_
      refine v_lcmp_le hG 60 dX4_leaveAlike_52 dX4_leaveAlike_53 rfl hf (fun hf => ?_) (fun hf => ?_)
      · refine v_iload_n hG 4 rfl rfl dX4_leaveAlike_60 ?_
        refine v_sub [] [] rfl ?_
        exact j61 w a1 hf
      · refine v_iload_n hG 3 rfl rfl dX4_leaveAlike_56 ?_
        refine v_goto hG 61 dX4_leaveAlike_57 rfl ?_
        refine v_sub [] [] rfl ?_
        exact j61 w a0 hf
def X4_joinTurned (w : CW) (a0 : Int32) (a1 : Int32) : Option (Int32 × CW) := (if inR a0 12 = true then (if inR a1 12 = true then (if 0 ≤ (((gT_right (gC_tab w)) a0.toNatClampNeg) + ((gT_right (gC_tab w)) a1.toNatClampNeg)) then (if (((gT_right (gC_tab w)) a0.toNatClampNeg) + ((gT_right (gC_tab w)) a1.toNatClampNeg)) = 0 then (if inR a0 12 = true then (bnd (sC_tab w (sT_kind (gC_tab w) (upd (gT_kind (gC_tab w)) a0.toNatClampNeg 1))) (fun w68 : CW => (if inR a0 12 = true then (if inR a1 12 = true then (if inR a0 12 = true then (bnd (sC_rowRest w68 (upd (gC_rowRest w68) a0.toNatClampNeg (((gC_rowRest w68) a0.toNatClampNeg) ||| ((gC_rowRest w68) a1.toNatClampNeg)))) (fun w89 : CW => ((X5_noteAnew w89 a0).bind (fun r95 : CW => ((X5_leaveOut r95 a1).bind (fun r103 : CW => (some (1, r103)))))))) else none) else none) else none))) else none) else (some (1, w))) else (if inR a0 12 = true then (if inR a1 12 = true then ((X5_endAll w (((gC_rowRest w) a0.toNatClampNeg) ||| ((gC_rowRest w) a1.toNatClampNeg))).bind (fun r49 : Int32 × CW => (if isB r49.1 = true then some (r49.1, r49.2) else none))) else none) else none)) else none) else none)
set_option maxRecDepth 100000 in
set_option maxHeartbeats 4000000 in
theorem ct_X4_joinTurned (l : Launch) (g : wG) (ad : Nat → Nat) (w : CW) (a0 : Int32) (a1 : Int32) (rr : Int32 × CW) (hf : X4_joinTurned w a0 a1 = some rr) : MetN l g yX4_joinTurned cX4_joinTurned 5 (some .boolean) (k2_rm 2 48) [.ref (ad 63), .int a0, .int a1] (ccells g ad w) (ccells g ad rr.2) (some (.int rr.1)) := by
  refine MetN.of2 [(0, .ref (ad 63)), (1, .int a0), (2, .int a1)] rfl (by decide +kernel) (Nat.le_of_ble_eq_true rfl) ?_
  intro p e s m args below meth c hG hr
  unfold X4_joinTurned at hf
  refine v_aload_n hG 0 rfl rfl dX4_joinTurned_0 ?_
  refine c_g_63_1 hG wk_291 dX4_joinTurned_1 ?_
  refine c_g_22_5 hG wk_144 dX4_joinTurned_4 ?_
  refine v_iload_n hG 1 rfl rfl dX4_joinTurned_7 ?_
  refine c_l_28 hG dX4_joinTurned_8 hf (fun hf => ?_)
  refine v_aload_n hG 0 rfl rfl dX4_joinTurned_9 ?_
  refine c_g_63_1 hG wk_291 dX4_joinTurned_10 ?_
  refine c_g_22_5 hG wk_144 dX4_joinTurned_13 ?_
  refine v_iload_n hG 2 rfl rfl dX4_joinTurned_16 ?_
  refine c_l_28 hG dX4_joinTurned_17 hf (fun hf => ?_)
  refine v_ladd hG dX4_joinTurned_18 ?_
  refine v_lstore_n hG [(3, _), (0, _), (1, _), (2, _)] dX4_joinTurned_19 rfl (by decide) rfl ?_
  refine v_lload_n hG 0 rfl rfl dX4_joinTurned_20 ?_
  refine v_lconst hG (v := 0) (by decide) dX4_joinTurned_21 ?_
  refine v_lcmp_ge hG 53 dX4_joinTurned_22 dX4_joinTurned_23 rfl hf (fun hf => ?_) (fun hf => ?_)
  · refine v_lload_n hG 0 rfl rfl dX4_joinTurned_53 ?_
    refine v_lconst hG (v := 0) (by decide) dX4_joinTurned_54 ?_
    refine v_lcmp_ne hG 106 dX4_joinTurned_55 dX4_joinTurned_56 rfl hf (fun hf => ?_) (fun hf => ?_)
    · refine v_iconst hG (v := 1) (by decide) dX4_joinTurned_106 ?_
      cases hf
      exact v_zret (x := 1) hG hr rfl dX4_joinTurned_107
    · refine v_aload_n hG 1 rfl rfl dX4_joinTurned_59 ?_
      refine c_g_63_1 hG wk_291 dX4_joinTurned_60 ?_
      refine c_g_22_4 hG wk_138 dX4_joinTurned_63 ?_
      refine v_iload_n hG 2 rfl rfl dX4_joinTurned_66 ?_
      refine v_iconst hG (v := 1) (by decide) dX4_joinTurned_67 ?_
      refine c_s_27 hG dX4_joinTurned_68 hf (fun w68 hf => ?_)
      refine v_aload_n hG 1 rfl rfl dX4_joinTurned_69 ?_
      refine c_g_63_0 hG wk_290 dX4_joinTurned_70 ?_
      refine c_g_21_1 hG wk_223 dX4_joinTurned_73 ?_
      refine v_iload_n hG 2 rfl rfl dX4_joinTurned_76 ?_
      refine v_dup2 hG rfl rfl dX4_joinTurned_77 ?_
      refine c_l_42 hG dX4_joinTurned_78 hf (fun hf => ?_)
      refine v_aload_n hG 1 rfl rfl dX4_joinTurned_79 ?_
      refine c_g_63_0 hG wk_290 dX4_joinTurned_80 ?_
      refine c_g_21_1 hG wk_223 dX4_joinTurned_83 ?_
      refine v_iload_n hG 3 rfl rfl dX4_joinTurned_86 ?_
      refine c_l_42 hG dX4_joinTurned_87 hf (fun hf => ?_)
      refine v_ior hG dX4_joinTurned_88 ?_
      refine c_s_42 hG dX4_joinTurned_89 hf (fun w89 hf => ?_)
      refine v_aload_n hG 1 rfl rfl dX4_joinTurned_90 ?_
      refine c_g_63_0 hG wk_290 dX4_joinTurned_91 ?_
      refine v_iload_n hG 2 rfl rfl dX4_joinTurned_94 ?_
      obtain ⟨r95, hr95, hf⟩ := bd_some hf
      refine v_callV hG (st := []) 21 5 (ct_X5_noteAnew l g ad w89 a0 r95 hr95) iw_X5_noteAnew wk_647 rfl rfl ⟨rfl, rfl, Nat.le_of_ble_eq_true rfl, Nat.le_of_ble_eq_true rfl⟩ ⟨Nat.le_of_ble_eq_true rfl, Nat.le_of_ble_eq_true rfl⟩ rfl rfl (Nat.le_of_ble_eq_true rfl) (ccells_fst _ _ _ _) dX4_joinTurned_95 ?_
      refine (show V p l e (k2_rm 2 48) s m args below meth c (inW (ccells g ad w)) (EN below args s g (ccells g ad w) (ccells g ad rr.2) (some (.int rr.1))) g 5 (ccells g ad r95) 0 0 98 [(3, .long (((gT_right (gC_tab w)) a0.toNatClampNeg) + ((gT_right (gC_tab w)) a1.toNatClampNeg))), (0, .ref (ad 63)), (1, .int a0), (2, .int a1)] [] from ?_)
      refine v_aload_n hG 1 rfl rfl dX4_joinTurned_98 ?_
      refine c_g_63_0 hG wk_290 dX4_joinTurned_99 ?_
      refine v_iload_n hG 3 rfl rfl dX4_joinTurned_102 ?_
      obtain ⟨r103, hr103, hf⟩ := bd_some hf
      refine v_callV hG (st := []) 21 5 (ct_X5_leaveOut l g ad r95 a1 r103 hr103) iw_X5_leaveOut wk_614 rfl rfl ⟨rfl, rfl, Nat.le_of_ble_eq_true rfl, Nat.le_of_ble_eq_true rfl⟩ ⟨Nat.le_of_ble_eq_true rfl, Nat.le_of_ble_eq_true rfl⟩ rfl rfl (Nat.le_of_ble_eq_true rfl) (ccells_fst _ _ _ _) dX4_joinTurned_103 ?_
      refine (show V p l e (k2_rm 2 48) s m args below meth c (inW (ccells g ad w)) (EN below args s g (ccells g ad w) (ccells g ad rr.2) (some (.int rr.1))) g 5 (ccells g ad r103) 0 0 106 [(3, .long (((gT_right (gC_tab w)) a0.toNatClampNeg) + ((gT_right (gC_tab w)) a1.toNatClampNeg))), (0, .ref (ad 63)), (1, .int a0), (2, .int a1)] [] from ?_)
      refine v_iconst hG (v := 1) (by decide) dX4_joinTurned_106 ?_
      cases hf
      exact v_zret (x := 1) hG hr rfl dX4_joinTurned_107
  · refine v_aload_n hG 1 rfl rfl dX4_joinTurned_26 ?_
    refine c_g_63_0 hG wk_290 dX4_joinTurned_27 ?_
    refine v_aload_n hG 1 rfl rfl dX4_joinTurned_30 ?_
    refine c_g_63_0 hG wk_290 dX4_joinTurned_31 ?_
    refine c_g_21_1 hG wk_223 dX4_joinTurned_34 ?_
    refine v_iload_n hG 2 rfl rfl dX4_joinTurned_37 ?_
    refine c_l_42 hG dX4_joinTurned_38 hf (fun hf => ?_)
    refine v_aload_n hG 1 rfl rfl dX4_joinTurned_39 ?_
    refine c_g_63_0 hG wk_290 dX4_joinTurned_40 ?_
    refine c_g_21_1 hG wk_223 dX4_joinTurned_43 ?_
    refine v_iload_n hG 3 rfl rfl dX4_joinTurned_46 ?_
    refine c_l_42 hG dX4_joinTurned_47 hf (fun hf => ?_)
    refine v_ior hG dX4_joinTurned_48 ?_
    obtain ⟨r49, hr49, hf⟩ := bd_some hf
    refine v_callV hG (st := []) 21 5 (ct_X5_endAll l g ad w (((gC_rowRest w) a0.toNatClampNeg) ||| ((gC_rowRest w) a1.toNatClampNeg)) r49 hr49) iw_X5_endAll wk_610 rfl rfl ⟨rfl, rfl, Nat.le_of_ble_eq_true rfl, Nat.le_of_ble_eq_true rfl⟩ ⟨Nat.le_of_ble_eq_true rfl, Nat.le_of_ble_eq_true rfl⟩ rfl rfl (Nat.le_of_ble_eq_true rfl) (ccells_fst _ _ _ _) dX4_joinTurned_49 ?_
    refine (show V p l e (k2_rm 2 48) s m args below meth c (inW (ccells g ad w)) (EN below args s g (ccells g ad w) (ccells g ad rr.2) (some (.int rr.1))) g 5 (ccells g ad r49.2) 0 0 52 [(3, .long (((gT_right (gC_tab w)) a0.toNatClampNeg) + ((gT_right (gC_tab w)) a1.toNatClampNeg))), (0, .ref (ad 63)), (1, .int a0), (2, .int a1)] [.int r49.1] from ?_)
    obtain ⟨hb, hf⟩ := gd_some hf
    cases hf
    exact v_zret hG hr (isB_nar hb) dX4_joinTurned_52
def X4_comparePair (w : CW) (a0 : Int32) (a1 : Int32) : Option (Int32 × CW) := ((X4_areTimes w a0 a1 1).bind (fun r4 : Int32 => (if r4 = 0 then (if inR a0 12 = true then (if ((gT_kind (gC_tab w)) a0.toNatClampNeg) = 0 then (if inR a1 12 = true then (if ((gT_kind (gC_tab w)) a1.toNatClampNeg) = 0 then ((X4_areTimes w a0 a1 (-1)).bind (fun r45 : Int32 => (if r45 = 0 then (some (1, w)) else ((X4_joinTurned w a0 a1).bind (fun r54 : Int32 × CW => (if isB r54.1 = true then some (r54.1, r54.2) else none)))))) else (some (1, w))) else none) else (some (1, w))) else none) else ((X4_leaveAlike w a0 a1).bind (fun r13 : Int32 × CW => (if isB r13.1 = true then some (r13.1, r13.2) else none))))))
set_option maxRecDepth 100000 in
set_option maxHeartbeats 4000000 in
theorem ct_X4_comparePair (l : Launch) (g : wG) (ad : Nat → Nat) (w : CW) (a0 : Int32) (a1 : Int32) (rr : Int32 × CW) (hf : X4_comparePair w a0 a1 = some rr) : MetN l g yX4_comparePair cX4_comparePair 3 (some .boolean) (k2_rm 3 75) [.ref (ad 63), .int a0, .int a1] (ccells g ad w) (ccells g ad rr.2) (some (.int rr.1)) := by
  refine MetN.of2 [(0, .ref (ad 63)), (1, .int a0), (2, .int a1)] rfl (by decide +kernel) (Nat.le_of_ble_eq_true rfl) ?_
  intro p e s m args below meth c hG hr
  unfold X4_comparePair at hf
  refine v_aload_n hG 0 rfl rfl dX4_comparePair_0 ?_
  refine v_iload_n hG 1 rfl rfl dX4_comparePair_1 ?_
  refine v_iload_n hG 2 rfl rfl dX4_comparePair_2 ?_
  refine v_iconst hG (v := 1) (by decide) dX4_comparePair_3 ?_
  obtain ⟨r4, hr4, hf⟩ := bd_some hf
  refine v_callV hG (st := []) 63 4 (ct_X4_areTimes l g ad w a0 a1 1 r4 hr4) iw_X4_areTimes wk_704 rfl rfl ⟨rfl, rfl, Nat.le_of_ble_eq_true rfl, Nat.le_of_ble_eq_true rfl⟩ ⟨Nat.le_of_ble_eq_true rfl, Nat.le_of_ble_eq_true rfl⟩ rfl rfl (Nat.le_of_ble_eq_true rfl) (ccells_fst _ _ _ _) dX4_comparePair_4 ?_
  refine (show V p l e (k2_rm 3 75) s m args below meth c (inW (ccells g ad w)) (EN below args s g (ccells g ad w) (ccells g ad rr.2) (some (.int rr.1))) g 3 (ccells g ad w) 0 0 7 [(0, .ref (ad 63)), (1, .int a0), (2, .int a1)] [.int r4] from ?_)
  refine v_if_eq hG 17 dX4_comparePair_7 rfl hf (fun hf => ?_) (fun hf => ?_)
  · refine v_aload_n hG 0 rfl rfl dX4_comparePair_17 ?_
    refine c_g_63_1 hG wk_291 dX4_comparePair_18 ?_
    refine c_g_22_4 hG wk_138 dX4_comparePair_21 ?_
    refine v_iload_n hG 1 rfl rfl dX4_comparePair_24 ?_
    refine c_l_27 hG dX4_comparePair_25 hf (fun hf => ?_)
    refine v_if_ne hG 58 dX4_comparePair_26 rfl hf (fun hf => ?_) (fun hf => ?_)
    · refine v_iconst hG (v := 1) (by decide) dX4_comparePair_58 ?_
      cases hf
      exact v_zret (x := 1) hG hr rfl dX4_comparePair_59
    · refine v_aload_n hG 0 rfl rfl dX4_comparePair_29 ?_
      refine c_g_63_1 hG wk_291 dX4_comparePair_30 ?_
      refine c_g_22_4 hG wk_138 dX4_comparePair_33 ?_
      refine v_iload_n hG 2 rfl rfl dX4_comparePair_36 ?_
      refine c_l_27 hG dX4_comparePair_37 hf (fun hf => ?_)
      refine v_if_ne hG 58 dX4_comparePair_38 rfl hf (fun hf => ?_) (fun hf => ?_)
      · refine v_iconst hG (v := 1) (by decide) dX4_comparePair_58 ?_
        cases hf
        exact v_zret (x := 1) hG hr rfl dX4_comparePair_59
      · refine v_aload_n hG 0 rfl rfl dX4_comparePair_41 ?_
        refine v_iload_n hG 1 rfl rfl dX4_comparePair_42 ?_
        refine v_iload_n hG 2 rfl rfl dX4_comparePair_43 ?_
        refine v_iconst hG (v := -1) (by decide) dX4_comparePair_44 ?_
        obtain ⟨r45, hr45, hf⟩ := bd_some hf
        refine v_callV hG (st := []) 63 4 (ct_X4_areTimes l g ad w a0 a1 (-1) r45 hr45) iw_X4_areTimes wk_704 rfl rfl ⟨rfl, rfl, Nat.le_of_ble_eq_true rfl, Nat.le_of_ble_eq_true rfl⟩ ⟨Nat.le_of_ble_eq_true rfl, Nat.le_of_ble_eq_true rfl⟩ rfl rfl (Nat.le_of_ble_eq_true rfl) (ccells_fst _ _ _ _) dX4_comparePair_45 ?_
        refine (show V p l e (k2_rm 3 75) s m args below meth c (inW (ccells g ad w)) (EN below args s g (ccells g ad w) (ccells g ad rr.2) (some (.int rr.1))) g 3 (ccells g ad w) 0 0 48 [(0, .ref (ad 63)), (1, .int a0), (2, .int a1)] [.int r45] from ?_)
        refine v_if_eq hG 58 dX4_comparePair_48 rfl hf (fun hf => ?_) (fun hf => ?_)
        · refine v_iconst hG (v := 1) (by decide) dX4_comparePair_58 ?_
          cases hf
          exact v_zret (x := 1) hG hr rfl dX4_comparePair_59
        · refine v_aload_n hG 0 rfl rfl dX4_comparePair_51 ?_
          refine v_iload_n hG 1 rfl rfl dX4_comparePair_52 ?_
          refine v_iload_n hG 2 rfl rfl dX4_comparePair_53 ?_
          obtain ⟨r54, hr54, hf⟩ := bd_some hf
          refine v_callV hG (st := []) 63 4 (ct_X4_joinTurned l g ad w a0 a1 r54 hr54) iw_X4_joinTurned wk_712 rfl rfl ⟨rfl, rfl, Nat.le_of_ble_eq_true rfl, Nat.le_of_ble_eq_true rfl⟩ ⟨Nat.le_of_ble_eq_true rfl, Nat.le_of_ble_eq_true rfl⟩ rfl rfl (Nat.le_of_ble_eq_true rfl) (ccells_fst _ _ _ _) dX4_comparePair_54 ?_
          refine (show V p l e (k2_rm 3 75) s m args below meth c (inW (ccells g ad w)) (EN below args s g (ccells g ad w) (ccells g ad rr.2) (some (.int rr.1))) g 3 (ccells g ad r54.2) 0 0 57 [(0, .ref (ad 63)), (1, .int a0), (2, .int a1)] [.int r54.1] from ?_)
          obtain ⟨hb, hf⟩ := gd_some hf
          cases hf
          exact v_zret hG hr (isB_nar hb) dX4_comparePair_57
  · refine v_aload_n hG 0 rfl rfl dX4_comparePair_10 ?_
    refine v_iload_n hG 1 rfl rfl dX4_comparePair_11 ?_
    refine v_iload_n hG 2 rfl rfl dX4_comparePair_12 ?_
    obtain ⟨r13, hr13, hf⟩ := bd_some hf
    refine v_callV hG (st := []) 63 4 (ct_X4_leaveAlike l g ad w a0 a1 r13 hr13) iw_X4_leaveAlike wk_708 rfl rfl ⟨rfl, rfl, Nat.le_of_ble_eq_true rfl, Nat.le_of_ble_eq_true rfl⟩ ⟨Nat.le_of_ble_eq_true rfl, Nat.le_of_ble_eq_true rfl⟩ rfl rfl (Nat.le_of_ble_eq_true rfl) (ccells_fst _ _ _ _) dX4_comparePair_13 ?_
    refine (show V p l e (k2_rm 3 75) s m args below meth c (inW (ccells g ad w)) (EN below args s g (ccells g ad w) (ccells g ad rr.2) (some (.int rr.1))) g 3 (ccells g ad r13.2) 0 0 16 [(0, .ref (ad 63)), (1, .int a0), (2, .int a1)] [.int r13.1] from ?_)
    obtain ⟨hb, hf⟩ := gd_some hf
    cases hf
    exact v_zret hG hr (isB_nar hb) dX4_comparePair_16
def X4_leaveTwins_J63  (j63_0 : CW) (j63_1 : Int32) : Option ((CW × Int32) ⊕ ((CW) ⊕ (CW))) := (some (.inl (j63_0, (j63_1 + 1))))
def X4_leaveTwins_L19 (a0 : Int32) (s19 : CW × Int32) : Option ((CW × Int32) ⊕ ((CW) ⊕ (CW))) := (if (gT_rows (gC_tab s19.1)) ≤ s19.2 then (some (.inr (.inr s19.1))) else ((X6_isGone (gC_tab s19.1) a0).bind (fun r35 : Int32 => (if r35 = 0 then ((X6_isGone (gC_tab s19.1) s19.2).bind (fun r46 : Int32 => (if r46 = 0 then ((X4_comparePair s19.1 a0 s19.2).bind (fun r55 : Int32 × CW => (if r55.1 = 0 then (some (.inr (.inl r55.2))) else (X4_leaveTwins_J63 r55.2 s19.2)))) else (X4_leaveTwins_J63 s19.1 s19.2)))) else (some (.inr (.inr s19.1)))))))
def X4_leaveTwins (w : CW) (a0 : Int32) : Option (Int32 × CW) := ((X6_nextTerm (gC_tab w) a0 0).bind (fun r6 : Int32 => (if r6 = (-1) then (some (1, w)) else ((iter (X4_leaveTwins_L19 a0) 5000 (w, (a0 + 1))).bind (fun z19 : (CW) ⊕ (CW) => (Sum.elim (fun z19_0 : CW => (some (0, z19_0))) (fun z19_r0 : (CW) => (some (1, z19_r0))) z19))))))
set_option maxRecDepth 100000 in
set_option maxHeartbeats 4000000 in
theorem ct_X4_leaveTwins (l : Launch) (g : wG) (ad : Nat → Nat) (w : CW) (a0 : Int32) (rr : Int32 × CW) (hf : X4_leaveTwins w a0 = some rr) : MetN l g yX4_leaveTwins cX4_leaveTwins 3 (some .boolean) (k2_rm 4 97) [.ref (ad 63), .int a0] (ccells g ad w) (ccells g ad rr.2) (some (.int rr.1)) := by
  refine MetN.of2 [(0, .ref (ad 63)), (1, .int a0)] rfl (by decide +kernel) (Nat.le_of_ble_eq_true rfl) ?_
  intro p e s m args below meth c hG hr
  unfold X4_leaveTwins at hf
  refine v_aload_n hG 0 rfl rfl dX4_leaveTwins_0 ?_
  refine c_g_63_1 hG wk_291 dX4_leaveTwins_1 ?_
  refine v_iload_n hG 1 rfl rfl dX4_leaveTwins_4 ?_
  refine v_iconst hG (v := 0) (by decide) dX4_leaveTwins_5 ?_
  obtain ⟨r6, hr6, hf⟩ := bd_some hf
  refine v_callV hG (st := []) 22 6 (ct_X6_nextTerm_s l g ad w a0 0 r6 hr6) iw_X6_nextTerm wk_601 rfl rfl ⟨rfl, rfl, Nat.le_of_ble_eq_true rfl, Nat.le_of_ble_eq_true rfl⟩ ⟨Nat.le_of_ble_eq_true rfl, Nat.le_of_ble_eq_true rfl⟩ rfl rfl (Nat.le_of_ble_eq_true rfl) (ccells_fst _ _ _ _) dX4_leaveTwins_6 ?_
  refine (show V p l e (k2_rm 4 97) s m args below meth c (inW (ccells g ad w)) (EN below args s g (ccells g ad w) (ccells g ad rr.2) (some (.int rr.1))) g 3 (ccells g ad w) 0 0 9 [(0, .ref (ad 63)), (1, .int a0)] [.int r6] from ?_)
  refine v_iconst hG (v := -1) (by decide) dX4_leaveTwins_9 ?_
  refine v_icmp_ne hG 15 dX4_leaveTwins_10 rfl hf (fun hf => ?_) (fun hf => ?_)
  · refine v_iload_n hG 1 rfl rfl dX4_leaveTwins_15 ?_
    refine v_iconst hG (v := 1) (by decide) dX4_leaveTwins_16 ?_
    refine v_iadd hG dX4_leaveTwins_17 ?_
    refine v_istore_n hG [(2, _), (0, _), (1, _)] dX4_leaveTwins_18 rfl (by decide) rfl ?_
    refine v_sub [(0, _), (1, _), (2, _)] [1, 2, 0] rfl ?_
    obtain ⟨z19, hlz19, hf⟩ := bd_some hf
    refine loop_v (step := X4_leaveTwins_L19 a0) (fun s19 : CW × Int32 => V p l e (k2_rm 4 97) s m args below meth c (inW (ccells g ad w)) (EN below args s g (ccells g ad w) (ccells g ad rr.2) (some (.int rr.1))) g 3 (ccells g ad s19.1) 0 0 19 [(0, .ref (ad 63)), (1, .int a0), (2, .int s19.2)] []) (fun z19_q : (CW) ⊕ (CW) => Sum.elim (fun z19_0 : CW => V p l e (k2_rm 4 97) s m args below meth c (inW (ccells g ad w)) (EN below args s g (ccells g ad w) (ccells g ad rr.2) (some (.int rr.1))) g 3 (ccells g ad z19_0) 0 0 61 [] []) (fun z19_r0 : (CW) => V p l e (k2_rm 4 97) s m args below meth c (inW (ccells g ad w)) (EN below args s g (ccells g ad w) (ccells g ad rr.2) (some (.int rr.1))) g 3 (ccells g ad z19_r0) 0 0 69 [] []) z19_q) ?_ 5000 (w, (a0 + 1)) z19 hlz19 ?_
    · intro s19 rL hf hin hout
      unfold X4_leaveTwins_L19 at hf
      have j63 : ∀ (j63_0 : CW) (j63_1 : Int32), X4_leaveTwins_J63 j63_0 j63_1 = some rL → V p l e (k2_rm 4 97) s m args below meth c (inW (ccells g ad w)) (EN below args s g (ccells g ad w) (ccells g ad rr.2) (some (.int rr.1))) g 3 (ccells g ad j63_0) 0 0 63 [(0, .ref (ad 63)), (1, .int a0), (2, .int j63_1)] [] := by
        intro j63_0 j63_1 hf
        unfold X4_leaveTwins_J63 at hf
        refine v_iinc hG 2 (v := j63_1 + 1) [(2, _), (0, _), (1, _)] dX4_leaveTwins_63 rfl rfl (by decide) rfl ?_
        refine v_goto hG 19 dX4_leaveTwins_66 rfl ?_
        refine v_sub [(0, _), (1, _), (2, _)] [1, 2, 0] rfl ?_
        exact hin _ (Option.some.inj hf).symm
      refine v_iload_n hG 2 rfl rfl dX4_leaveTwins_19 ?_
      refine v_aload_n hG 0 rfl rfl dX4_leaveTwins_20 ?_
      refine c_g_63_1 hG wk_291 dX4_leaveTwins_21 ?_
      refine c_g_22_8 hG wk_169 dX4_leaveTwins_24 ?_
      refine v_icmp_ge hG 69 dX4_leaveTwins_27 rfl hf (fun hf => ?_) (fun hf => ?_)
      · refine v_sub [] [] rfl ?_
        exact hout _ (Option.some.inj hf).symm
      · refine v_aload_n hG 0 rfl rfl dX4_leaveTwins_30 ?_
        refine c_g_63_1 hG wk_291 dX4_leaveTwins_31 ?_
        refine v_iload_n hG 1 rfl rfl dX4_leaveTwins_34 ?_
        obtain ⟨r35, hr35, hf⟩ := bd_some hf
        refine v_callV hG (st := []) 22 6 (ct_X6_isGone_s l g ad s19.1 a0 r35 hr35) iw_X6_isGone wk_699 rfl rfl ⟨rfl, rfl, Nat.le_of_ble_eq_true rfl, Nat.le_of_ble_eq_true rfl⟩ ⟨Nat.le_of_ble_eq_true rfl, Nat.le_of_ble_eq_true rfl⟩ rfl rfl (Nat.le_of_ble_eq_true rfl) (ccells_fst _ _ _ _) dX4_leaveTwins_35 ?_
        refine (show V p l e (k2_rm 4 97) s m args below meth c (inW (ccells g ad w)) (EN below args s g (ccells g ad w) (ccells g ad rr.2) (some (.int rr.1))) g 3 (ccells g ad s19.1) 0 0 38 [(0, .ref (ad 63)), (1, .int a0), (2, .int s19.2)] [.int r35] from ?_)
        refine v_if_ne hG 69 dX4_leaveTwins_38 rfl hf (fun hf => ?_) (fun hf => ?_)
        · refine v_sub [] [] rfl ?_
          exact hout _ (Option.some.inj hf).symm
        · refine v_aload_n hG 0 rfl rfl dX4_leaveTwins_41 ?_
          refine c_g_63_1 hG wk_291 dX4_leaveTwins_42 ?_
          refine v_iload_n hG 2 rfl rfl dX4_leaveTwins_45 ?_
          obtain ⟨r46, hr46, hf⟩ := bd_some hf
          refine v_callV hG (st := []) 22 6 (ct_X6_isGone_s l g ad s19.1 s19.2 r46 hr46) iw_X6_isGone wk_699 rfl rfl ⟨rfl, rfl, Nat.le_of_ble_eq_true rfl, Nat.le_of_ble_eq_true rfl⟩ ⟨Nat.le_of_ble_eq_true rfl, Nat.le_of_ble_eq_true rfl⟩ rfl rfl (Nat.le_of_ble_eq_true rfl) (ccells_fst _ _ _ _) dX4_leaveTwins_46 ?_
          refine (show V p l e (k2_rm 4 97) s m args below meth c (inW (ccells g ad w)) (EN below args s g (ccells g ad w) (ccells g ad rr.2) (some (.int rr.1))) g 3 (ccells g ad s19.1) 0 0 49 [(0, .ref (ad 63)), (1, .int a0), (2, .int s19.2)] [.int r46] from ?_)
          refine v_if_ne hG 63 dX4_leaveTwins_49 rfl hf (fun hf => ?_) (fun hf => ?_)
          · exact j63 s19.1 s19.2 hf
          · refine v_aload_n hG 0 rfl rfl dX4_leaveTwins_52 ?_
            refine v_iload_n hG 1 rfl rfl dX4_leaveTwins_53 ?_
            refine v_iload_n hG 2 rfl rfl dX4_leaveTwins_54 ?_
            obtain ⟨r55, hr55, hf⟩ := bd_some hf
            refine v_callV hG (st := []) 63 4 (ct_X4_comparePair l g ad s19.1 a0 s19.2 r55 hr55) iw_X4_comparePair wk_700 rfl rfl ⟨rfl, rfl, Nat.le_of_ble_eq_true rfl, Nat.le_of_ble_eq_true rfl⟩ ⟨Nat.le_of_ble_eq_true rfl, Nat.le_of_ble_eq_true rfl⟩ rfl rfl (Nat.le_of_ble_eq_true rfl) (ccells_fst _ _ _ _) dX4_leaveTwins_55 ?_
            refine (show V p l e (k2_rm 4 97) s m args below meth c (inW (ccells g ad w)) (EN below args s g (ccells g ad w) (ccells g ad rr.2) (some (.int rr.1))) g 3 (ccells g ad r55.2) 0 0 58 [(0, .ref (ad 63)), (1, .int a0), (2, .int s19.2)] [.int r55.1] from ?_)
            refine v_if_ne hG 63 dX4_leaveTwins_58 rfl hf (fun hf => ?_) (fun hf => ?_)
            · exact j63 r55.2 s19.2 hf
            · refine v_sub [] [] rfl ?_
              exact hout _ (Option.some.inj hf).symm
    · rcases z19 with z19_x0 | z19_x0
      · simp only [Sum.elim_inl] at hf
        show V p l e (k2_rm 4 97) s m args below meth c (inW (ccells g ad w)) (EN below args s g (ccells g ad w) (ccells g ad rr.2) (some (.int rr.1))) g 3 (ccells g ad z19_x0) 0 0 61 [] []
        refine v_iconst hG (v := 0) (by decide) dX4_leaveTwins_61 ?_
        cases hf
        exact v_zret (x := 0) hG hr rfl dX4_leaveTwins_62
      · simp only [Sum.elim_inr] at hf
        show V p l e (k2_rm 4 97) s m args below meth c (inW (ccells g ad w)) (EN below args s g (ccells g ad w) (ccells g ad rr.2) (some (.int rr.1))) g 3 (ccells g ad z19_x0) 0 0 69 [] []
        refine v_iconst hG (v := 1) (by decide) dX4_leaveTwins_69 ?_
        cases hf
        exact v_zret (x := 1) hG hr rfl dX4_leaveTwins_70
  · refine v_iconst hG (v := 1) (by decide) dX4_leaveTwins_13 ?_
    cases hf
    exact v_zret (x := 1) hG hr rfl dX4_leaveTwins_14
def X4_makeTermLess_J135 (a0 : Int32) (a1 : Int32) (j135_0 : CW) : Option (CW) := (if inR a0 12 = true then ((X5_reachRest j135_0 a0 a1 1).bind (fun r152 : Int32 => (if inR a1 12 = true then (if inR a1 12 = true then (if inR a0 12 = true then (bnd (sC_rowRest j135_0 (upd (gC_rowRest j135_0) a0.toNatClampNeg (((gC_rowRest j135_0) a0.toNatClampNeg) ||| ((r152 ||| ((gC_lowRest j135_0) a1.toNatClampNeg)) ||| ((gC_highRest j135_0) a1.toNatClampNeg))))) (fun w176 : CW => ((X5_noteAnew w176 a0).bind (fun r182 : CW => (some r182))))) else none) else none) else none))) else none)
def X4_makeTermLess_J91 (a0 : Int32) (a1 : Int32) (j91_0 : CW) (j91_1 : Int64) (j91_2 : Int64) (j91_3 : Int64) : Option (CW) := (if 0 ≤ j91_1 then (some j91_0) else (if j91_2 ≤ (j91_3 + j91_1) then (some j91_0) else (if j91_3 ≤ j91_2 then (some j91_0) else (if inR a0 12 = true then (if inR a1 12 = true then (bnd (sC_tab j91_0 (sT_a (gC_tab j91_0) (va_up (gT_a (gC_tab j91_0)) a0.toNatClampNeg (vp_updL ((gT_a (gC_tab j91_0)) a0.toNatClampNeg) a1.toNatClampNeg (j91_2 - j91_3))))) (fun w130 : CW => (X4_makeTermLess_J135 a0 a1 w130))) else none) else none))))
def X4_makeTermLess (w : CW) (a0 : Int32) (a1 : Int32) : Option (CW) := (if inR a0 12 = true then (if inR a1 12 = true then (if inR a0 12 = true then ((X5_reach w a0 a1 1).bind (fun r30 : Int64 => (if ((gT_a (gC_tab w)) a0.toNatClampNeg a1.toNatClampNeg) ≤ 0 then (X4_makeTermLess_J91 a0 a1 w ((gT_a (gC_tab w)) a0.toNatClampNeg a1.toNatClampNeg) ((gT_right (gC_tab w)) a0.toNatClampNeg) r30) else (if ((gT_right (gC_tab w)) a0.toNatClampNeg) ≤ r30 then (X4_makeTermLess_J91 a0 a1 w ((gT_a (gC_tab w)) a0.toNatClampNeg a1.toNatClampNeg) ((gT_right (gC_tab w)) a0.toNatClampNeg) r30) else (if (r30 + ((gT_a (gC_tab w)) a0.toNatClampNeg a1.toNatClampNeg)) ≤ ((gT_right (gC_tab w)) a0.toNatClampNeg) then (X4_makeTermLess_J91 a0 a1 w ((gT_a (gC_tab w)) a0.toNatClampNeg a1.toNatClampNeg) ((gT_right (gC_tab w)) a0.toNatClampNeg) r30) else (if inR a0 12 = true then (if inR a1 12 = true then (bnd (sC_tab w (sT_a (gC_tab w) (va_up (gT_a (gC_tab w)) a0.toNatClampNeg (vp_updL ((gT_a (gC_tab w)) a0.toNatClampNeg) a1.toNatClampNeg (((gT_a (gC_tab w)) a0.toNatClampNeg a1.toNatClampNeg) - (((gT_right (gC_tab w)) a0.toNatClampNeg) - r30)))))) (fun w76 : CW => (if inR a0 12 = true then (bnd (sC_tab w76 (sT_right (gC_tab w76) (vp_updL (gT_right (gC_tab w76)) a0.toNatClampNeg r30))) (fun w87 : CW => (X4_makeTermLess_J135 a0 a1 w87))) else none))) else none) else none)))))) else none) else none) else none)
set_option maxRecDepth 100000 in
set_option maxHeartbeats 4000000 in
theorem ct_X4_makeTermLess (l : Launch) (g : wG) (ad : Nat → Nat) (w : CW) (a0 : Int32) (a1 : Int32) (rr : CW) (hf : X4_makeTermLess w a0 a1 = some rr) : MetN l g yX4_makeTermLess cX4_makeTermLess 9 none (k2_rm 2 48) [.ref (ad 63), .int a0, .int a1] (ccells g ad w) (ccells g ad rr) none := by
  refine MetN.of2 [(0, .ref (ad 63)), (1, .int a0), (2, .int a1)] rfl (by decide +kernel) (Nat.le_of_ble_eq_true rfl) ?_
  intro p e s m args below meth c hG hr
  unfold X4_makeTermLess at hf
  have j135 : ∀ (j135_0 : CW), X4_makeTermLess_J135 a0 a1 j135_0 = some rr → V p l e (k2_rm 2 48) s m args below meth c (inW (ccells g ad w)) (EN below args s g (ccells g ad w) (ccells g ad rr) none) g 9 (ccells g ad j135_0) 0 0 135 [(0, .ref (ad 63)), (1, .int a0), (2, .int a1)] [] := by
    intro j135_0 hf
    unfold X4_makeTermLess_J135 at hf
    refine v_aload_n hG 0 rfl rfl dX4_makeTermLess_135 ?_
    refine c_g_63_0 hG wk_290 dX4_makeTermLess_136 ?_
    refine c_g_21_1 hG wk_223 dX4_makeTermLess_139 ?_
    refine v_iload_n hG 1 rfl rfl dX4_makeTermLess_142 ?_
    refine v_dup2 hG rfl rfl dX4_makeTermLess_143 ?_
    refine c_l_42 hG dX4_makeTermLess_144 hf (fun hf => ?_)
    refine v_aload_n hG 0 rfl rfl dX4_makeTermLess_145 ?_
    refine c_g_63_0 hG wk_290 dX4_makeTermLess_146 ?_
    refine v_iload_n hG 1 rfl rfl dX4_makeTermLess_149 ?_
    refine v_iload_n hG 2 rfl rfl dX4_makeTermLess_150 ?_
    refine v_iconst hG (v := 1) (by decide) dX4_makeTermLess_151 ?_
    obtain ⟨r152, hr152, hf⟩ := bd_some hf
    refine v_callV hG (st := [.int ((gC_rowRest j135_0) a0.toNatClampNeg), .int a0, .ref (ad 42)]) 21 5 (ct_X5_reachRest l g ad j135_0 a0 a1 1 r152 hr152) iw_X5_reachRest wk_673 rfl rfl ⟨rfl, rfl, Nat.le_of_ble_eq_true rfl, Nat.le_of_ble_eq_true rfl⟩ ⟨Nat.le_of_ble_eq_true rfl, Nat.le_of_ble_eq_true rfl⟩ rfl rfl (Nat.le_of_ble_eq_true rfl) (ccells_fst _ _ _ _) dX4_makeTermLess_152 ?_
    refine (show V p l e (k2_rm 2 48) s m args below meth c (inW (ccells g ad w)) (EN below args s g (ccells g ad w) (ccells g ad rr) none) g 9 (ccells g ad j135_0) 0 0 155 [(0, .ref (ad 63)), (1, .int a0), (2, .int a1)] [.int r152, .int ((gC_rowRest j135_0) a0.toNatClampNeg), .int a0, .ref (ad 42)] from ?_)
    refine v_aload_n hG 0 rfl rfl dX4_makeTermLess_155 ?_
    refine c_g_63_0 hG wk_290 dX4_makeTermLess_156 ?_
    refine c_g_21_2 hG wk_229 dX4_makeTermLess_159 ?_
    refine v_iload_n hG 2 rfl rfl dX4_makeTermLess_162 ?_
    refine c_l_43 hG dX4_makeTermLess_163 hf (fun hf => ?_)
    refine v_ior hG dX4_makeTermLess_164 ?_
    refine v_aload_n hG 0 rfl rfl dX4_makeTermLess_165 ?_
    refine c_g_63_0 hG wk_290 dX4_makeTermLess_166 ?_
    refine c_g_21_3 hG wk_233 dX4_makeTermLess_169 ?_
    refine v_iload_n hG 2 rfl rfl dX4_makeTermLess_172 ?_
    refine c_l_44 hG dX4_makeTermLess_173 hf (fun hf => ?_)
    refine v_ior hG dX4_makeTermLess_174 ?_
    refine v_ior hG dX4_makeTermLess_175 ?_
    refine c_s_42 hG dX4_makeTermLess_176 hf (fun w176 hf => ?_)
    refine v_aload_n hG 0 rfl rfl dX4_makeTermLess_177 ?_
    refine c_g_63_0 hG wk_290 dX4_makeTermLess_178 ?_
    refine v_iload_n hG 1 rfl rfl dX4_makeTermLess_181 ?_
    obtain ⟨r182, hr182, hf⟩ := bd_some hf
    refine v_callV hG (st := []) 21 5 (ct_X5_noteAnew l g ad w176 a0 r182 hr182) iw_X5_noteAnew wk_647 rfl rfl ⟨rfl, rfl, Nat.le_of_ble_eq_true rfl, Nat.le_of_ble_eq_true rfl⟩ ⟨Nat.le_of_ble_eq_true rfl, Nat.le_of_ble_eq_true rfl⟩ rfl rfl (Nat.le_of_ble_eq_true rfl) (ccells_fst _ _ _ _) dX4_makeTermLess_182 ?_
    refine (show V p l e (k2_rm 2 48) s m args below meth c (inW (ccells g ad w)) (EN below args s g (ccells g ad w) (ccells g ad rr) none) g 9 (ccells g ad r182) 0 0 185 [(0, .ref (ad 63)), (1, .int a0), (2, .int a1)] [] from ?_)
    cases hf
    exact v_vret hG hr dX4_makeTermLess_185
  have j91 : ∀ (j91_0 : CW) (j91_1 : Int64) (j91_2 : Int64) (j91_3 : Int64), X4_makeTermLess_J91 a0 a1 j91_0 j91_1 j91_2 j91_3 = some rr → V p l e (k2_rm 2 48) s m args below meth c (inW (ccells g ad w)) (EN below args s g (ccells g ad w) (ccells g ad rr) none) g 9 (ccells g ad j91_0) 0 0 91 [(0, .ref (ad 63)), (1, .int a0), (2, .int a1), (3, .long j91_1), (5, .long j91_2), (7, .long j91_3)] [] := by
    intro j91_0 j91_1 j91_2 j91_3 hf
    unfold X4_makeTermLess_J91 at hf
    refine v_lload_n hG 3 rfl rfl dX4_makeTermLess_91 ?_
    refine v_lconst hG (v := 0) (by decide) dX4_makeTermLess_92 ?_
    refine v_lcmp_ge hG 134 dX4_makeTermLess_93 dX4_makeTermLess_94 rfl hf (fun hf => ?_) (fun hf => ?_)
    · cases hf
      exact v_vret hG hr dX4_makeTermLess_134
    · refine v_lload hG 5 rfl dX4_makeTermLess_97 ?_
      refine v_lload_n hG 3 rfl rfl dX4_makeTermLess_99 ?_
      refine v_ladd hG dX4_makeTermLess_100 ?_
      refine v_lload hG 4 rfl dX4_makeTermLess_101 ?_
      refine v_lcmp_ge hG 134 dX4_makeTermLess_103 dX4_makeTermLess_104 rfl hf (fun hf => ?_) (fun hf => ?_)
      · cases hf
        exact v_vret hG hr dX4_makeTermLess_134
      · refine v_lload hG 5 rfl dX4_makeTermLess_107 ?_
        refine v_lload hG 4 rfl dX4_makeTermLess_109 ?_
        refine v_lcmp_le hG 134 dX4_makeTermLess_111 dX4_makeTermLess_112 rfl hf (fun hf => ?_) (fun hf => ?_)
        · cases hf
          exact v_vret hG hr dX4_makeTermLess_134
        · refine v_aload_n hG 0 rfl rfl dX4_makeTermLess_115 ?_
          refine c_g_63_1 hG wk_291 dX4_makeTermLess_116 ?_
          refine c_g_22_6 hG wk_150 dX4_makeTermLess_119 ?_
          refine v_iload_n hG 1 rfl rfl dX4_makeTermLess_122 ?_
          refine c_o_29 hG dX4_makeTermLess_123 hf (fun hi123 hf => ?_)
          refine v_iload_n hG 2 rfl rfl dX4_makeTermLess_124 ?_
          refine v_lload hG 4 rfl dX4_makeTermLess_125 ?_
          refine v_lload hG 5 rfl dX4_makeTermLess_127 ?_
          refine v_lsub hG dX4_makeTermLess_129 ?_
          refine c_rs_29 hG hi123 dX4_makeTermLess_130 hf (fun w130 hf => ?_)
          refine v_goto hG 135 dX4_makeTermLess_131 rfl ?_
          refine v_sub [(0, _), (1, _), (2, _)] [0, 1, 2] rfl ?_
          exact j135 w130 hf
  refine v_aload_n hG 0 rfl rfl dX4_makeTermLess_0 ?_
  refine c_g_63_1 hG wk_291 dX4_makeTermLess_1 ?_
  refine c_g_22_6 hG wk_150 dX4_makeTermLess_4 ?_
  refine v_iload_n hG 1 rfl rfl dX4_makeTermLess_7 ?_
  refine c_o_29 hG dX4_makeTermLess_8 hf (fun hi8 hf => ?_)
  refine v_iload_n hG 2 rfl rfl dX4_makeTermLess_9 ?_
  refine c_rl_29 hG hi8 dX4_makeTermLess_10 hf (fun hf => ?_)
  refine v_lstore_n hG [(3, _), (0, _), (1, _), (2, _)] dX4_makeTermLess_11 rfl (by decide) rfl ?_
  refine v_aload_n hG 1 rfl rfl dX4_makeTermLess_12 ?_
  refine c_g_63_1 hG wk_291 dX4_makeTermLess_13 ?_
  refine c_g_22_5 hG wk_144 dX4_makeTermLess_16 ?_
  refine v_iload_n hG 2 rfl rfl dX4_makeTermLess_19 ?_
  refine c_l_28 hG dX4_makeTermLess_20 hf (fun hf => ?_)
  refine v_lstore hG [(5, _), (3, _), (0, _), (1, _), (2, _)] dX4_makeTermLess_21 (by decide) rfl ?_
  refine v_aload_n hG 2 rfl rfl dX4_makeTermLess_23 ?_
  refine c_g_63_0 hG wk_290 dX4_makeTermLess_24 ?_
  refine v_iload_n hG 3 rfl rfl dX4_makeTermLess_27 ?_
  refine v_iload_n hG 4 rfl rfl dX4_makeTermLess_28 ?_
  refine v_iconst hG (v := 1) (by decide) dX4_makeTermLess_29 ?_
  obtain ⟨r30, hr30, hf⟩ := bd_some hf
  refine v_callV hG (st := []) 21 5 (ct_X5_reach l g ad w a0 a1 1 r30 hr30) iw_X5_reach wk_669 rfl rfl ⟨rfl, rfl, Nat.le_of_ble_eq_true rfl, Nat.le_of_ble_eq_true rfl⟩ ⟨Nat.le_of_ble_eq_true rfl, Nat.le_of_ble_eq_true rfl⟩ rfl rfl (Nat.le_of_ble_eq_true rfl) (ccells_fst _ _ _ _) dX4_makeTermLess_30 ?_
  refine (show V p l e (k2_rm 2 48) s m args below meth c (inW (ccells g ad w)) (EN below args s g (ccells g ad w) (ccells g ad rr) none) g 9 (ccells g ad w) 0 0 33 [(5, .long ((gT_right (gC_tab w)) a0.toNatClampNeg)), (3, .long ((gT_a (gC_tab w)) a0.toNatClampNeg a1.toNatClampNeg)), (0, .ref (ad 63)), (1, .int a0), (2, .int a1)] [.long r30] from ?_)
  refine v_lstore hG [(7, _), (5, _), (3, _), (0, _), (1, _), (2, _)] dX4_makeTermLess_33 (by decide) rfl ?_
  refine v_lload_n hG 2 rfl rfl dX4_makeTermLess_35 ?_
  refine v_lconst hG (v := 0) (by decide) dX4_makeTermLess_36 ?_
  refine v_lcmp_le hG 91 dX4_makeTermLess_37 dX4_makeTermLess_38 rfl hf (fun hf => ?_) (fun hf => ?_)
  · refine v_sub [(0, _), (1, _), (2, _), (3, _), (5, _), (7, _)] [3, 4, 5, 2, 1, 0] rfl ?_
    exact j91 w ((gT_a (gC_tab w)) a0.toNatClampNeg a1.toNatClampNeg) ((gT_right (gC_tab w)) a0.toNatClampNeg) r30 hf
  · refine v_lload hG 0 rfl dX4_makeTermLess_41 ?_
    refine v_lload hG 1 rfl dX4_makeTermLess_43 ?_
    refine v_lcmp_ge hG 91 dX4_makeTermLess_45 dX4_makeTermLess_46 rfl hf (fun hf => ?_) (fun hf => ?_)
    · refine v_sub [(0, _), (1, _), (2, _), (3, _), (5, _), (7, _)] [3, 4, 5, 2, 1, 0] rfl ?_
      exact j91 w ((gT_a (gC_tab w)) a0.toNatClampNeg a1.toNatClampNeg) ((gT_right (gC_tab w)) a0.toNatClampNeg) r30 hf
    · refine v_lload hG 0 rfl dX4_makeTermLess_49 ?_
      refine v_lload_n hG 2 rfl rfl dX4_makeTermLess_51 ?_
      refine v_ladd hG dX4_makeTermLess_52 ?_
      refine v_lload hG 1 rfl dX4_makeTermLess_53 ?_
      refine v_lcmp_le hG 91 dX4_makeTermLess_55 dX4_makeTermLess_56 rfl hf (fun hf => ?_) (fun hf => ?_)
      · refine v_sub [(0, _), (1, _), (2, _), (3, _), (5, _), (7, _)] [3, 4, 5, 2, 1, 0] rfl ?_
        exact j91 w ((gT_a (gC_tab w)) a0.toNatClampNeg a1.toNatClampNeg) ((gT_right (gC_tab w)) a0.toNatClampNeg) r30 hf
      · refine v_aload_n hG 3 rfl rfl dX4_makeTermLess_59 ?_
        refine c_g_63_1 hG wk_291 dX4_makeTermLess_60 ?_
        refine c_g_22_6 hG wk_150 dX4_makeTermLess_63 ?_
        refine v_iload_n hG 4 rfl rfl dX4_makeTermLess_66 ?_
        refine c_o_29 hG dX4_makeTermLess_67 hf (fun hi67 hf => ?_)
        refine v_iload_n hG 5 rfl rfl dX4_makeTermLess_68 ?_
        refine v_lload_n hG 2 rfl rfl dX4_makeTermLess_69 ?_
        refine v_lload hG 1 rfl dX4_makeTermLess_70 ?_
        refine v_lload hG 0 rfl dX4_makeTermLess_72 ?_
        refine v_lsub hG dX4_makeTermLess_74 ?_
        refine v_lsub hG dX4_makeTermLess_75 ?_
        refine c_rs_29 hG hi67 dX4_makeTermLess_76 hf (fun w76 hf => ?_)
        refine v_aload_n hG 3 rfl rfl dX4_makeTermLess_77 ?_
        refine c_g_63_1 hG wk_291 dX4_makeTermLess_78 ?_
        refine c_g_22_5 hG wk_144 dX4_makeTermLess_81 ?_
        refine v_iload_n hG 4 rfl rfl dX4_makeTermLess_84 ?_
        refine v_lload hG 0 rfl dX4_makeTermLess_85 ?_
        refine c_s_28 hG dX4_makeTermLess_87 hf (fun w87 hf => ?_)
        refine v_goto hG 135 dX4_makeTermLess_88 rfl ?_
        refine v_sub [(0, _), (1, _), (2, _)] [3, 4, 5] rfl ?_
        exact j135 w87 hf
def X4_makeLess_J60  (j60_0 : CW) (j60_1 : Int32) : Option ((CW × Int32) ⊕ ((CW))) := (some (.inl (j60_0, (j60_1 + 1))))
def X4_makeLess_L16 (a0 : Int32) (s16 : CW × Int32) : Option ((CW × Int32) ⊕ ((CW))) := (if (gT_columns (gC_tab s16.1)) ≤ s16.2 then (some (.inr s16.1)) else (if inR a0 12 = true then (if inR s16.2 12 = true then (if ((gT_a (gC_tab s16.1)) a0.toNatClampNeg s16.2.toNatClampNeg) = 0 then (X4_makeLess_J60 s16.1 s16.2) else ((X6_isBinary (gC_tab s16.1) s16.2).bind (fun r48 : Int32 => (if r48 = 0 then (X4_makeLess_J60 s16.1 s16.2) else ((X4_makeTermLess s16.1 a0 s16.2).bind (fun r57 : CW => (X4_makeLess_J60 r57 s16.2))))))) else none) else none))
def X4_makeLess (w : CW) (a0 : Int32) : Option (Int32 × CW) := (if inR a0 12 = true then (if ((gT_kind (gC_tab w)) a0.toNatClampNeg) = 0 then ((iter (X4_makeLess_L16 a0) 5000 (w, 0)).bind (fun z16 : (CW) => (some (1, z16)))) else (some (1, w))) else none)
set_option maxRecDepth 100000 in
set_option maxHeartbeats 4000000 in
theorem ct_X4_makeLess (l : Launch) (g : wG) (ad : Nat → Nat) (w : CW) (a0 : Int32) (rr : Int32 × CW) (hf : X4_makeLess w a0 = some rr) : MetN l g yX4_makeLess cX4_makeLess 3 (some .boolean) (k2_rm 3 76) [.ref (ad 63), .int a0] (ccells g ad w) (ccells g ad rr.2) (some (.int rr.1)) := by
  refine MetN.of2 [(0, .ref (ad 63)), (1, .int a0)] rfl (by decide +kernel) (Nat.le_of_ble_eq_true rfl) ?_
  intro p e s m args below meth c hG hr
  unfold X4_makeLess at hf
  refine v_aload_n hG 0 rfl rfl dX4_makeLess_0 ?_
  refine c_g_63_1 hG wk_291 dX4_makeLess_1 ?_
  refine c_g_22_4 hG wk_138 dX4_makeLess_4 ?_
  refine v_iload_n hG 1 rfl rfl dX4_makeLess_7 ?_
  refine c_l_27 hG dX4_makeLess_8 hf (fun hf => ?_)
  refine v_if_eq hG 14 dX4_makeLess_9 rfl hf (fun hf => ?_) (fun hf => ?_)
  · refine v_iconst hG (v := 0) (by decide) dX4_makeLess_14 ?_
    refine v_istore_n hG [(2, _), (0, _), (1, _)] dX4_makeLess_15 rfl (by decide) rfl ?_
    refine v_sub [(0, _), (1, _), (2, _)] [1, 2, 0] rfl ?_
    obtain ⟨z16, hlz16, hf⟩ := bd_some hf
    refine loop_v (step := X4_makeLess_L16 a0) (fun s16 : CW × Int32 => V p l e (k2_rm 3 76) s m args below meth c (inW (ccells g ad w)) (EN below args s g (ccells g ad w) (ccells g ad rr.2) (some (.int rr.1))) g 3 (ccells g ad s16.1) 0 0 16 [(0, .ref (ad 63)), (1, .int a0), (2, .int s16.2)] []) (fun z16_q : (CW) => V p l e (k2_rm 3 76) s m args below meth c (inW (ccells g ad w)) (EN below args s g (ccells g ad w) (ccells g ad rr.2) (some (.int rr.1))) g 3 (ccells g ad z16_q) 0 0 66 [] []) ?_ 5000 (w, 0) z16 hlz16 ?_
    · intro s16 rL hf hin hout
      unfold X4_makeLess_L16 at hf
      have j60 : ∀ (j60_0 : CW) (j60_1 : Int32), X4_makeLess_J60 j60_0 j60_1 = some rL → V p l e (k2_rm 3 76) s m args below meth c (inW (ccells g ad w)) (EN below args s g (ccells g ad w) (ccells g ad rr.2) (some (.int rr.1))) g 3 (ccells g ad j60_0) 0 0 60 [(0, .ref (ad 63)), (1, .int a0), (2, .int j60_1)] [] := by
        intro j60_0 j60_1 hf
        unfold X4_makeLess_J60 at hf
        refine v_iinc hG 2 (v := j60_1 + 1) [(2, _), (0, _), (1, _)] dX4_makeLess_60 rfl rfl (by decide) rfl ?_
        refine v_goto hG 16 dX4_makeLess_63 rfl ?_
        refine v_sub [(0, _), (1, _), (2, _)] [1, 2, 0] rfl ?_
        exact hin _ (Option.some.inj hf).symm
      refine v_iload_n hG 2 rfl rfl dX4_makeLess_16 ?_
      refine v_aload_n hG 0 rfl rfl dX4_makeLess_17 ?_
      refine c_g_63_1 hG wk_291 dX4_makeLess_18 ?_
      refine c_g_22_7 hG wk_159 dX4_makeLess_21 ?_
      refine v_icmp_ge hG 66 dX4_makeLess_24 rfl hf (fun hf => ?_) (fun hf => ?_)
      · refine v_sub [] [] rfl ?_
        exact hout _ (Option.some.inj hf).symm
      · refine v_aload_n hG 0 rfl rfl dX4_makeLess_27 ?_
        refine c_g_63_1 hG wk_291 dX4_makeLess_28 ?_
        refine c_g_22_6 hG wk_150 dX4_makeLess_31 ?_
        refine v_iload_n hG 1 rfl rfl dX4_makeLess_34 ?_
        refine c_o_29 hG dX4_makeLess_35 hf (fun hi35 hf => ?_)
        refine v_iload_n hG 2 rfl rfl dX4_makeLess_36 ?_
        refine c_rl_29 hG hi35 dX4_makeLess_37 hf (fun hf => ?_)
        refine v_lconst hG (v := 0) (by decide) dX4_makeLess_38 ?_
        refine v_lcmp_eq hG 60 dX4_makeLess_39 dX4_makeLess_40 rfl hf (fun hf => ?_) (fun hf => ?_)
        · exact j60 s16.1 s16.2 hf
        · refine v_aload_n hG 0 rfl rfl dX4_makeLess_43 ?_
          refine c_g_63_1 hG wk_291 dX4_makeLess_44 ?_
          refine v_iload_n hG 2 rfl rfl dX4_makeLess_47 ?_
          obtain ⟨r48, hr48, hf⟩ := bd_some hf
          refine v_callV hG (st := []) 22 6 (ct_X6_isBinary_s l g ad s16.1 s16.2 r48 hr48) iw_X6_isBinary wk_771 rfl rfl ⟨rfl, rfl, Nat.le_of_ble_eq_true rfl, Nat.le_of_ble_eq_true rfl⟩ ⟨Nat.le_of_ble_eq_true rfl, Nat.le_of_ble_eq_true rfl⟩ rfl rfl (Nat.le_of_ble_eq_true rfl) (ccells_fst _ _ _ _) dX4_makeLess_48 ?_
          refine (show V p l e (k2_rm 3 76) s m args below meth c (inW (ccells g ad w)) (EN below args s g (ccells g ad w) (ccells g ad rr.2) (some (.int rr.1))) g 3 (ccells g ad s16.1) 0 0 51 [(0, .ref (ad 63)), (1, .int a0), (2, .int s16.2)] [.int r48] from ?_)
          refine v_if_eq hG 60 dX4_makeLess_51 rfl hf (fun hf => ?_) (fun hf => ?_)
          · exact j60 s16.1 s16.2 hf
          · refine v_aload_n hG 0 rfl rfl dX4_makeLess_54 ?_
            refine v_iload_n hG 1 rfl rfl dX4_makeLess_55 ?_
            refine v_iload_n hG 2 rfl rfl dX4_makeLess_56 ?_
            obtain ⟨r57, hr57, hf⟩ := bd_some hf
            refine v_callV hG (st := []) 63 4 (ct_X4_makeTermLess l g ad s16.1 a0 s16.2 r57 hr57) iw_X4_makeTermLess wk_775 rfl rfl ⟨rfl, rfl, Nat.le_of_ble_eq_true rfl, Nat.le_of_ble_eq_true rfl⟩ ⟨Nat.le_of_ble_eq_true rfl, Nat.le_of_ble_eq_true rfl⟩ rfl rfl (Nat.le_of_ble_eq_true rfl) (ccells_fst _ _ _ _) dX4_makeLess_57 ?_
            refine (show V p l e (k2_rm 3 76) s m args below meth c (inW (ccells g ad w)) (EN below args s g (ccells g ad w) (ccells g ad rr.2) (some (.int rr.1))) g 3 (ccells g ad r57) 0 0 60 [(0, .ref (ad 63)), (1, .int a0), (2, .int s16.2)] [] from ?_)
            exact j60 r57 s16.2 hf
    · show V p l e (k2_rm 3 76) s m args below meth c (inW (ccells g ad w)) (EN below args s g (ccells g ad w) (ccells g ad rr.2) (some (.int rr.1))) g 3 (ccells g ad z16) 0 0 66 [] []
      refine v_iconst hG (v := 1) (by decide) dX4_makeLess_66 ?_
      cases hf
      exact v_zret (x := 1) hG hr rfl dX4_makeLess_67
  · refine v_iconst hG (v := 1) (by decide) dX4_makeLess_12 ?_
    cases hf
    exact v_zret (x := 1) hG hr rfl dX4_makeLess_13
