def X8_endPoints (w : CW) : Option (CW) := (bnd (sC_putColumns w 0) (fun w2 : CW => (bnd (sC_hasTurned w2 0) (fun w7 : CW => (bnd (sC_hasBest w7 0) (fun w12 : CW => (some w12)))))))
set_option maxRecDepth 100000 in
set_option maxHeartbeats 4000000 in
theorem ct_X8_endPoints (l : Launch) (g : wG) (ad : Nat → Nat) (w : CW)  (rr : CW) (hf : X8_endPoints w = some rr) : MetN l g yX8_endPoints cX8_endPoints 1 none (k2_rm 0 0) [.ref (ad 0)] (ccells g ad w) (ccells g ad rr) none := by
  refine MetN.of2 [(0, .ref (ad 0))] rfl (by decide +kernel) (Nat.le_of_ble_eq_true rfl) ?_
  intro p e s m args below meth c hG hr
  unfold X8_endPoints at hf
  refine v_aload_n hG 0 rfl rfl dX8_endPoints_0 ?_
  refine v_iconst hG (v := 0) (by decide) dX8_endPoints_1 ?_
  refine c_p_0_7 hG wk_368 dX8_endPoints_2 hf (fun w2 hf => ?_)
  refine v_aload_n hG 0 rfl rfl dX8_endPoints_5 ?_
  refine v_iconst hG (v := 0) (by decide) dX8_endPoints_6 ?_
  refine c_p_0_9 hG wk_370 dX8_endPoints_7 rfl rfl hf (fun w7 hf => ?_)
  refine v_aload_n hG 0 rfl rfl dX8_endPoints_10 ?_
  refine v_iconst hG (v := 0) (by decide) dX8_endPoints_11 ?_
  refine c_p_0_12 hG wk_373 dX8_endPoints_12 rfl rfl hf (fun w12 hf => ?_)
  cases hf
  exact v_vret hG hr dX8_endPoints_15
def X8_endSmall (w : CW) : Option (CW) := (bnd (sC_hasSmall w 0) (fun w2 : CW => ((X8_endPoints w2).bind (fun r6 : CW => (some r6)))))
set_option maxRecDepth 100000 in
set_option maxHeartbeats 4000000 in
theorem ct_X8_endSmall (l : Launch) (g : wG) (ad : Nat → Nat) (w : CW)  (rr : CW) (hf : X8_endSmall w = some rr) : MetN l g yX8_endSmall cX8_endSmall 1 none (k2_rm 1 20) [.ref (ad 0)] (ccells g ad w) (ccells g ad rr) none := by
  refine MetN.of2 [(0, .ref (ad 0))] rfl (by decide +kernel) (Nat.le_of_ble_eq_true rfl) ?_
  intro p e s m args below meth c hG hr
  unfold X8_endSmall at hf
  refine v_aload_n hG 0 rfl rfl dX8_endSmall_0 ?_
  refine v_iconst hG (v := 0) (by decide) dX8_endSmall_1 ?_
  refine c_p_0_5 hG wk_366 dX8_endSmall_2 rfl rfl hf (fun w2 hf => ?_)
  refine v_aload_n hG 0 rfl rfl dX8_endSmall_5 ?_
  obtain ⟨r6, hr6, hf⟩ := bd_some hf
  refine v_callV hG (st := []) 0 8 (ct_X8_endPoints l g ad w2  r6 hr6) iw_X8_endPoints wk_409 rfl rfl ⟨rfl, rfl, Nat.le_of_ble_eq_true rfl, Nat.le_of_ble_eq_true rfl⟩ ⟨Nat.le_of_ble_eq_true rfl, Nat.le_of_ble_eq_true rfl⟩ rfl rfl (Nat.le_of_ble_eq_true rfl) (ccells_fst _ _ _ _) dX8_endSmall_6 ?_
  refine (show V p l e (k2_rm 1 20) s m args below meth c (inW (ccells g ad w)) (EN below args s g (ccells g ad w) (ccells g ad rr) none) g 1 (ccells g ad r6) 0 0 9 [(0, .ref (ad 0))] [] from ?_)
  cases hf
  exact v_vret hG hr dX8_endSmall_9
def X8_findBest_J88 (b : Bool) (j88_0 : CW) (j88_1 : Int32) : Option ((CW × Int32) ⊕ ((CW))) := ((X7_goOn j88_0 b).bind (fun r92 : CW => (some (.inl (r92, (j88_1 + 1))))))
def X8_findBest_J45 (b : Bool) (j45_0 : CW) (j45_1 : Int32) (j45_2 : Int64) : Option ((CW × Int32) ⊕ ((CW))) := ((X6_allRows (gC_tb b j45_0)).bind (fun r50 : Int32 => ((X7_holdsAll j45_0 b r50).bind (fun r53 : Int32 => (if r53 = 0 then (X8_findBest_J88 b j45_0 j45_1) else (bnd (sC_hasBest j45_0 1) (fun w61 : CW => (bnd (sC_leastValue w61 j45_2) (fun w67 : CW => (bnd (sC_bestNumbers w67 (va_cpy (gC_wnumbers w67) (gC_bestNumbers w67) 0 0 12)) (fun w85 : CW => (X8_findBest_J88 b w85 j45_1))))))))))))
def X8_findBest_L11 (b : Bool) (a1 : Int32) (a2 : Int64) (s11 : CW × Int32) : Option ((CW × Int32) ⊕ ((CW))) := (if a1 ≤ s11.2 then (some (.inr s11.1)) else (if (gC_hasBest s11.1) = 0 then (X8_findBest_J45 b s11.1 s11.2 (a2 + (gC_sum s11.1))) else (if (gC_leastValue s11.1) ≤ (a2 + (gC_sum s11.1)) then (X8_findBest_J88 b s11.1 s11.2) else (X8_findBest_J45 b s11.1 s11.2 (a2 + (gC_sum s11.1))))))
def X8_findBest (w : CW) (b : Bool) (a1 : Int32) (a2 : Int64) : Option (CW) := ((X7_beginAt w b).bind (fun r5 : CW => ((iter (X8_findBest_L11 b a1 a2) 5000 (r5, 0)).bind (fun z11 : (CW) => (some z11)))))
set_option maxRecDepth 100000 in
set_option maxHeartbeats 4000000 in
theorem ct_X8_findBest_w (l : Launch) (g : wG) (ad : Nat → Nat) (w : CW) (a1 : Int32) (a2 : Int64) (rr : CW) (hf : X8_findBest w false a1 a2 = some rr) : MetN l g yX8_findBest cX8_findBest 8 none (k2_rm 3 66) [.ref (ad 0), .ref (ad 1), .int a1, .long a2] (ccells g ad w) (ccells g ad rr) none := by
  refine MetN.of2 [(0, .ref (ad 0)), (1, .ref (ad 1)), (2, .int a1), (3, .long a2)] rfl (by decide +kernel) (Nat.le_of_ble_eq_true rfl) ?_
  intro p e s m args below meth c hG hr
  unfold X8_findBest at hf
  refine v_aload_n hG 0 rfl rfl dX8_findBest_0 ?_
  refine c_g_0_4 hG wk_365 dX8_findBest_1 ?_
  refine v_aload_n hG 1 rfl rfl dX8_findBest_4 ?_
  obtain ⟨r5, hr5, hf⟩ := bd_some hf
  refine v_callV hG (st := []) 67 7 (ct_X7_beginAt_w l g ad w  r5 hr5) iw_X7_beginAt wk_878 rfl rfl ⟨rfl, rfl, Nat.le_of_ble_eq_true rfl, Nat.le_of_ble_eq_true rfl⟩ ⟨Nat.le_of_ble_eq_true rfl, Nat.le_of_ble_eq_true rfl⟩ rfl rfl (Nat.le_of_ble_eq_true rfl) (ccells_fst _ _ _ _) dX8_findBest_5 ?_
  refine (show V p l e (k2_rm 3 66) s m args below meth c (inW (ccells g ad w)) (EN below args s g (ccells g ad w) (ccells g ad rr) none) g 8 (ccells g ad r5) 0 0 8 [(0, .ref (ad 0)), (1, .ref (ad 1)), (2, .int a1), (3, .long a2)] [] from ?_)
  refine v_iconst hG (v := 0) (by decide) dX8_findBest_8 ?_
  refine v_istore hG [(5, _), (0, _), (1, _), (2, _), (3, _)] dX8_findBest_9 (by decide) rfl ?_
  refine v_sub [(0, _), (1, _), (2, _), (3, _), (5, _)] [1, 2, 3, 4, 0] rfl ?_
  obtain ⟨z11, hlz11, hf⟩ := bd_some hf
  refine loop_v (step := X8_findBest_L11 false a1 a2) (fun s11 : CW × Int32 => V p l e (k2_rm 3 66) s m args below meth c (inW (ccells g ad w)) (EN below args s g (ccells g ad w) (ccells g ad rr) none) g 8 (ccells g ad s11.1) 0 0 11 [(0, .ref (ad 0)), (1, .ref (ad 1)), (2, .int a1), (3, .long a2), (5, .int s11.2)] []) (fun z11_q : (CW) => V p l e (k2_rm 3 66) s m args below meth c (inW (ccells g ad w)) (EN below args s g (ccells g ad w) (ccells g ad rr) none) g 8 (ccells g ad z11_q) 0 0 101 [] []) ?_ 5000 (r5, 0) z11 hlz11 ?_
  · intro s11 rL hf hin hout
    unfold X8_findBest_L11 at hf
    have j88 : ∀ (j88_0 : CW) (j88_1 : Int32), X8_findBest_J88 false j88_0 j88_1 = some rL → V p l e (k2_rm 3 66) s m args below meth c (inW (ccells g ad w)) (EN below args s g (ccells g ad w) (ccells g ad rr) none) g 8 (ccells g ad j88_0) 0 0 88 [(0, .ref (ad 0)), (1, .ref (ad 1)), (2, .int a1), (3, .long a2), (5, .int j88_1)] [] := by
      intro j88_0 j88_1 hf
      unfold X8_findBest_J88 at hf
      refine v_aload_n hG 0 rfl rfl dX8_findBest_88 ?_
      refine c_g_0_4 hG wk_365 dX8_findBest_89 ?_
      obtain ⟨r92, hr92, hf⟩ := bd_some hf
      refine v_callV hG (st := []) 67 7 (ct_X7_goOn_w l g ad j88_0  r92 hr92) iw_X7_goOn wk_892 rfl rfl ⟨rfl, rfl, Nat.le_of_ble_eq_true rfl, Nat.le_of_ble_eq_true rfl⟩ ⟨Nat.le_of_ble_eq_true rfl, Nat.le_of_ble_eq_true rfl⟩ rfl rfl (Nat.le_of_ble_eq_true rfl) (ccells_fst _ _ _ _) dX8_findBest_92 ?_
      refine (show V p l e (k2_rm 3 66) s m args below meth c (inW (ccells g ad w)) (EN below args s g (ccells g ad w) (ccells g ad rr) none) g 8 (ccells g ad r92) 0 0 95 [(0, .ref (ad 0)), (1, .ref (ad 1)), (2, .int a1), (3, .long a2), (5, .int j88_1)] [] from ?_)
      refine v_iinc hG 4 (v := j88_1 + 1) [(5, _), (0, _), (1, _), (2, _), (3, _)] dX8_findBest_95 rfl rfl (by decide) rfl ?_
      refine v_goto hG 11 dX8_findBest_98 rfl ?_
      refine v_sub [(0, _), (1, _), (2, _), (3, _), (5, _)] [1, 2, 3, 4, 0] rfl ?_
      exact hin _ (Option.some.inj hf).symm
    have j45 : ∀ (j45_0 : CW) (j45_1 : Int32) (j45_2 : Int64), X8_findBest_J45 false j45_0 j45_1 j45_2 = some rL → V p l e (k2_rm 3 66) s m args below meth c (inW (ccells g ad w)) (EN below args s g (ccells g ad w) (ccells g ad rr) none) g 8 (ccells g ad j45_0) 0 0 45 [(0, .ref (ad 0)), (1, .ref (ad 1)), (2, .int a1), (3, .long a2), (5, .int j45_1), (6, .long j45_2)] [] := by
      intro j45_0 j45_1 j45_2 hf
      unfold X8_findBest_J45 at hf
      refine v_aload_n hG 0 rfl rfl dX8_findBest_45 ?_
      refine c_g_0_4 hG wk_365 dX8_findBest_46 ?_
      refine v_aload_n hG 1 rfl rfl dX8_findBest_49 ?_
      obtain ⟨r50, hr50, hf⟩ := bd_some hf
      refine v_callV hG (st := [.ref (ad 67)]) 1 6 (ct_X6_allRows_w l g ad j45_0  r50 hr50) iw_X6_allRows wk_1039 rfl rfl ⟨rfl, rfl, Nat.le_of_ble_eq_true rfl, Nat.le_of_ble_eq_true rfl⟩ ⟨Nat.le_of_ble_eq_true rfl, Nat.le_of_ble_eq_true rfl⟩ rfl rfl (Nat.le_of_ble_eq_true rfl) (ccells_fst _ _ _ _) dX8_findBest_50 ?_
      refine (show V p l e (k2_rm 3 66) s m args below meth c (inW (ccells g ad w)) (EN below args s g (ccells g ad w) (ccells g ad rr) none) g 8 (ccells g ad j45_0) 0 0 53 [(0, .ref (ad 0)), (1, .ref (ad 1)), (2, .int a1), (3, .long a2), (5, .int j45_1), (6, .long j45_2)] [.int r50, .ref (ad 67)] from ?_)
      obtain ⟨r53, hr53, hf⟩ := bd_some hf
      refine v_callV hG (st := []) 67 7 (ct_X7_holdsAll_w l g ad j45_0 r50 r53 hr53) iw_X7_holdsAll wk_887 rfl rfl ⟨rfl, rfl, Nat.le_of_ble_eq_true rfl, Nat.le_of_ble_eq_true rfl⟩ ⟨Nat.le_of_ble_eq_true rfl, Nat.le_of_ble_eq_true rfl⟩ rfl rfl (Nat.le_of_ble_eq_true rfl) (ccells_fst _ _ _ _) dX8_findBest_53 ?_
      refine (show V p l e (k2_rm 3 66) s m args below meth c (inW (ccells g ad w)) (EN below args s g (ccells g ad w) (ccells g ad rr) none) g 8 (ccells g ad j45_0) 0 0 56 [(0, .ref (ad 0)), (1, .ref (ad 1)), (2, .int a1), (3, .long a2), (5, .int j45_1), (6, .long j45_2)] [.int r53] from ?_)
      refine v_if_eq hG 88 dX8_findBest_56 rfl hf (fun hf => ?_) (fun hf => ?_)
      · refine v_sub [(0, _), (1, _), (2, _), (3, _), (5, _)] [0, 1, 2, 3, 4] rfl ?_
        exact j88 j45_0 j45_1 hf
      · refine v_aload_n hG 0 rfl rfl dX8_findBest_59 ?_
        refine v_iconst hG (v := 1) (by decide) dX8_findBest_60 ?_
        refine c_p_0_12 hG wk_373 dX8_findBest_61 rfl rfl hf (fun w61 hf => ?_)
        refine v_aload_n hG 0 rfl rfl dX8_findBest_64 ?_
        refine v_lload hG 5 rfl dX8_findBest_65 ?_
        refine c_p_0_11 hG wk_372 dX8_findBest_67 hf (fun w67 hf => ?_)
        refine v_aload_n hG 0 rfl rfl dX8_findBest_70 ?_
        refine c_g_0_4 hG wk_365 dX8_findBest_71 ?_
        refine c_g_67_0 hG wk_347 dX8_findBest_74 ?_
        refine v_iconst hG (v := 0) (by decide) dX8_findBest_77 ?_
        refine v_aload_n hG 0 rfl rfl dX8_findBest_78 ?_
        refine c_g_0_10 hG wk_371 dX8_findBest_79 ?_
        refine v_iconst hG (v := 0) (by decide) dX8_findBest_82 ?_
        refine v_bipush hG (v := 12) (by decide) dX8_findBest_83 ?_
        refine v_copyl hG 68 72 (ccells g ad (sC_bestNumbers w67 (va_cpy (gC_wnumbers w67) (gC_bestNumbers w67) 0 0 12))) rfl rfl rfl wk_1040 wk_acn wk_acs wk_aci ⟨Nat.le_of_ble_eq_true rfl, Nat.le_of_ble_eq_true rfl⟩ dX8_findBest_85 ?_
        refine bnd_in (fun w85 : CW => V p l e (k2_rm 3 66) s m args below meth c (inW (ccells g ad w)) (EN below args s g (ccells g ad w) (ccells g ad rr) none) g 8 (ccells g ad w85) 0 0 88 [(0, .ref (ad 0)), (1, .ref (ad 1)), (2, .int a1), (3, .long a2), (5, .int j45_1), (6, .long j45_2)] []) hf (fun w85 hf => ?_)
        refine v_sub [(0, _), (1, _), (2, _), (3, _), (5, _)] [0, 1, 2, 3, 4] rfl ?_
        exact j88 w85 j45_1 hf
    refine v_iload hG 4 rfl dX8_findBest_11 ?_
    refine v_iload_n hG 2 rfl rfl dX8_findBest_13 ?_
    refine v_icmp_ge hG 101 dX8_findBest_14 rfl hf (fun hf => ?_) (fun hf => ?_)
    · refine v_sub [] [] rfl ?_
      exact hout _ (Option.some.inj hf).symm
    · refine v_lload_n hG 3 rfl rfl dX8_findBest_17 ?_
      refine v_aload_n hG 0 rfl rfl dX8_findBest_18 ?_
      refine c_g_0_4 hG wk_365 dX8_findBest_19 ?_
      refine c_g_67_2 hG wk_350 dX8_findBest_22 ?_
      refine v_ladd hG dX8_findBest_25 ?_
      refine v_lstore hG [(6, _), (0, _), (1, _), (2, _), (3, _), (5, _)] dX8_findBest_26 (by decide) rfl ?_
      refine v_aload_n hG 1 rfl rfl dX8_findBest_28 ?_
      refine c_g_0_12 hG wk_373 dX8_findBest_29 ?_
      refine v_if_eq hG 45 dX8_findBest_32 rfl hf (fun hf => ?_) (fun hf => ?_)
      · refine v_sub [(0, _), (1, _), (2, _), (3, _), (5, _), (6, _)] [1, 2, 3, 4, 5, 0] rfl ?_
        exact j45 s11.1 s11.2 (a2 + (gC_sum s11.1)) hf
      · refine v_lload hG 0 rfl dX8_findBest_35 ?_
        refine v_aload_n hG 1 rfl rfl dX8_findBest_37 ?_
        refine c_g_0_11 hG wk_372 dX8_findBest_38 ?_
        refine v_lcmp_ge hG 88 dX8_findBest_41 dX8_findBest_42 rfl hf (fun hf => ?_) (fun hf => ?_)
        · refine v_sub [(0, _), (1, _), (2, _), (3, _), (5, _)] [1, 2, 3, 4, 5] rfl ?_
          exact j88 s11.1 s11.2 hf
        · refine v_sub [(0, _), (1, _), (2, _), (3, _), (5, _), (6, _)] [1, 2, 3, 4, 5, 0] rfl ?_
          exact j45 s11.1 s11.2 (a2 + (gC_sum s11.1)) hf
  · show V p l e (k2_rm 3 66) s m args below meth c (inW (ccells g ad w)) (EN below args s g (ccells g ad w) (ccells g ad rr) none) g 8 (ccells g ad z11) 0 0 101 [] []
    cases hf
    exact v_vret hG hr dX8_findBest_101
set_option maxRecDepth 100000 in
set_option maxHeartbeats 4000000 in
theorem ct_X8_findBest_s (l : Launch) (g : wG) (ad : Nat → Nat) (w : CW) (a1 : Int32) (a2 : Int64) (rr : CW) (hf : X8_findBest w true a1 a2 = some rr) : MetN l g yX8_findBest cX8_findBest 8 none (k2_rm 3 66) [.ref (ad 0), .ref (ad 22), .int a1, .long a2] (ccells g ad w) (ccells g ad rr) none := by
  refine MetN.of2 [(0, .ref (ad 0)), (1, .ref (ad 22)), (2, .int a1), (3, .long a2)] rfl (by decide +kernel) (Nat.le_of_ble_eq_true rfl) ?_
  intro p e s m args below meth c hG hr
  unfold X8_findBest at hf
  refine v_aload_n hG 0 rfl rfl dX8_findBest_0 ?_
  refine c_g_0_4 hG wk_365 dX8_findBest_1 ?_
  refine v_aload_n hG 1 rfl rfl dX8_findBest_4 ?_
  obtain ⟨r5, hr5, hf⟩ := bd_some hf
  refine v_callV hG (st := []) 67 7 (ct_X7_beginAt_s l g ad w  r5 hr5) iw_X7_beginAt wk_878 rfl rfl ⟨rfl, rfl, Nat.le_of_ble_eq_true rfl, Nat.le_of_ble_eq_true rfl⟩ ⟨Nat.le_of_ble_eq_true rfl, Nat.le_of_ble_eq_true rfl⟩ rfl rfl (Nat.le_of_ble_eq_true rfl) (ccells_fst _ _ _ _) dX8_findBest_5 ?_
  refine (show V p l e (k2_rm 3 66) s m args below meth c (inW (ccells g ad w)) (EN below args s g (ccells g ad w) (ccells g ad rr) none) g 8 (ccells g ad r5) 0 0 8 [(0, .ref (ad 0)), (1, .ref (ad 22)), (2, .int a1), (3, .long a2)] [] from ?_)
  refine v_iconst hG (v := 0) (by decide) dX8_findBest_8 ?_
  refine v_istore hG [(5, _), (0, _), (1, _), (2, _), (3, _)] dX8_findBest_9 (by decide) rfl ?_
  refine v_sub [(0, _), (1, _), (2, _), (3, _), (5, _)] [1, 2, 3, 4, 0] rfl ?_
  obtain ⟨z11, hlz11, hf⟩ := bd_some hf
  refine loop_v (step := X8_findBest_L11 true a1 a2) (fun s11 : CW × Int32 => V p l e (k2_rm 3 66) s m args below meth c (inW (ccells g ad w)) (EN below args s g (ccells g ad w) (ccells g ad rr) none) g 8 (ccells g ad s11.1) 0 0 11 [(0, .ref (ad 0)), (1, .ref (ad 22)), (2, .int a1), (3, .long a2), (5, .int s11.2)] []) (fun z11_q : (CW) => V p l e (k2_rm 3 66) s m args below meth c (inW (ccells g ad w)) (EN below args s g (ccells g ad w) (ccells g ad rr) none) g 8 (ccells g ad z11_q) 0 0 101 [] []) ?_ 5000 (r5, 0) z11 hlz11 ?_
  · intro s11 rL hf hin hout
    unfold X8_findBest_L11 at hf
    have j88 : ∀ (j88_0 : CW) (j88_1 : Int32), X8_findBest_J88 true j88_0 j88_1 = some rL → V p l e (k2_rm 3 66) s m args below meth c (inW (ccells g ad w)) (EN below args s g (ccells g ad w) (ccells g ad rr) none) g 8 (ccells g ad j88_0) 0 0 88 [(0, .ref (ad 0)), (1, .ref (ad 22)), (2, .int a1), (3, .long a2), (5, .int j88_1)] [] := by
      intro j88_0 j88_1 hf
      unfold X8_findBest_J88 at hf
      refine v_aload_n hG 0 rfl rfl dX8_findBest_88 ?_
      refine c_g_0_4 hG wk_365 dX8_findBest_89 ?_
      obtain ⟨r92, hr92, hf⟩ := bd_some hf
      refine v_callV hG (st := []) 67 7 (ct_X7_goOn_s l g ad j88_0  r92 hr92) iw_X7_goOn wk_892 rfl rfl ⟨rfl, rfl, Nat.le_of_ble_eq_true rfl, Nat.le_of_ble_eq_true rfl⟩ ⟨Nat.le_of_ble_eq_true rfl, Nat.le_of_ble_eq_true rfl⟩ rfl rfl (Nat.le_of_ble_eq_true rfl) (ccells_fst _ _ _ _) dX8_findBest_92 ?_
      refine (show V p l e (k2_rm 3 66) s m args below meth c (inW (ccells g ad w)) (EN below args s g (ccells g ad w) (ccells g ad rr) none) g 8 (ccells g ad r92) 0 0 95 [(0, .ref (ad 0)), (1, .ref (ad 22)), (2, .int a1), (3, .long a2), (5, .int j88_1)] [] from ?_)
      refine v_iinc hG 4 (v := j88_1 + 1) [(5, _), (0, _), (1, _), (2, _), (3, _)] dX8_findBest_95 rfl rfl (by decide) rfl ?_
      refine v_goto hG 11 dX8_findBest_98 rfl ?_
      refine v_sub [(0, _), (1, _), (2, _), (3, _), (5, _)] [1, 2, 3, 4, 0] rfl ?_
      exact hin _ (Option.some.inj hf).symm
    have j45 : ∀ (j45_0 : CW) (j45_1 : Int32) (j45_2 : Int64), X8_findBest_J45 true j45_0 j45_1 j45_2 = some rL → V p l e (k2_rm 3 66) s m args below meth c (inW (ccells g ad w)) (EN below args s g (ccells g ad w) (ccells g ad rr) none) g 8 (ccells g ad j45_0) 0 0 45 [(0, .ref (ad 0)), (1, .ref (ad 22)), (2, .int a1), (3, .long a2), (5, .int j45_1), (6, .long j45_2)] [] := by
      intro j45_0 j45_1 j45_2 hf
      unfold X8_findBest_J45 at hf
      refine v_aload_n hG 0 rfl rfl dX8_findBest_45 ?_
      refine c_g_0_4 hG wk_365 dX8_findBest_46 ?_
      refine v_aload_n hG 1 rfl rfl dX8_findBest_49 ?_
      obtain ⟨r50, hr50, hf⟩ := bd_some hf
      refine v_callV hG (st := [.ref (ad 67)]) 22 6 (ct_X6_allRows_s l g ad j45_0  r50 hr50) iw_X6_allRows wk_1039 rfl rfl ⟨rfl, rfl, Nat.le_of_ble_eq_true rfl, Nat.le_of_ble_eq_true rfl⟩ ⟨Nat.le_of_ble_eq_true rfl, Nat.le_of_ble_eq_true rfl⟩ rfl rfl (Nat.le_of_ble_eq_true rfl) (ccells_fst _ _ _ _) dX8_findBest_50 ?_
      refine (show V p l e (k2_rm 3 66) s m args below meth c (inW (ccells g ad w)) (EN below args s g (ccells g ad w) (ccells g ad rr) none) g 8 (ccells g ad j45_0) 0 0 53 [(0, .ref (ad 0)), (1, .ref (ad 22)), (2, .int a1), (3, .long a2), (5, .int j45_1), (6, .long j45_2)] [.int r50, .ref (ad 67)] from ?_)
      obtain ⟨r53, hr53, hf⟩ := bd_some hf
      refine v_callV hG (st := []) 67 7 (ct_X7_holdsAll_s l g ad j45_0 r50 r53 hr53) iw_X7_holdsAll wk_887 rfl rfl ⟨rfl, rfl, Nat.le_of_ble_eq_true rfl, Nat.le_of_ble_eq_true rfl⟩ ⟨Nat.le_of_ble_eq_true rfl, Nat.le_of_ble_eq_true rfl⟩ rfl rfl (Nat.le_of_ble_eq_true rfl) (ccells_fst _ _ _ _) dX8_findBest_53 ?_
      refine (show V p l e (k2_rm 3 66) s m args below meth c (inW (ccells g ad w)) (EN below args s g (ccells g ad w) (ccells g ad rr) none) g 8 (ccells g ad j45_0) 0 0 56 [(0, .ref (ad 0)), (1, .ref (ad 22)), (2, .int a1), (3, .long a2), (5, .int j45_1), (6, .long j45_2)] [.int r53] from ?_)
      refine v_if_eq hG 88 dX8_findBest_56 rfl hf (fun hf => ?_) (fun hf => ?_)
      · refine v_sub [(0, _), (1, _), (2, _), (3, _), (5, _)] [0, 1, 2, 3, 4] rfl ?_
        exact j88 j45_0 j45_1 hf
      · refine v_aload_n hG 0 rfl rfl dX8_findBest_59 ?_
        refine v_iconst hG (v := 1) (by decide) dX8_findBest_60 ?_
        refine c_p_0_12 hG wk_373 dX8_findBest_61 rfl rfl hf (fun w61 hf => ?_)
        refine v_aload_n hG 0 rfl rfl dX8_findBest_64 ?_
        refine v_lload hG 5 rfl dX8_findBest_65 ?_
        refine c_p_0_11 hG wk_372 dX8_findBest_67 hf (fun w67 hf => ?_)
        refine v_aload_n hG 0 rfl rfl dX8_findBest_70 ?_
        refine c_g_0_4 hG wk_365 dX8_findBest_71 ?_
        refine c_g_67_0 hG wk_347 dX8_findBest_74 ?_
        refine v_iconst hG (v := 0) (by decide) dX8_findBest_77 ?_
        refine v_aload_n hG 0 rfl rfl dX8_findBest_78 ?_
        refine c_g_0_10 hG wk_371 dX8_findBest_79 ?_
        refine v_iconst hG (v := 0) (by decide) dX8_findBest_82 ?_
        refine v_bipush hG (v := 12) (by decide) dX8_findBest_83 ?_
        refine v_copyl hG 68 72 (ccells g ad (sC_bestNumbers w67 (va_cpy (gC_wnumbers w67) (gC_bestNumbers w67) 0 0 12))) rfl rfl rfl wk_1040 wk_acn wk_acs wk_aci ⟨Nat.le_of_ble_eq_true rfl, Nat.le_of_ble_eq_true rfl⟩ dX8_findBest_85 ?_
        refine bnd_in (fun w85 : CW => V p l e (k2_rm 3 66) s m args below meth c (inW (ccells g ad w)) (EN below args s g (ccells g ad w) (ccells g ad rr) none) g 8 (ccells g ad w85) 0 0 88 [(0, .ref (ad 0)), (1, .ref (ad 22)), (2, .int a1), (3, .long a2), (5, .int j45_1), (6, .long j45_2)] []) hf (fun w85 hf => ?_)
        refine v_sub [(0, _), (1, _), (2, _), (3, _), (5, _)] [0, 1, 2, 3, 4] rfl ?_
        exact j88 w85 j45_1 hf
    refine v_iload hG 4 rfl dX8_findBest_11 ?_
    refine v_iload_n hG 2 rfl rfl dX8_findBest_13 ?_
    refine v_icmp_ge hG 101 dX8_findBest_14 rfl hf (fun hf => ?_) (fun hf => ?_)
    · refine v_sub [] [] rfl ?_
      exact hout _ (Option.some.inj hf).symm
    · refine v_lload_n hG 3 rfl rfl dX8_findBest_17 ?_
      refine v_aload_n hG 0 rfl rfl dX8_findBest_18 ?_
      refine c_g_0_4 hG wk_365 dX8_findBest_19 ?_
      refine c_g_67_2 hG wk_350 dX8_findBest_22 ?_
      refine v_ladd hG dX8_findBest_25 ?_
      refine v_lstore hG [(6, _), (0, _), (1, _), (2, _), (3, _), (5, _)] dX8_findBest_26 (by decide) rfl ?_
      refine v_aload_n hG 1 rfl rfl dX8_findBest_28 ?_
      refine c_g_0_12 hG wk_373 dX8_findBest_29 ?_
      refine v_if_eq hG 45 dX8_findBest_32 rfl hf (fun hf => ?_) (fun hf => ?_)
      · refine v_sub [(0, _), (1, _), (2, _), (3, _), (5, _), (6, _)] [1, 2, 3, 4, 5, 0] rfl ?_
        exact j45 s11.1 s11.2 (a2 + (gC_sum s11.1)) hf
      · refine v_lload hG 0 rfl dX8_findBest_35 ?_
        refine v_aload_n hG 1 rfl rfl dX8_findBest_37 ?_
        refine c_g_0_11 hG wk_372 dX8_findBest_38 ?_
        refine v_lcmp_ge hG 88 dX8_findBest_41 dX8_findBest_42 rfl hf (fun hf => ?_) (fun hf => ?_)
        · refine v_sub [(0, _), (1, _), (2, _), (3, _), (5, _)] [1, 2, 3, 4, 5] rfl ?_
          exact j88 s11.1 s11.2 hf
        · refine v_sub [(0, _), (1, _), (2, _), (3, _), (5, _), (6, _)] [1, 2, 3, 4, 5, 0] rfl ?_
          exact j45 s11.1 s11.2 (a2 + (gC_sum s11.1)) hf
  · show V p l e (k2_rm 3 66) s m args below meth c (inW (ccells g ad w)) (EN below args s g (ccells g ad w) (ccells g ad rr) none) g 8 (ccells g ad z11) 0 0 101 [] []
    cases hf
    exact v_vret hG hr dX8_findBest_101
def X8_clear (w : CW) : Option (Int32 × CW) := ((X8_endSmall w).bind (fun r1 : CW => ((X6_makeEmpty r1).bind (fun r16 : CW => (some ((gT_columns (gC_whole r1)), r16))))))
set_option maxRecDepth 100000 in
set_option maxHeartbeats 4000000 in
theorem ct_X8_clear (l : Launch) (g : wG) (ad : Nat → Nat) (w : CW)  (rr : Int32 × CW) (hf : X8_clear w = some rr) : MetN l g yX8_clear cX8_clear 2 (some .int) (k2_rm 2 40) [.ref (ad 0)] (ccells g ad w) (ccells g ad rr.2) (some (.int rr.1)) := by
  refine MetN.of2 [(0, .ref (ad 0))] rfl (by decide +kernel) (Nat.le_of_ble_eq_true rfl) ?_
  intro p e s m args below meth c hG hr
  unfold X8_clear at hf
  refine v_aload_n hG 0 rfl rfl dX8_clear_0 ?_
  obtain ⟨r1, hr1, hf⟩ := bd_some hf
  refine v_callV hG (st := []) 0 8 (ct_X8_endSmall l g ad w  r1 hr1) iw_X8_endSmall wk_405 rfl rfl ⟨rfl, rfl, Nat.le_of_ble_eq_true rfl, Nat.le_of_ble_eq_true rfl⟩ ⟨Nat.le_of_ble_eq_true rfl, Nat.le_of_ble_eq_true rfl⟩ rfl rfl (Nat.le_of_ble_eq_true rfl) (ccells_fst _ _ _ _) dX8_clear_1 ?_
  refine (show V p l e (k2_rm 2 40) s m args below meth c (inW (ccells g ad w)) (EN below args s g (ccells g ad w) (ccells g ad rr.2) (some (.int rr.1))) g 2 (ccells g ad r1) 0 0 4 [(0, .ref (ad 0))] [] from ?_)
  refine v_aload_n hG 0 rfl rfl dX8_clear_4 ?_
  refine c_g_0_0 hG wk_361 dX8_clear_5 ?_
  refine c_g_1_7 hG wk_155 dX8_clear_8 ?_
  refine v_istore_n hG [(1, _), (0, _)] dX8_clear_11 rfl (by decide) rfl ?_
  refine v_aload_n hG 1 rfl rfl dX8_clear_12 ?_
  refine c_g_0_0 hG wk_361 dX8_clear_13 ?_
  obtain ⟨r16, hr16, hf⟩ := bd_some hf
  refine v_callV hG (st := []) 1 6 (ct_X6_makeEmpty l g ad r1  r16 hr16) iw_X6_makeEmpty wk_413 rfl rfl ⟨rfl, rfl, Nat.le_of_ble_eq_true rfl, Nat.le_of_ble_eq_true rfl⟩ ⟨Nat.le_of_ble_eq_true rfl, Nat.le_of_ble_eq_true rfl⟩ rfl rfl (Nat.le_of_ble_eq_true rfl) (ccells_fst _ _ _ _) dX8_clear_16 ?_
  refine (show V p l e (k2_rm 2 40) s m args below meth c (inW (ccells g ad w)) (EN below args s g (ccells g ad w) (ccells g ad rr.2) (some (.int rr.1))) g 2 (ccells g ad r16) 0 0 19 [(1, .int (gT_columns (gC_whole r1))), (0, .ref (ad 0))] [] from ?_)
  refine v_iload_n hG 0 rfl rfl dX8_clear_19 ?_
  cases hf
  exact v_iret hG hr dX8_clear_20
