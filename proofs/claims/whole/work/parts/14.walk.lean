def X7_step_L33 (b : Bool) (a0 : Int32) (a1 : Int64) (s33 : CW × Int32) : Option ((CW × Int32) ⊕ ((CW))) := (if gC_wtab s33.1 = b then (if (gT_rows (gC_tb b s33.1)) ≤ s33.2 then (some (.inr s33.1)) else (if inR s33.2 12 = true then (if gC_wtab s33.1 = b then (if inR s33.2 12 = true then (if inR a0 12 = true then (if inR s33.2 12 = true then (bnd (sC_rowSums s33.1 (vp_updL (gC_rowSums s33.1) s33.2.toNatClampNeg (((gC_rowSums s33.1) s33.2.toNatClampNeg) + (a1 * ((gT_a (gC_tb b s33.1)) s33.2.toNatClampNeg a0.toNatClampNeg))))) (fun w68 : CW => (some (.inl (w68, (s33.2 + 1)))))) else none) else none) else none) else none) else none)) else none)
def X7_step (w : CW) (b : Bool) (a0 : Int32) (a1 : Int64) : Option (CW) := (if inR a0 12 = true then (if inR a0 12 = true then (bnd (sC_wnumbers w (vp_updL (gC_wnumbers w) a0.toNatClampNeg (((gC_wnumbers w) a0.toNatClampNeg) + a1))) (fun w9 : CW => (if gC_wtab w9 = b then (if inR a0 12 = true then (bnd (sC_sum w9 ((gC_sum w9) + (a1 * ((gT_cost (gC_tb b w9)) a0.toNatClampNeg)))) (fun w27 : CW => ((iter (X7_step_L33 b a0 a1) 5000 (w27, 0)).bind (fun z33 : (CW) => (some z33))))) else none) else none))) else none) else none)
set_option maxRecDepth 100000 in
set_option maxHeartbeats 4000000 in
theorem ct_X7_step_w (l : Launch) (g : wG) (ad : Nat → Nat) (w : CW) (a0 : Int32) (a1 : Int64) (rr : CW) (hf : X7_step w false a0 a1 = some rr) : MetN l g yX7_step cX7_step 5 none (k2_rm 0 0) [.ref (ad 67), .int a0, .long a1] (ccells g ad w) (ccells g ad rr) none := by
  refine MetN.of2 [(0, .ref (ad 67)), (1, .int a0), (2, .long a1)] rfl (by decide +kernel) (Nat.le_of_ble_eq_true rfl) ?_
  intro p e s m args below meth c hG hr
  unfold X7_step at hf
  refine v_aload_n hG 0 rfl rfl dX7_step_0 ?_
  refine c_g_67_0 hG wk_346 dX7_step_1 ?_
  refine v_iload_n hG 1 rfl rfl dX7_step_4 ?_
  refine v_dup2 hG rfl rfl dX7_step_5 ?_
  refine c_l_68 hG dX7_step_6 hf (fun hf => ?_)
  refine v_lload_n hG 2 rfl rfl dX7_step_7 ?_
  refine v_ladd hG dX7_step_8 ?_
  refine c_s_68 hG dX7_step_9 hf (fun w9 hf => ?_)
  refine v_aload_n hG 0 rfl rfl dX7_step_10 ?_
  refine v_dup hG rfl dX7_step_11 ?_
  refine c_g_67_2 hG wk_349 dX7_step_12 ?_
  refine v_lload_n hG 2 rfl rfl dX7_step_15 ?_
  refine v_aload_n hG 0 rfl rfl dX7_step_16 ?_
  refine c_g_67_3_false hG wk_351 dX7_step_17 hf (fun hf => ?_)
  refine c_g_1_2 hG wk_132 dX7_step_20 ?_
  refine v_iload_n hG 1 rfl rfl dX7_step_23 ?_
  refine c_l_4 hG dX7_step_24 hf (fun hf => ?_)
  refine v_lmul hG dX7_step_25 ?_
  refine v_ladd hG dX7_step_26 ?_
  refine c_p_67_2 hG wk_349 dX7_step_27 hf (fun w27 hf => ?_)
  refine v_iconst hG (v := 0) (by decide) dX7_step_30 ?_
  refine v_istore hG [(4, _), (0, _), (1, _), (2, _)] dX7_step_31 (by decide) rfl ?_
  refine v_sub [(0, _), (1, _), (2, _), (4, _)] [1, 2, 3, 0] rfl ?_
  obtain ⟨z33, hlz33, hf⟩ := bd_some hf
  refine loop_v (step := X7_step_L33 false a0 a1) (fun s33 : CW × Int32 => V p l e (k2_rm 0 0) s m args below meth c (inW (ccells g ad w)) (EN below args s g (ccells g ad w) (ccells g ad rr) none) g 5 (ccells g ad s33.1) 0 0 33 [(0, .ref (ad 67)), (1, .int a0), (2, .long a1), (4, .int s33.2)] []) (fun z33_q : (CW) => V p l e (k2_rm 0 0) s m args below meth c (inW (ccells g ad w)) (EN below args s g (ccells g ad w) (ccells g ad rr) none) g 5 (ccells g ad z33_q) 0 0 75 [] []) ?_ 5000 (w27, 0) z33 hlz33 ?_
  · intro s33 rL hf hin hout
    unfold X7_step_L33 at hf
    refine v_iload hG 3 rfl dX7_step_33 ?_
    refine v_aload_n hG 0 rfl rfl dX7_step_35 ?_
    refine c_g_67_3_false hG wk_351 dX7_step_36 hf (fun hf => ?_)
    refine c_g_1_8 hG wk_168 dX7_step_39 ?_
    refine v_icmp_ge hG 75 dX7_step_42 rfl hf (fun hf => ?_) (fun hf => ?_)
    · refine v_sub [] [] rfl ?_
      exact hout _ (Option.some.inj hf).symm
    · refine v_aload_n hG 0 rfl rfl dX7_step_45 ?_
      refine c_g_67_1 hG wk_348 dX7_step_46 ?_
      refine v_iload hG 3 rfl dX7_step_49 ?_
      refine v_dup2 hG rfl rfl dX7_step_51 ?_
      refine c_l_69 hG dX7_step_52 hf (fun hf => ?_)
      refine v_lload_n hG 2 rfl rfl dX7_step_53 ?_
      refine v_aload_n hG 0 rfl rfl dX7_step_54 ?_
      refine c_g_67_3_false hG wk_351 dX7_step_55 hf (fun hf => ?_)
      refine c_g_1_6 hG wk_153 dX7_step_58 ?_
      refine v_iload hG 3 rfl dX7_step_61 ?_
      refine c_o_8 hG dX7_step_63 hf (fun hi63 hf => ?_)
      refine v_iload_n hG 1 rfl rfl dX7_step_64 ?_
      refine c_rl_8 hG hi63 dX7_step_65 hf (fun hf => ?_)
      refine v_lmul hG dX7_step_66 ?_
      refine v_ladd hG dX7_step_67 ?_
      refine c_s_69 hG dX7_step_68 hf (fun w68 hf => ?_)
      refine v_iinc hG 3 (v := s33.2 + 1) [(4, _), (0, _), (1, _), (2, _)] dX7_step_69 rfl rfl (by decide) rfl ?_
      refine v_goto hG 33 dX7_step_72 rfl ?_
      refine v_sub [(0, _), (1, _), (2, _), (4, _)] [1, 2, 3, 0] rfl ?_
      exact hin _ (Option.some.inj hf).symm
  · show V p l e (k2_rm 0 0) s m args below meth c (inW (ccells g ad w)) (EN below args s g (ccells g ad w) (ccells g ad rr) none) g 5 (ccells g ad z33) 0 0 75 [] []
    cases hf
    exact v_vret hG hr dX7_step_75
set_option maxRecDepth 100000 in
set_option maxHeartbeats 4000000 in
theorem ct_X7_step_s (l : Launch) (g : wG) (ad : Nat → Nat) (w : CW) (a0 : Int32) (a1 : Int64) (rr : CW) (hf : X7_step w true a0 a1 = some rr) : MetN l g yX7_step cX7_step 5 none (k2_rm 0 0) [.ref (ad 67), .int a0, .long a1] (ccells g ad w) (ccells g ad rr) none := by
  refine MetN.of2 [(0, .ref (ad 67)), (1, .int a0), (2, .long a1)] rfl (by decide +kernel) (Nat.le_of_ble_eq_true rfl) ?_
  intro p e s m args below meth c hG hr
  unfold X7_step at hf
  refine v_aload_n hG 0 rfl rfl dX7_step_0 ?_
  refine c_g_67_0 hG wk_346 dX7_step_1 ?_
  refine v_iload_n hG 1 rfl rfl dX7_step_4 ?_
  refine v_dup2 hG rfl rfl dX7_step_5 ?_
  refine c_l_68 hG dX7_step_6 hf (fun hf => ?_)
  refine v_lload_n hG 2 rfl rfl dX7_step_7 ?_
  refine v_ladd hG dX7_step_8 ?_
  refine c_s_68 hG dX7_step_9 hf (fun w9 hf => ?_)
  refine v_aload_n hG 0 rfl rfl dX7_step_10 ?_
  refine v_dup hG rfl dX7_step_11 ?_
  refine c_g_67_2 hG wk_349 dX7_step_12 ?_
  refine v_lload_n hG 2 rfl rfl dX7_step_15 ?_
  refine v_aload_n hG 0 rfl rfl dX7_step_16 ?_
  refine c_g_67_3_true hG wk_351 dX7_step_17 hf (fun hf => ?_)
  refine c_g_22_2 hG wk_132 dX7_step_20 ?_
  refine v_iload_n hG 1 rfl rfl dX7_step_23 ?_
  refine c_l_25 hG dX7_step_24 hf (fun hf => ?_)
  refine v_lmul hG dX7_step_25 ?_
  refine v_ladd hG dX7_step_26 ?_
  refine c_p_67_2 hG wk_349 dX7_step_27 hf (fun w27 hf => ?_)
  refine v_iconst hG (v := 0) (by decide) dX7_step_30 ?_
  refine v_istore hG [(4, _), (0, _), (1, _), (2, _)] dX7_step_31 (by decide) rfl ?_
  refine v_sub [(0, _), (1, _), (2, _), (4, _)] [1, 2, 3, 0] rfl ?_
  obtain ⟨z33, hlz33, hf⟩ := bd_some hf
  refine loop_v (step := X7_step_L33 true a0 a1) (fun s33 : CW × Int32 => V p l e (k2_rm 0 0) s m args below meth c (inW (ccells g ad w)) (EN below args s g (ccells g ad w) (ccells g ad rr) none) g 5 (ccells g ad s33.1) 0 0 33 [(0, .ref (ad 67)), (1, .int a0), (2, .long a1), (4, .int s33.2)] []) (fun z33_q : (CW) => V p l e (k2_rm 0 0) s m args below meth c (inW (ccells g ad w)) (EN below args s g (ccells g ad w) (ccells g ad rr) none) g 5 (ccells g ad z33_q) 0 0 75 [] []) ?_ 5000 (w27, 0) z33 hlz33 ?_
  · intro s33 rL hf hin hout
    unfold X7_step_L33 at hf
    refine v_iload hG 3 rfl dX7_step_33 ?_
    refine v_aload_n hG 0 rfl rfl dX7_step_35 ?_
    refine c_g_67_3_true hG wk_351 dX7_step_36 hf (fun hf => ?_)
    refine c_g_22_8 hG wk_168 dX7_step_39 ?_
    refine v_icmp_ge hG 75 dX7_step_42 rfl hf (fun hf => ?_) (fun hf => ?_)
    · refine v_sub [] [] rfl ?_
      exact hout _ (Option.some.inj hf).symm
    · refine v_aload_n hG 0 rfl rfl dX7_step_45 ?_
      refine c_g_67_1 hG wk_348 dX7_step_46 ?_
      refine v_iload hG 3 rfl dX7_step_49 ?_
      refine v_dup2 hG rfl rfl dX7_step_51 ?_
      refine c_l_69 hG dX7_step_52 hf (fun hf => ?_)
      refine v_lload_n hG 2 rfl rfl dX7_step_53 ?_
      refine v_aload_n hG 0 rfl rfl dX7_step_54 ?_
      refine c_g_67_3_true hG wk_351 dX7_step_55 hf (fun hf => ?_)
      refine c_g_22_6 hG wk_153 dX7_step_58 ?_
      refine v_iload hG 3 rfl dX7_step_61 ?_
      refine c_o_29 hG dX7_step_63 hf (fun hi63 hf => ?_)
      refine v_iload_n hG 1 rfl rfl dX7_step_64 ?_
      refine c_rl_29 hG hi63 dX7_step_65 hf (fun hf => ?_)
      refine v_lmul hG dX7_step_66 ?_
      refine v_ladd hG dX7_step_67 ?_
      refine c_s_69 hG dX7_step_68 hf (fun w68 hf => ?_)
      refine v_iinc hG 3 (v := s33.2 + 1) [(4, _), (0, _), (1, _), (2, _)] dX7_step_69 rfl rfl (by decide) rfl ?_
      refine v_goto hG 33 dX7_step_72 rfl ?_
      refine v_sub [(0, _), (1, _), (2, _), (4, _)] [1, 2, 3, 0] rfl ?_
      exact hin _ (Option.some.inj hf).symm
  · show V p l e (k2_rm 0 0) s m args below meth c (inW (ccells g ad w)) (EN below args s g (ccells g ad w) (ccells g ad rr) none) g 5 (ccells g ad z33) 0 0 75 [] []
    cases hf
    exact v_vret hG hr dX7_step_75
def X7_beginAt_L12  (s12 : CW × Int32) : Option ((CW × Int32) ⊕ ((CW))) := (if 12 ≤ s12.2 then (some (.inr s12.1)) else (if inR s12.2 12 = true then (bnd (sC_wnumbers s12.1 (vp_updL (gC_wnumbers s12.1) s12.2.toNatClampNeg 0)) (fun w24 : CW => (if inR s12.2 12 = true then (bnd (sC_rowSums w24 (vp_updL (gC_rowSums w24) s12.2.toNatClampNeg 0)) (fun w31 : CW => (some (.inl (w31, (s12.2 + 1)))))) else none))) else none))
def X7_beginAt_J76  (j76_0 : CW) (j76_1 : Int32) : Option ((CW × Int32) ⊕ ((CW))) := (some (.inl (j76_0, (j76_1 + 1))))
def X7_beginAt_L40 (b : Bool) (s40 : CW × Int32) : Option ((CW × Int32) ⊕ ((CW))) := (if gC_wtab s40.1 = b then (if (gT_columns (gC_tb b s40.1)) ≤ s40.2 then (some (.inr s40.1)) else (if gC_wtab s40.1 = b then ((X6_isThere (gC_tb b s40.1) s40.2).bind (fun r56 : Int32 => (if r56 = 0 then (X7_beginAt_J76 s40.1 s40.2) else (if gC_wtab s40.1 = b then (if inR s40.2 12 = true then ((X7_step s40.1 b s40.2 ((gT_low (gC_tb b s40.1)) s40.2.toNatClampNeg)).bind (fun r73 : CW => (X7_beginAt_J76 r73 s40.2))) else none) else none)))) else none)) else none)
def X7_beginAt (w : CW) (b : Bool) : Option (CW) := (bnd (sC_wtab w b) (fun w2 : CW => (bnd (sC_sum w2 0) (fun w7 : CW => ((iter (X7_beginAt_L12) 5000 (w7, 0)).bind (fun z12 : (CW) => ((iter (X7_beginAt_L40 b) 5000 (z12, 0)).bind (fun z40 : (CW) => (some z40)))))))))
set_option maxRecDepth 100000 in
set_option maxHeartbeats 4000000 in
theorem ct_X7_beginAt_w (l : Launch) (g : wG) (ad : Nat → Nat) (w : CW)  (rr : CW) (hf : X7_beginAt w false = some rr) : MetN l g yX7_beginAt cX7_beginAt 3 none (k2_rm 1 24) [.ref (ad 67), .ref (ad 1)] (ccells g ad w) (ccells g ad rr) none := by
  refine MetN.of2 [(0, .ref (ad 67)), (1, .ref (ad 1))] rfl (by decide +kernel) (Nat.le_of_ble_eq_true rfl) ?_
  intro p e s m args below meth c hG hr
  unfold X7_beginAt at hf
  refine v_aload_n hG 0 rfl rfl dX7_beginAt_0 ?_
  refine v_aload_n hG 1 rfl rfl dX7_beginAt_1 ?_
  refine c_p_67_3_false hG wk_351 dX7_beginAt_2 hf (fun w2 hf => ?_)
  refine v_aload_n hG 0 rfl rfl dX7_beginAt_5 ?_
  refine v_lconst hG (v := 0) (by decide) dX7_beginAt_6 ?_
  refine c_p_67_2 hG wk_349 dX7_beginAt_7 hf (fun w7 hf => ?_)
  refine v_iconst hG (v := 0) (by decide) dX7_beginAt_10 ?_
  refine v_istore_n hG [(2, _), (0, _), (1, _)] dX7_beginAt_11 rfl (by decide) rfl ?_
  refine v_sub [(0, _), (2, _)] [1, 0] rfl ?_
  obtain ⟨z12, hlz12, hf⟩ := bd_some hf
  refine loop_v (step := X7_beginAt_L12) (fun s12 : CW × Int32 => V p l e (k2_rm 1 24) s m args below meth c (inW (ccells g ad w)) (EN below args s g (ccells g ad w) (ccells g ad rr) none) g 3 (ccells g ad s12.1) 0 0 12 [(0, .ref (ad 67)), (2, .int s12.2)] []) (fun z12_q : (CW) => V p l e (k2_rm 1 24) s m args below meth c (inW (ccells g ad w)) (EN below args s g (ccells g ad w) (ccells g ad rr) none) g 3 (ccells g ad z12_q) 0 0 38 [(0, .ref (ad 67))] []) ?_ 5000 (w7, 0) z12 hlz12 ?_
  · intro s12 rL hf hin hout
    unfold X7_beginAt_L12 at hf
    refine v_iload_n hG 1 rfl rfl dX7_beginAt_12 ?_
    refine v_bipush hG (v := 12) (by decide) dX7_beginAt_13 ?_
    refine v_icmp_ge hG 38 dX7_beginAt_15 rfl hf (fun hf => ?_) (fun hf => ?_)
    · refine v_sub [(0, _)] [0] rfl ?_
      exact hout _ (Option.some.inj hf).symm
    · refine v_aload_n hG 0 rfl rfl dX7_beginAt_18 ?_
      refine c_g_67_0 hG wk_346 dX7_beginAt_19 ?_
      refine v_iload_n hG 1 rfl rfl dX7_beginAt_22 ?_
      refine v_lconst hG (v := 0) (by decide) dX7_beginAt_23 ?_
      refine c_s_68 hG dX7_beginAt_24 hf (fun w24 hf => ?_)
      refine v_aload_n hG 0 rfl rfl dX7_beginAt_25 ?_
      refine c_g_67_1 hG wk_348 dX7_beginAt_26 ?_
      refine v_iload_n hG 1 rfl rfl dX7_beginAt_29 ?_
      refine v_lconst hG (v := 0) (by decide) dX7_beginAt_30 ?_
      refine c_s_69 hG dX7_beginAt_31 hf (fun w31 hf => ?_)
      refine v_iinc hG 1 (v := s12.2 + 1) [(2, _), (0, _)] dX7_beginAt_32 rfl rfl (by decide) rfl ?_
      refine v_goto hG 12 dX7_beginAt_35 rfl ?_
      refine v_sub [(0, _), (2, _)] [1, 0] rfl ?_
      exact hin _ (Option.some.inj hf).symm
  · show V p l e (k2_rm 1 24) s m args below meth c (inW (ccells g ad w)) (EN below args s g (ccells g ad w) (ccells g ad rr) none) g 3 (ccells g ad z12) 0 0 38 [(0, .ref (ad 67))] []
    refine v_iconst hG (v := 0) (by decide) dX7_beginAt_38 ?_
    refine v_istore_n hG [(2, _), (0, _)] dX7_beginAt_39 rfl (by decide) rfl ?_
    refine v_sub [(0, _), (2, _)] [1, 0] rfl ?_
    obtain ⟨z40, hlz40, hf⟩ := bd_some hf
    refine loop_v (step := X7_beginAt_L40 false) (fun s40 : CW × Int32 => V p l e (k2_rm 1 24) s m args below meth c (inW (ccells g ad w)) (EN below args s g (ccells g ad w) (ccells g ad rr) none) g 3 (ccells g ad s40.1) 0 0 40 [(0, .ref (ad 67)), (2, .int s40.2)] []) (fun z40_q : (CW) => V p l e (k2_rm 1 24) s m args below meth c (inW (ccells g ad w)) (EN below args s g (ccells g ad w) (ccells g ad rr) none) g 3 (ccells g ad z40_q) 0 0 82 [] []) ?_ 5000 (z12, 0) z40 hlz40 ?_
    · intro s40 rL hf hin hout
      unfold X7_beginAt_L40 at hf
      have j76 : ∀ (j76_0 : CW) (j76_1 : Int32), X7_beginAt_J76 j76_0 j76_1 = some rL → V p l e (k2_rm 1 24) s m args below meth c (inW (ccells g ad w)) (EN below args s g (ccells g ad w) (ccells g ad rr) none) g 3 (ccells g ad j76_0) 0 0 76 [(0, .ref (ad 67)), (2, .int j76_1)] [] := by
        intro j76_0 j76_1 hf
        unfold X7_beginAt_J76 at hf
        refine v_iinc hG 1 (v := j76_1 + 1) [(2, _), (0, _)] dX7_beginAt_76 rfl rfl (by decide) rfl ?_
        refine v_goto hG 40 dX7_beginAt_79 rfl ?_
        refine v_sub [(0, _), (2, _)] [1, 0] rfl ?_
        exact hin _ (Option.some.inj hf).symm
      refine v_iload_n hG 1 rfl rfl dX7_beginAt_40 ?_
      refine v_aload_n hG 0 rfl rfl dX7_beginAt_41 ?_
      refine c_g_67_3_false hG wk_351 dX7_beginAt_42 hf (fun hf => ?_)
      refine c_g_1_7 hG wk_158 dX7_beginAt_45 ?_
      refine v_icmp_ge hG 82 dX7_beginAt_48 rfl hf (fun hf => ?_) (fun hf => ?_)
      · refine v_sub [] [] rfl ?_
        exact hout _ (Option.some.inj hf).symm
      · refine v_aload_n hG 0 rfl rfl dX7_beginAt_51 ?_
        refine c_g_67_3_false hG wk_351 dX7_beginAt_52 hf (fun hf => ?_)
        refine v_iload_n hG 1 rfl rfl dX7_beginAt_55 ?_
        obtain ⟨r56, hr56, hf⟩ := bd_some hf
        refine v_callV hG (st := []) 1 6 (ct_X6_isThere_w l g ad s40.1 s40.2 r56 hr56) iw_X6_isThere wk_882 rfl rfl ⟨rfl, rfl, Nat.le_of_ble_eq_true rfl, Nat.le_of_ble_eq_true rfl⟩ ⟨Nat.le_of_ble_eq_true rfl, Nat.le_of_ble_eq_true rfl⟩ rfl rfl (Nat.le_of_ble_eq_true rfl) (ccells_fst _ _ _ _) dX7_beginAt_56 ?_
        refine (show V p l e (k2_rm 1 24) s m args below meth c (inW (ccells g ad w)) (EN below args s g (ccells g ad w) (ccells g ad rr) none) g 3 (ccells g ad s40.1) 0 0 59 [(0, .ref (ad 67)), (2, .int s40.2)] [.int r56] from ?_)
        refine v_if_eq hG 76 dX7_beginAt_59 rfl hf (fun hf => ?_) (fun hf => ?_)
        · exact j76 s40.1 s40.2 hf
        · refine v_aload_n hG 0 rfl rfl dX7_beginAt_62 ?_
          refine v_iload_n hG 1 rfl rfl dX7_beginAt_63 ?_
          refine v_aload_n hG 0 rfl rfl dX7_beginAt_64 ?_
          refine c_g_67_3_false hG wk_351 dX7_beginAt_65 hf (fun hf => ?_)
          refine c_g_1_0 hG wk_117 dX7_beginAt_68 ?_
          refine v_iload_n hG 1 rfl rfl dX7_beginAt_71 ?_
          refine c_l_2 hG dX7_beginAt_72 hf (fun hf => ?_)
          obtain ⟨r73, hr73, hf⟩ := bd_some hf
          refine v_callV hG (st := []) 67 7 (ct_X7_step_w l g ad s40.1 s40.2 ((gT_low (gC_whole s40.1)) s40.2.toNatClampNeg) r73 hr73) iw_X7_step wk_883 rfl rfl ⟨rfl, rfl, Nat.le_of_ble_eq_true rfl, Nat.le_of_ble_eq_true rfl⟩ ⟨Nat.le_of_ble_eq_true rfl, Nat.le_of_ble_eq_true rfl⟩ rfl rfl (Nat.le_of_ble_eq_true rfl) (ccells_fst _ _ _ _) dX7_beginAt_73 ?_
          refine (show V p l e (k2_rm 1 24) s m args below meth c (inW (ccells g ad w)) (EN below args s g (ccells g ad w) (ccells g ad rr) none) g 3 (ccells g ad r73) 0 0 76 [(0, .ref (ad 67)), (2, .int s40.2)] [] from ?_)
          exact j76 r73 s40.2 hf
    · show V p l e (k2_rm 1 24) s m args below meth c (inW (ccells g ad w)) (EN below args s g (ccells g ad w) (ccells g ad rr) none) g 3 (ccells g ad z40) 0 0 82 [] []
      cases hf
      exact v_vret hG hr dX7_beginAt_82
set_option maxRecDepth 100000 in
set_option maxHeartbeats 4000000 in
theorem ct_X7_beginAt_s (l : Launch) (g : wG) (ad : Nat → Nat) (w : CW)  (rr : CW) (hf : X7_beginAt w true = some rr) : MetN l g yX7_beginAt cX7_beginAt 3 none (k2_rm 1 24) [.ref (ad 67), .ref (ad 22)] (ccells g ad w) (ccells g ad rr) none := by
  refine MetN.of2 [(0, .ref (ad 67)), (1, .ref (ad 22))] rfl (by decide +kernel) (Nat.le_of_ble_eq_true rfl) ?_
  intro p e s m args below meth c hG hr
  unfold X7_beginAt at hf
  refine v_aload_n hG 0 rfl rfl dX7_beginAt_0 ?_
  refine v_aload_n hG 1 rfl rfl dX7_beginAt_1 ?_
  refine c_p_67_3_true hG wk_351 dX7_beginAt_2 hf (fun w2 hf => ?_)
  refine v_aload_n hG 0 rfl rfl dX7_beginAt_5 ?_
  refine v_lconst hG (v := 0) (by decide) dX7_beginAt_6 ?_
  refine c_p_67_2 hG wk_349 dX7_beginAt_7 hf (fun w7 hf => ?_)
  refine v_iconst hG (v := 0) (by decide) dX7_beginAt_10 ?_
  refine v_istore_n hG [(2, _), (0, _), (1, _)] dX7_beginAt_11 rfl (by decide) rfl ?_
  refine v_sub [(0, _), (2, _)] [1, 0] rfl ?_
  obtain ⟨z12, hlz12, hf⟩ := bd_some hf
  refine loop_v (step := X7_beginAt_L12) (fun s12 : CW × Int32 => V p l e (k2_rm 1 24) s m args below meth c (inW (ccells g ad w)) (EN below args s g (ccells g ad w) (ccells g ad rr) none) g 3 (ccells g ad s12.1) 0 0 12 [(0, .ref (ad 67)), (2, .int s12.2)] []) (fun z12_q : (CW) => V p l e (k2_rm 1 24) s m args below meth c (inW (ccells g ad w)) (EN below args s g (ccells g ad w) (ccells g ad rr) none) g 3 (ccells g ad z12_q) 0 0 38 [(0, .ref (ad 67))] []) ?_ 5000 (w7, 0) z12 hlz12 ?_
  · intro s12 rL hf hin hout
    unfold X7_beginAt_L12 at hf
    refine v_iload_n hG 1 rfl rfl dX7_beginAt_12 ?_
    refine v_bipush hG (v := 12) (by decide) dX7_beginAt_13 ?_
    refine v_icmp_ge hG 38 dX7_beginAt_15 rfl hf (fun hf => ?_) (fun hf => ?_)
    · refine v_sub [(0, _)] [0] rfl ?_
      exact hout _ (Option.some.inj hf).symm
    · refine v_aload_n hG 0 rfl rfl dX7_beginAt_18 ?_
      refine c_g_67_0 hG wk_346 dX7_beginAt_19 ?_
      refine v_iload_n hG 1 rfl rfl dX7_beginAt_22 ?_
      refine v_lconst hG (v := 0) (by decide) dX7_beginAt_23 ?_
      refine c_s_68 hG dX7_beginAt_24 hf (fun w24 hf => ?_)
      refine v_aload_n hG 0 rfl rfl dX7_beginAt_25 ?_
      refine c_g_67_1 hG wk_348 dX7_beginAt_26 ?_
      refine v_iload_n hG 1 rfl rfl dX7_beginAt_29 ?_
      refine v_lconst hG (v := 0) (by decide) dX7_beginAt_30 ?_
      refine c_s_69 hG dX7_beginAt_31 hf (fun w31 hf => ?_)
      refine v_iinc hG 1 (v := s12.2 + 1) [(2, _), (0, _)] dX7_beginAt_32 rfl rfl (by decide) rfl ?_
      refine v_goto hG 12 dX7_beginAt_35 rfl ?_
      refine v_sub [(0, _), (2, _)] [1, 0] rfl ?_
      exact hin _ (Option.some.inj hf).symm
  · show V p l e (k2_rm 1 24) s m args below meth c (inW (ccells g ad w)) (EN below args s g (ccells g ad w) (ccells g ad rr) none) g 3 (ccells g ad z12) 0 0 38 [(0, .ref (ad 67))] []
    refine v_iconst hG (v := 0) (by decide) dX7_beginAt_38 ?_
    refine v_istore_n hG [(2, _), (0, _)] dX7_beginAt_39 rfl (by decide) rfl ?_
    refine v_sub [(0, _), (2, _)] [1, 0] rfl ?_
    obtain ⟨z40, hlz40, hf⟩ := bd_some hf
    refine loop_v (step := X7_beginAt_L40 true) (fun s40 : CW × Int32 => V p l e (k2_rm 1 24) s m args below meth c (inW (ccells g ad w)) (EN below args s g (ccells g ad w) (ccells g ad rr) none) g 3 (ccells g ad s40.1) 0 0 40 [(0, .ref (ad 67)), (2, .int s40.2)] []) (fun z40_q : (CW) => V p l e (k2_rm 1 24) s m args below meth c (inW (ccells g ad w)) (EN below args s g (ccells g ad w) (ccells g ad rr) none) g 3 (ccells g ad z40_q) 0 0 82 [] []) ?_ 5000 (z12, 0) z40 hlz40 ?_
    · intro s40 rL hf hin hout
      unfold X7_beginAt_L40 at hf
      have j76 : ∀ (j76_0 : CW) (j76_1 : Int32), X7_beginAt_J76 j76_0 j76_1 = some rL → V p l e (k2_rm 1 24) s m args below meth c (inW (ccells g ad w)) (EN below args s g (ccells g ad w) (ccells g ad rr) none) g 3 (ccells g ad j76_0) 0 0 76 [(0, .ref (ad 67)), (2, .int j76_1)] [] := by
        intro j76_0 j76_1 hf
        unfold X7_beginAt_J76 at hf
        refine v_iinc hG 1 (v := j76_1 + 1) [(2, _), (0, _)] dX7_beginAt_76 rfl rfl (by decide) rfl ?_
        refine v_goto hG 40 dX7_beginAt_79 rfl ?_
        refine v_sub [(0, _), (2, _)] [1, 0] rfl ?_
        exact hin _ (Option.some.inj hf).symm
      refine v_iload_n hG 1 rfl rfl dX7_beginAt_40 ?_
      refine v_aload_n hG 0 rfl rfl dX7_beginAt_41 ?_
      refine c_g_67_3_true hG wk_351 dX7_beginAt_42 hf (fun hf => ?_)
      refine c_g_22_7 hG wk_158 dX7_beginAt_45 ?_
      refine v_icmp_ge hG 82 dX7_beginAt_48 rfl hf (fun hf => ?_) (fun hf => ?_)
      · refine v_sub [] [] rfl ?_
        exact hout _ (Option.some.inj hf).symm
      · refine v_aload_n hG 0 rfl rfl dX7_beginAt_51 ?_
        refine c_g_67_3_true hG wk_351 dX7_beginAt_52 hf (fun hf => ?_)
        refine v_iload_n hG 1 rfl rfl dX7_beginAt_55 ?_
        obtain ⟨r56, hr56, hf⟩ := bd_some hf
        refine v_callV hG (st := []) 22 6 (ct_X6_isThere_s l g ad s40.1 s40.2 r56 hr56) iw_X6_isThere wk_882 rfl rfl ⟨rfl, rfl, Nat.le_of_ble_eq_true rfl, Nat.le_of_ble_eq_true rfl⟩ ⟨Nat.le_of_ble_eq_true rfl, Nat.le_of_ble_eq_true rfl⟩ rfl rfl (Nat.le_of_ble_eq_true rfl) (ccells_fst _ _ _ _) dX7_beginAt_56 ?_
        refine (show V p l e (k2_rm 1 24) s m args below meth c (inW (ccells g ad w)) (EN below args s g (ccells g ad w) (ccells g ad rr) none) g 3 (ccells g ad s40.1) 0 0 59 [(0, .ref (ad 67)), (2, .int s40.2)] [.int r56] from ?_)
        refine v_if_eq hG 76 dX7_beginAt_59 rfl hf (fun hf => ?_) (fun hf => ?_)
        · exact j76 s40.1 s40.2 hf
        · refine v_aload_n hG 0 rfl rfl dX7_beginAt_62 ?_
          refine v_iload_n hG 1 rfl rfl dX7_beginAt_63 ?_
          refine v_aload_n hG 0 rfl rfl dX7_beginAt_64 ?_
          refine c_g_67_3_true hG wk_351 dX7_beginAt_65 hf (fun hf => ?_)
          refine c_g_22_0 hG wk_117 dX7_beginAt_68 ?_
          refine v_iload_n hG 1 rfl rfl dX7_beginAt_71 ?_
          refine c_l_23 hG dX7_beginAt_72 hf (fun hf => ?_)
          obtain ⟨r73, hr73, hf⟩ := bd_some hf
          refine v_callV hG (st := []) 67 7 (ct_X7_step_s l g ad s40.1 s40.2 ((gT_low (gC_tab s40.1)) s40.2.toNatClampNeg) r73 hr73) iw_X7_step wk_883 rfl rfl ⟨rfl, rfl, Nat.le_of_ble_eq_true rfl, Nat.le_of_ble_eq_true rfl⟩ ⟨Nat.le_of_ble_eq_true rfl, Nat.le_of_ble_eq_true rfl⟩ rfl rfl (Nat.le_of_ble_eq_true rfl) (ccells_fst _ _ _ _) dX7_beginAt_73 ?_
          refine (show V p l e (k2_rm 1 24) s m args below meth c (inW (ccells g ad w)) (EN below args s g (ccells g ad w) (ccells g ad rr) none) g 3 (ccells g ad r73) 0 0 76 [(0, .ref (ad 67)), (2, .int s40.2)] [] from ?_)
          exact j76 r73 s40.2 hf
    · show V p l e (k2_rm 1 24) s m args below meth c (inW (ccells g ad w)) (EN below args s g (ccells g ad w) (ccells g ad rr) none) g 3 (ccells g ad z40) 0 0 82 [] []
      cases hf
      exact v_vret hG hr dX7_beginAt_82
def X7_goOn_J75  (j75_0 : CW) (j75_1 : Int32) : Option ((CW × Int32) ⊕ ((CW × Int32) ⊕ (CW))) := (some (.inl (j75_0, (j75_1 + (-1)))))
def X7_goOn_L10 (b : Bool) (s10 : CW × Int32) : Option ((CW × Int32) ⊕ ((CW × Int32) ⊕ (CW))) := (if s10.2 < 0 then (some (.inr (.inr s10.1))) else (if gC_wtab s10.1 = b then ((X6_isThere (gC_tb b s10.1) s10.2).bind (fun r19 : Int32 => (if r19 = 0 then (X7_goOn_J75 s10.1 s10.2) else (if inR s10.2 12 = true then (if gC_wtab s10.1 = b then (if inR s10.2 12 = true then (if ((gT_high (gC_tb b s10.1)) s10.2.toNatClampNeg) ≤ ((gC_wnumbers s10.1) s10.2.toNatClampNeg) then (if gC_wtab s10.1 = b then (if inR s10.2 12 = true then (if gC_wtab s10.1 = b then (if inR s10.2 12 = true then ((X7_step s10.1 b s10.2 (((gT_low (gC_tb b s10.1)) s10.2.toNatClampNeg) - ((gT_high (gC_tb b s10.1)) s10.2.toNatClampNeg))).bind (fun r72 : CW => (X7_goOn_J75 r72 s10.2))) else none) else none) else none) else none) else (some (.inr (.inl (s10.1, s10.2))))) else none) else none) else none)))) else none))
def X7_goOn (w : CW) (b : Bool) : Option (CW) := (if gC_wtab w = b then ((iter (X7_goOn_L10 b) 5000 (w, ((gT_columns (gC_tb b w)) - 1))).bind (fun z10 : (CW × Int32) ⊕ (CW) => (Sum.elim (fun z10_0 : CW × Int32 => ((X7_step z10_0.1 b z10_0.2 1).bind (fun r47 : CW => (some r47)))) (fun z10_r0 : (CW) => (some z10_r0)) z10))) else none)
set_option maxRecDepth 100000 in
set_option maxHeartbeats 4000000 in
theorem ct_X7_goOn_w (l : Launch) (g : wG) (ad : Nat → Nat) (w : CW)  (rr : CW) (hf : X7_goOn w false = some rr) : MetN l g yX7_goOn cX7_goOn 2 none (k2_rm 1 24) [.ref (ad 67)] (ccells g ad w) (ccells g ad rr) none := by
  refine MetN.of2 [(0, .ref (ad 67))] rfl (by decide +kernel) (Nat.le_of_ble_eq_true rfl) ?_
  intro p e s m args below meth c hG hr
  unfold X7_goOn at hf
  refine v_aload_n hG 0 rfl rfl dX7_goOn_0 ?_
  refine c_g_67_3_false hG wk_351 dX7_goOn_1 hf (fun hf => ?_)
  refine c_g_1_7 hG wk_158 dX7_goOn_4 ?_
  refine v_iconst hG (v := 1) (by decide) dX7_goOn_7 ?_
  refine v_isub hG dX7_goOn_8 ?_
  refine v_istore_n hG [(1, _), (0, _)] dX7_goOn_9 rfl (by decide) rfl ?_
  refine v_sub [(0, _), (1, _)] [1, 0] rfl ?_
  obtain ⟨z10, hlz10, hf⟩ := bd_some hf
  refine loop_v (step := X7_goOn_L10 false) (fun s10 : CW × Int32 => V p l e (k2_rm 1 24) s m args below meth c (inW (ccells g ad w)) (EN below args s g (ccells g ad w) (ccells g ad rr) none) g 2 (ccells g ad s10.1) 0 0 10 [(0, .ref (ad 67)), (1, .int s10.2)] []) (fun z10_q : (CW × Int32) ⊕ (CW) => Sum.elim (fun z10_0 : CW × Int32 => V p l e (k2_rm 1 24) s m args below meth c (inW (ccells g ad w)) (EN below args s g (ccells g ad w) (ccells g ad rr) none) g 2 (ccells g ad z10_0.1) 0 0 44 [(0, .ref (ad 67)), (1, .int z10_0.2)] []) (fun z10_r0 : (CW) => V p l e (k2_rm 1 24) s m args below meth c (inW (ccells g ad w)) (EN below args s g (ccells g ad w) (ccells g ad rr) none) g 2 (ccells g ad z10_r0) 0 0 81 [] []) z10_q) ?_ 5000 (w, ((gT_columns (gC_whole w)) - 1)) z10 hlz10 ?_
  · intro s10 rL hf hin hout
    unfold X7_goOn_L10 at hf
    have j75 : ∀ (j75_0 : CW) (j75_1 : Int32), X7_goOn_J75 j75_0 j75_1 = some rL → V p l e (k2_rm 1 24) s m args below meth c (inW (ccells g ad w)) (EN below args s g (ccells g ad w) (ccells g ad rr) none) g 2 (ccells g ad j75_0) 0 0 75 [(0, .ref (ad 67)), (1, .int j75_1)] [] := by
      intro j75_0 j75_1 hf
      unfold X7_goOn_J75 at hf
      refine v_iinc hG 1 (v := j75_1 + (-1)) [(1, _), (0, _)] dX7_goOn_75 rfl rfl (by decide) rfl ?_
      refine v_goto hG 10 dX7_goOn_78 rfl ?_
      refine v_sub [(0, _), (1, _)] [1, 0] rfl ?_
      exact hin _ (Option.some.inj hf).symm
    refine v_iload_n hG 1 rfl rfl dX7_goOn_10 ?_
    refine v_if_lt hG 81 dX7_goOn_11 rfl hf (fun hf => ?_) (fun hf => ?_)
    · refine v_sub [] [] rfl ?_
      exact hout _ (Option.some.inj hf).symm
    · refine v_aload_n hG 0 rfl rfl dX7_goOn_14 ?_
      refine c_g_67_3_false hG wk_351 dX7_goOn_15 hf (fun hf => ?_)
      refine v_iload_n hG 1 rfl rfl dX7_goOn_18 ?_
      obtain ⟨r19, hr19, hf⟩ := bd_some hf
      refine v_callV hG (st := []) 1 6 (ct_X6_isThere_w l g ad s10.1 s10.2 r19 hr19) iw_X6_isThere wk_882 rfl rfl ⟨rfl, rfl, Nat.le_of_ble_eq_true rfl, Nat.le_of_ble_eq_true rfl⟩ ⟨Nat.le_of_ble_eq_true rfl, Nat.le_of_ble_eq_true rfl⟩ rfl rfl (Nat.le_of_ble_eq_true rfl) (ccells_fst _ _ _ _) dX7_goOn_19 ?_
      refine (show V p l e (k2_rm 1 24) s m args below meth c (inW (ccells g ad w)) (EN below args s g (ccells g ad w) (ccells g ad rr) none) g 2 (ccells g ad s10.1) 0 0 22 [(0, .ref (ad 67)), (1, .int s10.2)] [.int r19] from ?_)
      refine v_if_eq hG 75 dX7_goOn_22 rfl hf (fun hf => ?_) (fun hf => ?_)
      · exact j75 s10.1 s10.2 hf
      · refine v_aload_n hG 0 rfl rfl dX7_goOn_25 ?_
        refine c_g_67_0 hG wk_346 dX7_goOn_26 ?_
        refine v_iload_n hG 1 rfl rfl dX7_goOn_29 ?_
        refine c_l_68 hG dX7_goOn_30 hf (fun hf => ?_)
        refine v_aload_n hG 0 rfl rfl dX7_goOn_31 ?_
        refine c_g_67_3_false hG wk_351 dX7_goOn_32 hf (fun hf => ?_)
        refine c_g_1_1 hG wk_125 dX7_goOn_35 ?_
        refine v_iload_n hG 1 rfl rfl dX7_goOn_38 ?_
        refine c_l_3 hG dX7_goOn_39 hf (fun hf => ?_)
        refine v_lcmp_ge hG 51 dX7_goOn_40 dX7_goOn_41 rfl hf (fun hf => ?_) (fun hf => ?_)
        · refine v_aload_n hG 0 rfl rfl dX7_goOn_51 ?_
          refine v_iload_n hG 1 rfl rfl dX7_goOn_52 ?_
          refine v_aload_n hG 0 rfl rfl dX7_goOn_53 ?_
          refine c_g_67_3_false hG wk_351 dX7_goOn_54 hf (fun hf => ?_)
          refine c_g_1_0 hG wk_117 dX7_goOn_57 ?_
          refine v_iload_n hG 1 rfl rfl dX7_goOn_60 ?_
          refine c_l_2 hG dX7_goOn_61 hf (fun hf => ?_)
          refine v_aload_n hG 0 rfl rfl dX7_goOn_62 ?_
          refine c_g_67_3_false hG wk_351 dX7_goOn_63 hf (fun hf => ?_)
          refine c_g_1_1 hG wk_125 dX7_goOn_66 ?_
          refine v_iload_n hG 1 rfl rfl dX7_goOn_69 ?_
          refine c_l_3 hG dX7_goOn_70 hf (fun hf => ?_)
          refine v_lsub hG dX7_goOn_71 ?_
          obtain ⟨r72, hr72, hf⟩ := bd_some hf
          refine v_callV hG (st := []) 67 7 (ct_X7_step_w l g ad s10.1 s10.2 (((gT_low (gC_whole s10.1)) s10.2.toNatClampNeg) - ((gT_high (gC_whole s10.1)) s10.2.toNatClampNeg)) r72 hr72) iw_X7_step wk_883 rfl rfl ⟨rfl, rfl, Nat.le_of_ble_eq_true rfl, Nat.le_of_ble_eq_true rfl⟩ ⟨Nat.le_of_ble_eq_true rfl, Nat.le_of_ble_eq_true rfl⟩ rfl rfl (Nat.le_of_ble_eq_true rfl) (ccells_fst _ _ _ _) dX7_goOn_72 ?_
          refine (show V p l e (k2_rm 1 24) s m args below meth c (inW (ccells g ad w)) (EN below args s g (ccells g ad w) (ccells g ad rr) none) g 2 (ccells g ad r72) 0 0 75 [(0, .ref (ad 67)), (1, .int s10.2)] [] from ?_)
          exact j75 r72 s10.2 hf
        · exact hout _ (Option.some.inj hf).symm
  · rcases z10 with z10_x0 | z10_x0
    · simp only [Sum.elim_inl] at hf
      show V p l e (k2_rm 1 24) s m args below meth c (inW (ccells g ad w)) (EN below args s g (ccells g ad w) (ccells g ad rr) none) g 2 (ccells g ad z10_x0.1) 0 0 44 [(0, .ref (ad 67)), (1, .int z10_x0.2)] []
      refine v_aload_n hG 0 rfl rfl dX7_goOn_44 ?_
      refine v_iload_n hG 1 rfl rfl dX7_goOn_45 ?_
      refine v_lconst hG (v := 1) (by decide) dX7_goOn_46 ?_
      obtain ⟨r47, hr47, hf⟩ := bd_some hf
      refine v_callV hG (st := []) 67 7 (ct_X7_step_w l g ad z10_x0.1 z10_x0.2 1 r47 hr47) iw_X7_step wk_883 rfl rfl ⟨rfl, rfl, Nat.le_of_ble_eq_true rfl, Nat.le_of_ble_eq_true rfl⟩ ⟨Nat.le_of_ble_eq_true rfl, Nat.le_of_ble_eq_true rfl⟩ rfl rfl (Nat.le_of_ble_eq_true rfl) (ccells_fst _ _ _ _) dX7_goOn_47 ?_
      refine (show V p l e (k2_rm 1 24) s m args below meth c (inW (ccells g ad w)) (EN below args s g (ccells g ad w) (ccells g ad rr) none) g 2 (ccells g ad r47) 0 0 50 [(0, .ref (ad 67)), (1, .int z10_x0.2)] [] from ?_)
      cases hf
      exact v_vret hG hr dX7_goOn_50
    · simp only [Sum.elim_inr] at hf
      show V p l e (k2_rm 1 24) s m args below meth c (inW (ccells g ad w)) (EN below args s g (ccells g ad w) (ccells g ad rr) none) g 2 (ccells g ad z10_x0) 0 0 81 [] []
      cases hf
      exact v_vret hG hr dX7_goOn_81
set_option maxRecDepth 100000 in
set_option maxHeartbeats 4000000 in
theorem ct_X7_goOn_s (l : Launch) (g : wG) (ad : Nat → Nat) (w : CW)  (rr : CW) (hf : X7_goOn w true = some rr) : MetN l g yX7_goOn cX7_goOn 2 none (k2_rm 1 24) [.ref (ad 67)] (ccells g ad w) (ccells g ad rr) none := by
  refine MetN.of2 [(0, .ref (ad 67))] rfl (by decide +kernel) (Nat.le_of_ble_eq_true rfl) ?_
  intro p e s m args below meth c hG hr
  unfold X7_goOn at hf
  refine v_aload_n hG 0 rfl rfl dX7_goOn_0 ?_
  refine c_g_67_3_true hG wk_351 dX7_goOn_1 hf (fun hf => ?_)
  refine c_g_22_7 hG wk_158 dX7_goOn_4 ?_
  refine v_iconst hG (v := 1) (by decide) dX7_goOn_7 ?_
  refine v_isub hG dX7_goOn_8 ?_
  refine v_istore_n hG [(1, _), (0, _)] dX7_goOn_9 rfl (by decide) rfl ?_
  refine v_sub [(0, _), (1, _)] [1, 0] rfl ?_
  obtain ⟨z10, hlz10, hf⟩ := bd_some hf
  refine loop_v (step := X7_goOn_L10 true) (fun s10 : CW × Int32 => V p l e (k2_rm 1 24) s m args below meth c (inW (ccells g ad w)) (EN below args s g (ccells g ad w) (ccells g ad rr) none) g 2 (ccells g ad s10.1) 0 0 10 [(0, .ref (ad 67)), (1, .int s10.2)] []) (fun z10_q : (CW × Int32) ⊕ (CW) => Sum.elim (fun z10_0 : CW × Int32 => V p l e (k2_rm 1 24) s m args below meth c (inW (ccells g ad w)) (EN below args s g (ccells g ad w) (ccells g ad rr) none) g 2 (ccells g ad z10_0.1) 0 0 44 [(0, .ref (ad 67)), (1, .int z10_0.2)] []) (fun z10_r0 : (CW) => V p l e (k2_rm 1 24) s m args below meth c (inW (ccells g ad w)) (EN below args s g (ccells g ad w) (ccells g ad rr) none) g 2 (ccells g ad z10_r0) 0 0 81 [] []) z10_q) ?_ 5000 (w, ((gT_columns (gC_tab w)) - 1)) z10 hlz10 ?_
  · intro s10 rL hf hin hout
    unfold X7_goOn_L10 at hf
    have j75 : ∀ (j75_0 : CW) (j75_1 : Int32), X7_goOn_J75 j75_0 j75_1 = some rL → V p l e (k2_rm 1 24) s m args below meth c (inW (ccells g ad w)) (EN below args s g (ccells g ad w) (ccells g ad rr) none) g 2 (ccells g ad j75_0) 0 0 75 [(0, .ref (ad 67)), (1, .int j75_1)] [] := by
      intro j75_0 j75_1 hf
      unfold X7_goOn_J75 at hf
      refine v_iinc hG 1 (v := j75_1 + (-1)) [(1, _), (0, _)] dX7_goOn_75 rfl rfl (by decide) rfl ?_
      refine v_goto hG 10 dX7_goOn_78 rfl ?_
      refine v_sub [(0, _), (1, _)] [1, 0] rfl ?_
      exact hin _ (Option.some.inj hf).symm
    refine v_iload_n hG 1 rfl rfl dX7_goOn_10 ?_
    refine v_if_lt hG 81 dX7_goOn_11 rfl hf (fun hf => ?_) (fun hf => ?_)
    · refine v_sub [] [] rfl ?_
      exact hout _ (Option.some.inj hf).symm
    · refine v_aload_n hG 0 rfl rfl dX7_goOn_14 ?_
      refine c_g_67_3_true hG wk_351 dX7_goOn_15 hf (fun hf => ?_)
      refine v_iload_n hG 1 rfl rfl dX7_goOn_18 ?_
      obtain ⟨r19, hr19, hf⟩ := bd_some hf
      refine v_callV hG (st := []) 22 6 (ct_X6_isThere_s l g ad s10.1 s10.2 r19 hr19) iw_X6_isThere wk_882 rfl rfl ⟨rfl, rfl, Nat.le_of_ble_eq_true rfl, Nat.le_of_ble_eq_true rfl⟩ ⟨Nat.le_of_ble_eq_true rfl, Nat.le_of_ble_eq_true rfl⟩ rfl rfl (Nat.le_of_ble_eq_true rfl) (ccells_fst _ _ _ _) dX7_goOn_19 ?_
      refine (show V p l e (k2_rm 1 24) s m args below meth c (inW (ccells g ad w)) (EN below args s g (ccells g ad w) (ccells g ad rr) none) g 2 (ccells g ad s10.1) 0 0 22 [(0, .ref (ad 67)), (1, .int s10.2)] [.int r19] from ?_)
      refine v_if_eq hG 75 dX7_goOn_22 rfl hf (fun hf => ?_) (fun hf => ?_)
      · exact j75 s10.1 s10.2 hf
      · refine v_aload_n hG 0 rfl rfl dX7_goOn_25 ?_
        refine c_g_67_0 hG wk_346 dX7_goOn_26 ?_
        refine v_iload_n hG 1 rfl rfl dX7_goOn_29 ?_
        refine c_l_68 hG dX7_goOn_30 hf (fun hf => ?_)
        refine v_aload_n hG 0 rfl rfl dX7_goOn_31 ?_
        refine c_g_67_3_true hG wk_351 dX7_goOn_32 hf (fun hf => ?_)
        refine c_g_22_1 hG wk_125 dX7_goOn_35 ?_
        refine v_iload_n hG 1 rfl rfl dX7_goOn_38 ?_
        refine c_l_24 hG dX7_goOn_39 hf (fun hf => ?_)
        refine v_lcmp_ge hG 51 dX7_goOn_40 dX7_goOn_41 rfl hf (fun hf => ?_) (fun hf => ?_)
        · refine v_aload_n hG 0 rfl rfl dX7_goOn_51 ?_
          refine v_iload_n hG 1 rfl rfl dX7_goOn_52 ?_
          refine v_aload_n hG 0 rfl rfl dX7_goOn_53 ?_
          refine c_g_67_3_true hG wk_351 dX7_goOn_54 hf (fun hf => ?_)
          refine c_g_22_0 hG wk_117 dX7_goOn_57 ?_
          refine v_iload_n hG 1 rfl rfl dX7_goOn_60 ?_
          refine c_l_23 hG dX7_goOn_61 hf (fun hf => ?_)
          refine v_aload_n hG 0 rfl rfl dX7_goOn_62 ?_
          refine c_g_67_3_true hG wk_351 dX7_goOn_63 hf (fun hf => ?_)
          refine c_g_22_1 hG wk_125 dX7_goOn_66 ?_
          refine v_iload_n hG 1 rfl rfl dX7_goOn_69 ?_
          refine c_l_24 hG dX7_goOn_70 hf (fun hf => ?_)
          refine v_lsub hG dX7_goOn_71 ?_
          obtain ⟨r72, hr72, hf⟩ := bd_some hf
          refine v_callV hG (st := []) 67 7 (ct_X7_step_s l g ad s10.1 s10.2 (((gT_low (gC_tab s10.1)) s10.2.toNatClampNeg) - ((gT_high (gC_tab s10.1)) s10.2.toNatClampNeg)) r72 hr72) iw_X7_step wk_883 rfl rfl ⟨rfl, rfl, Nat.le_of_ble_eq_true rfl, Nat.le_of_ble_eq_true rfl⟩ ⟨Nat.le_of_ble_eq_true rfl, Nat.le_of_ble_eq_true rfl⟩ rfl rfl (Nat.le_of_ble_eq_true rfl) (ccells_fst _ _ _ _) dX7_goOn_72 ?_
          refine (show V p l e (k2_rm 1 24) s m args below meth c (inW (ccells g ad w)) (EN below args s g (ccells g ad w) (ccells g ad rr) none) g 2 (ccells g ad r72) 0 0 75 [(0, .ref (ad 67)), (1, .int s10.2)] [] from ?_)
          exact j75 r72 s10.2 hf
        · exact hout _ (Option.some.inj hf).symm
  · rcases z10 with z10_x0 | z10_x0
    · simp only [Sum.elim_inl] at hf
      show V p l e (k2_rm 1 24) s m args below meth c (inW (ccells g ad w)) (EN below args s g (ccells g ad w) (ccells g ad rr) none) g 2 (ccells g ad z10_x0.1) 0 0 44 [(0, .ref (ad 67)), (1, .int z10_x0.2)] []
      refine v_aload_n hG 0 rfl rfl dX7_goOn_44 ?_
      refine v_iload_n hG 1 rfl rfl dX7_goOn_45 ?_
      refine v_lconst hG (v := 1) (by decide) dX7_goOn_46 ?_
      obtain ⟨r47, hr47, hf⟩ := bd_some hf
      refine v_callV hG (st := []) 67 7 (ct_X7_step_s l g ad z10_x0.1 z10_x0.2 1 r47 hr47) iw_X7_step wk_883 rfl rfl ⟨rfl, rfl, Nat.le_of_ble_eq_true rfl, Nat.le_of_ble_eq_true rfl⟩ ⟨Nat.le_of_ble_eq_true rfl, Nat.le_of_ble_eq_true rfl⟩ rfl rfl (Nat.le_of_ble_eq_true rfl) (ccells_fst _ _ _ _) dX7_goOn_47 ?_
      refine (show V p l e (k2_rm 1 24) s m args below meth c (inW (ccells g ad w)) (EN below args s g (ccells g ad w) (ccells g ad rr) none) g 2 (ccells g ad r47) 0 0 50 [(0, .ref (ad 67)), (1, .int z10_x0.2)] [] from ?_)
      cases hf
      exact v_vret hG hr dX7_goOn_50
    · simp only [Sum.elim_inr] at hf
      show V p l e (k2_rm 1 24) s m args below meth c (inW (ccells g ad w)) (EN below args s g (ccells g ad w) (ccells g ad rr) none) g 2 (ccells g ad z10_x0) 0 0 81 [] []
      cases hf
      exact v_vret hG hr dX7_goOn_81
def X7_holdsAll_J40  (j40_0 : Int32) : Option ((Int32) ⊕ ((Unit) ⊕ (Unit))) := (some (.inl (j40_0 + 1)))
def X7_holdsAll_L2 (w : CW) (b : Bool) (a0 : Int32) (s2 : Int32) : Option ((Int32) ⊕ ((Unit) ⊕ (Unit))) := (if gC_wtab w = b then (if (gT_rows (gC_tb b w)) ≤ s2 then (some (.inr (.inr ()))) else (if ((a0 >>> (s2 &&& 31)) &&& 1) = 0 then (X7_holdsAll_J40 s2) else (if gC_wtab w = b then (if inR s2 12 = true then ((X6_isHolding (gC_tb b w) s2 ((gC_rowSums w) s2.toNatClampNeg)).bind (fun r32 : Int32 => (if r32 = 0 then (some (.inr (.inl ()))) else (X7_holdsAll_J40 s2)))) else none) else none))) else none)
def X7_holdsAll (w : CW) (b : Bool) (a0 : Int32) : Option (Int32) := ((iter (X7_holdsAll_L2 w b a0) 5000 0).bind (fun z2 : (Unit) ⊕ (Unit) => (Sum.elim (fun z2_0 : Unit => (some 0)) (fun z2_r0 : (Unit) => (some 1)) z2)))
set_option maxRecDepth 100000 in
set_option maxHeartbeats 4000000 in
theorem ct_X7_holdsAll_w (l : Launch) (g : wG) (ad : Nat → Nat) (w : CW) (a0 : Int32) (rr : Int32) (hf : X7_holdsAll w false a0 = some rr) : MetN l g yX7_holdsAll cX7_holdsAll 3 (some .boolean) (k2_rm 2 44) [.ref (ad 67), .int a0] (ccells g ad w) (ccells g ad w) (some (.int rr)) := by
  refine MetN.of2 [(0, .ref (ad 67)), (1, .int a0)] rfl (by decide +kernel) (Nat.le_of_ble_eq_true rfl) ?_
  intro p e s m args below meth c hG hr
  unfold X7_holdsAll at hf
  refine v_iconst hG (v := 0) (by decide) dX7_holdsAll_0 ?_
  refine v_istore_n hG [(2, _), (0, _), (1, _)] dX7_holdsAll_1 rfl (by decide) rfl ?_
  refine v_sub [(0, _), (1, _), (2, _)] [1, 2, 0] rfl ?_
  obtain ⟨z2, hlz2, hf⟩ := bd_some hf
  refine loop_v (step := X7_holdsAll_L2 w false a0) (fun s2 : Int32 => V p l e (k2_rm 2 44) s m args below meth c (inW (ccells g ad w)) (EN below args s g (ccells g ad w) (ccells g ad w) (some (.int rr))) g 3 (ccells g ad w) 0 0 2 [(0, .ref (ad 67)), (1, .int a0), (2, .int s2)] []) (fun z2_q : (Unit) ⊕ (Unit) => Sum.elim (fun z2_0 : Unit => V p l e (k2_rm 2 44) s m args below meth c (inW (ccells g ad w)) (EN below args s g (ccells g ad w) (ccells g ad w) (some (.int rr))) g 3 (ccells g ad w) 0 0 38 [] []) (fun z2_r0 : (Unit) => V p l e (k2_rm 2 44) s m args below meth c (inW (ccells g ad w)) (EN below args s g (ccells g ad w) (ccells g ad w) (some (.int rr))) g 3 (ccells g ad w) 0 0 46 [] []) z2_q) ?_ 5000 0 z2 hlz2 ?_
  · intro s2 rL hf hin hout
    unfold X7_holdsAll_L2 at hf
    have j40 : ∀ (j40_0 : Int32), X7_holdsAll_J40 j40_0 = some rL → V p l e (k2_rm 2 44) s m args below meth c (inW (ccells g ad w)) (EN below args s g (ccells g ad w) (ccells g ad w) (some (.int rr))) g 3 (ccells g ad w) 0 0 40 [(0, .ref (ad 67)), (1, .int a0), (2, .int j40_0)] [] := by
      intro j40_0 hf
      unfold X7_holdsAll_J40 at hf
      refine v_iinc hG 2 (v := j40_0 + 1) [(2, _), (0, _), (1, _)] dX7_holdsAll_40 rfl rfl (by decide) rfl ?_
      refine v_goto hG 2 dX7_holdsAll_43 rfl ?_
      refine v_sub [(0, _), (1, _), (2, _)] [1, 2, 0] rfl ?_
      exact hin _ (Option.some.inj hf).symm
    refine v_iload_n hG 2 rfl rfl dX7_holdsAll_2 ?_
    refine v_aload_n hG 0 rfl rfl dX7_holdsAll_3 ?_
    refine c_g_67_3_false hG wk_351 dX7_holdsAll_4 hf (fun hf => ?_)
    refine c_g_1_8 hG wk_168 dX7_holdsAll_7 ?_
    refine v_icmp_ge hG 46 dX7_holdsAll_10 rfl hf (fun hf => ?_) (fun hf => ?_)
    · refine v_sub [] [] rfl ?_
      exact hout _ (Option.some.inj hf).symm
    · refine v_iload_n hG 1 rfl rfl dX7_holdsAll_13 ?_
      refine v_iload_n hG 2 rfl rfl dX7_holdsAll_14 ?_
      refine v_ishr hG dX7_holdsAll_15 ?_
      refine v_iconst hG (v := 1) (by decide) dX7_holdsAll_16 ?_
      refine v_iand hG dX7_holdsAll_17 ?_
      refine v_if_eq hG 40 dX7_holdsAll_18 rfl hf (fun hf => ?_) (fun hf => ?_)
      · exact j40 s2 hf
      · refine v_aload_n hG 0 rfl rfl dX7_holdsAll_21 ?_
        refine c_g_67_3_false hG wk_351 dX7_holdsAll_22 hf (fun hf => ?_)
        refine v_iload_n hG 2 rfl rfl dX7_holdsAll_25 ?_
        refine v_aload_n hG 0 rfl rfl dX7_holdsAll_26 ?_
        refine c_g_67_1 hG wk_348 dX7_holdsAll_27 ?_
        refine v_iload_n hG 2 rfl rfl dX7_holdsAll_30 ?_
        refine c_l_69 hG dX7_holdsAll_31 hf (fun hf => ?_)
        obtain ⟨r32, hr32, hf⟩ := bd_some hf
        refine v_callV hG (st := []) 1 6 (ct_X6_isHolding_w l g ad w s2 ((gC_rowSums w) s2.toNatClampNeg) r32 hr32) iw_X6_isHolding wk_891 rfl rfl ⟨rfl, rfl, Nat.le_of_ble_eq_true rfl, Nat.le_of_ble_eq_true rfl⟩ ⟨Nat.le_of_ble_eq_true rfl, Nat.le_of_ble_eq_true rfl⟩ rfl rfl (Nat.le_of_ble_eq_true rfl) (ccells_fst _ _ _ _) dX7_holdsAll_32 ?_
        refine (show V p l e (k2_rm 2 44) s m args below meth c (inW (ccells g ad w)) (EN below args s g (ccells g ad w) (ccells g ad w) (some (.int rr))) g 3 (ccells g ad w) 0 0 35 [(0, .ref (ad 67)), (1, .int a0), (2, .int s2)] [.int r32] from ?_)
        refine v_if_ne hG 40 dX7_holdsAll_35 rfl hf (fun hf => ?_) (fun hf => ?_)
        · exact j40 s2 hf
        · refine v_sub [] [] rfl ?_
          exact hout _ (Option.some.inj hf).symm
  · rcases z2 with z2_x0 | z2_x0
    · simp only [Sum.elim_inl] at hf
      show V p l e (k2_rm 2 44) s m args below meth c (inW (ccells g ad w)) (EN below args s g (ccells g ad w) (ccells g ad w) (some (.int rr))) g 3 (ccells g ad w) 0 0 38 [] []
      refine v_iconst hG (v := 0) (by decide) dX7_holdsAll_38 ?_
      cases hf
      exact v_zret (x := 0) hG hr rfl dX7_holdsAll_39
    · simp only [Sum.elim_inr] at hf
      show V p l e (k2_rm 2 44) s m args below meth c (inW (ccells g ad w)) (EN below args s g (ccells g ad w) (ccells g ad w) (some (.int rr))) g 3 (ccells g ad w) 0 0 46 [] []
      refine v_iconst hG (v := 1) (by decide) dX7_holdsAll_46 ?_
      cases hf
      exact v_zret (x := 1) hG hr rfl dX7_holdsAll_47
set_option maxRecDepth 100000 in
set_option maxHeartbeats 4000000 in
theorem ct_X7_holdsAll_s (l : Launch) (g : wG) (ad : Nat → Nat) (w : CW) (a0 : Int32) (rr : Int32) (hf : X7_holdsAll w true a0 = some rr) : MetN l g yX7_holdsAll cX7_holdsAll 3 (some .boolean) (k2_rm 2 44) [.ref (ad 67), .int a0] (ccells g ad w) (ccells g ad w) (some (.int rr)) := by
  refine MetN.of2 [(0, .ref (ad 67)), (1, .int a0)] rfl (by decide +kernel) (Nat.le_of_ble_eq_true rfl) ?_
  intro p e s m args below meth c hG hr
  unfold X7_holdsAll at hf
  refine v_iconst hG (v := 0) (by decide) dX7_holdsAll_0 ?_
  refine v_istore_n hG [(2, _), (0, _), (1, _)] dX7_holdsAll_1 rfl (by decide) rfl ?_
  refine v_sub [(0, _), (1, _), (2, _)] [1, 2, 0] rfl ?_
  obtain ⟨z2, hlz2, hf⟩ := bd_some hf
  refine loop_v (step := X7_holdsAll_L2 w true a0) (fun s2 : Int32 => V p l e (k2_rm 2 44) s m args below meth c (inW (ccells g ad w)) (EN below args s g (ccells g ad w) (ccells g ad w) (some (.int rr))) g 3 (ccells g ad w) 0 0 2 [(0, .ref (ad 67)), (1, .int a0), (2, .int s2)] []) (fun z2_q : (Unit) ⊕ (Unit) => Sum.elim (fun z2_0 : Unit => V p l e (k2_rm 2 44) s m args below meth c (inW (ccells g ad w)) (EN below args s g (ccells g ad w) (ccells g ad w) (some (.int rr))) g 3 (ccells g ad w) 0 0 38 [] []) (fun z2_r0 : (Unit) => V p l e (k2_rm 2 44) s m args below meth c (inW (ccells g ad w)) (EN below args s g (ccells g ad w) (ccells g ad w) (some (.int rr))) g 3 (ccells g ad w) 0 0 46 [] []) z2_q) ?_ 5000 0 z2 hlz2 ?_
  · intro s2 rL hf hin hout
    unfold X7_holdsAll_L2 at hf
    have j40 : ∀ (j40_0 : Int32), X7_holdsAll_J40 j40_0 = some rL → V p l e (k2_rm 2 44) s m args below meth c (inW (ccells g ad w)) (EN below args s g (ccells g ad w) (ccells g ad w) (some (.int rr))) g 3 (ccells g ad w) 0 0 40 [(0, .ref (ad 67)), (1, .int a0), (2, .int j40_0)] [] := by
      intro j40_0 hf
      unfold X7_holdsAll_J40 at hf
      refine v_iinc hG 2 (v := j40_0 + 1) [(2, _), (0, _), (1, _)] dX7_holdsAll_40 rfl rfl (by decide) rfl ?_
      refine v_goto hG 2 dX7_holdsAll_43 rfl ?_
      refine v_sub [(0, _), (1, _), (2, _)] [1, 2, 0] rfl ?_
      exact hin _ (Option.some.inj hf).symm
    refine v_iload_n hG 2 rfl rfl dX7_holdsAll_2 ?_
    refine v_aload_n hG 0 rfl rfl dX7_holdsAll_3 ?_
    refine c_g_67_3_true hG wk_351 dX7_holdsAll_4 hf (fun hf => ?_)
    refine c_g_22_8 hG wk_168 dX7_holdsAll_7 ?_
    refine v_icmp_ge hG 46 dX7_holdsAll_10 rfl hf (fun hf => ?_) (fun hf => ?_)
    · refine v_sub [] [] rfl ?_
      exact hout _ (Option.some.inj hf).symm
    · refine v_iload_n hG 1 rfl rfl dX7_holdsAll_13 ?_
      refine v_iload_n hG 2 rfl rfl dX7_holdsAll_14 ?_
      refine v_ishr hG dX7_holdsAll_15 ?_
      refine v_iconst hG (v := 1) (by decide) dX7_holdsAll_16 ?_
      refine v_iand hG dX7_holdsAll_17 ?_
      refine v_if_eq hG 40 dX7_holdsAll_18 rfl hf (fun hf => ?_) (fun hf => ?_)
      · exact j40 s2 hf
      · refine v_aload_n hG 0 rfl rfl dX7_holdsAll_21 ?_
        refine c_g_67_3_true hG wk_351 dX7_holdsAll_22 hf (fun hf => ?_)
        refine v_iload_n hG 2 rfl rfl dX7_holdsAll_25 ?_
        refine v_aload_n hG 0 rfl rfl dX7_holdsAll_26 ?_
        refine c_g_67_1 hG wk_348 dX7_holdsAll_27 ?_
        refine v_iload_n hG 2 rfl rfl dX7_holdsAll_30 ?_
        refine c_l_69 hG dX7_holdsAll_31 hf (fun hf => ?_)
        obtain ⟨r32, hr32, hf⟩ := bd_some hf
        refine v_callV hG (st := []) 22 6 (ct_X6_isHolding_s l g ad w s2 ((gC_rowSums w) s2.toNatClampNeg) r32 hr32) iw_X6_isHolding wk_891 rfl rfl ⟨rfl, rfl, Nat.le_of_ble_eq_true rfl, Nat.le_of_ble_eq_true rfl⟩ ⟨Nat.le_of_ble_eq_true rfl, Nat.le_of_ble_eq_true rfl⟩ rfl rfl (Nat.le_of_ble_eq_true rfl) (ccells_fst _ _ _ _) dX7_holdsAll_32 ?_
        refine (show V p l e (k2_rm 2 44) s m args below meth c (inW (ccells g ad w)) (EN below args s g (ccells g ad w) (ccells g ad w) (some (.int rr))) g 3 (ccells g ad w) 0 0 35 [(0, .ref (ad 67)), (1, .int a0), (2, .int s2)] [.int r32] from ?_)
        refine v_if_ne hG 40 dX7_holdsAll_35 rfl hf (fun hf => ?_) (fun hf => ?_)
        · exact j40 s2 hf
        · refine v_sub [] [] rfl ?_
          exact hout _ (Option.some.inj hf).symm
  · rcases z2 with z2_x0 | z2_x0
    · simp only [Sum.elim_inl] at hf
      show V p l e (k2_rm 2 44) s m args below meth c (inW (ccells g ad w)) (EN below args s g (ccells g ad w) (ccells g ad w) (some (.int rr))) g 3 (ccells g ad w) 0 0 38 [] []
      refine v_iconst hG (v := 0) (by decide) dX7_holdsAll_38 ?_
      cases hf
      exact v_zret (x := 0) hG hr rfl dX7_holdsAll_39
    · simp only [Sum.elim_inr] at hf
      show V p l e (k2_rm 2 44) s m args below meth c (inW (ccells g ad w)) (EN below args s g (ccells g ad w) (ccells g ad w) (some (.int rr))) g 3 (ccells g ad w) 0 0 46 [] []
      refine v_iconst hG (v := 1) (by decide) dX7_holdsAll_46 ?_
      cases hf
      exact v_zret (x := 1) hG hr rfl dX7_holdsAll_47
