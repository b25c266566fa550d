def X6_isThere (t : cT) (a0 : Int32) : Option (Int32) := (if inR a0 12 = true then (if ((gT_state t) a0.toNatClampNeg) = 0 then (some 1) else (some 0)) else none)
set_option maxRecDepth 100000 in
set_option maxHeartbeats 4000000 in
theorem ct_X6_isThere_w (l : Launch) (g : wG) (ad : Nat → Nat) (w : CW) (a0 : Int32) (rr : Int32) (hf : X6_isThere (gC_whole w) a0 = some rr) : MetN l g yX6_isThere cX6_isThere 2 (some .boolean) (k2_rm 0 0) [.ref (ad 1), .int a0] (ccells g ad w) (ccells g ad w) (some (.int rr)) := by
  refine MetN.of2 [(0, .ref (ad 1)), (1, .int a0)] rfl (by decide +kernel) (Nat.le_of_ble_eq_true rfl) ?_
  intro p e s m args below meth c hG hr
  unfold X6_isThere at hf
  refine v_aload_n hG 0 rfl rfl dX6_isThere_0 ?_
  refine c_g_1_3 hG wk_134 dX6_isThere_1 ?_
  refine v_iload_n hG 1 rfl rfl dX6_isThere_4 ?_
  refine c_l_5 hG dX6_isThere_5 hf (fun hf => ?_)
  refine v_if_ne hG 13 dX6_isThere_6 rfl hf (fun hf => ?_) (fun hf => ?_)
  · refine v_iconst hG (v := 0) (by decide) dX6_isThere_13 ?_
    cases hf
    exact v_zret (x := 0) hG hr rfl dX6_isThere_14
  · refine v_iconst hG (v := 1) (by decide) dX6_isThere_9 ?_
    refine v_goto hG 14 dX6_isThere_10 rfl ?_
    cases hf
    exact v_zret (x := 1) hG hr rfl dX6_isThere_14
set_option maxRecDepth 100000 in
set_option maxHeartbeats 4000000 in
theorem ct_X6_isThere_s (l : Launch) (g : wG) (ad : Nat → Nat) (w : CW) (a0 : Int32) (rr : Int32) (hf : X6_isThere (gC_tab w) a0 = some rr) : MetN l g yX6_isThere cX6_isThere 2 (some .boolean) (k2_rm 0 0) [.ref (ad 22), .int a0] (ccells g ad w) (ccells g ad w) (some (.int rr)) := by
  refine MetN.of2 [(0, .ref (ad 22)), (1, .int a0)] rfl (by decide +kernel) (Nat.le_of_ble_eq_true rfl) ?_
  intro p e s m args below meth c hG hr
  unfold X6_isThere at hf
  refine v_aload_n hG 0 rfl rfl dX6_isThere_0 ?_
  refine c_g_22_3 hG wk_134 dX6_isThere_1 ?_
  refine v_iload_n hG 1 rfl rfl dX6_isThere_4 ?_
  refine c_l_26 hG dX6_isThere_5 hf (fun hf => ?_)
  refine v_if_ne hG 13 dX6_isThere_6 rfl hf (fun hf => ?_) (fun hf => ?_)
  · refine v_iconst hG (v := 0) (by decide) dX6_isThere_13 ?_
    cases hf
    exact v_zret (x := 0) hG hr rfl dX6_isThere_14
  · refine v_iconst hG (v := 1) (by decide) dX6_isThere_9 ?_
    refine v_goto hG 14 dX6_isThere_10 rfl ?_
    cases hf
    exact v_zret (x := 1) hG hr rfl dX6_isThere_14
def X6_isGone (t : cT) (a0 : Int32) : Option (Int32) := (if inR a0 12 = true then (if ((gT_kind t) a0.toNatClampNeg) = (-1) then (some 1) else (some 0)) else none)
set_option maxRecDepth 100000 in
set_option maxHeartbeats 4000000 in
theorem ct_X6_isGone_w (l : Launch) (g : wG) (ad : Nat → Nat) (w : CW) (a0 : Int32) (rr : Int32) (hf : X6_isGone (gC_whole w) a0 = some rr) : MetN l g yX6_isGone cX6_isGone 2 (some .boolean) (k2_rm 0 0) [.ref (ad 1), .int a0] (ccells g ad w) (ccells g ad w) (some (.int rr)) := by
  refine MetN.of2 [(0, .ref (ad 1)), (1, .int a0)] rfl (by decide +kernel) (Nat.le_of_ble_eq_true rfl) ?_
  intro p e s m args below meth c hG hr
  unfold X6_isGone at hf
  refine v_aload_n hG 0 rfl rfl dX6_isGone_0 ?_
  refine c_g_1_4 hG wk_137 dX6_isGone_1 ?_
  refine v_iload_n hG 1 rfl rfl dX6_isGone_4 ?_
  refine c_l_6 hG dX6_isGone_5 hf (fun hf => ?_)
  refine v_iconst hG (v := -1) (by decide) dX6_isGone_6 ?_
  refine v_icmp_ne hG 14 dX6_isGone_7 rfl hf (fun hf => ?_) (fun hf => ?_)
  · refine v_iconst hG (v := 0) (by decide) dX6_isGone_14 ?_
    cases hf
    exact v_zret (x := 0) hG hr rfl dX6_isGone_15
  · refine v_iconst hG (v := 1) (by decide) dX6_isGone_10 ?_
    refine v_goto hG 15 dX6_isGone_11 rfl ?_
    cases hf
    exact v_zret (x := 1) hG hr rfl dX6_isGone_15
set_option maxRecDepth 100000 in
set_option maxHeartbeats 4000000 in
theorem ct_X6_isGone_s (l : Launch) (g : wG) (ad : Nat → Nat) (w : CW) (a0 : Int32) (rr : Int32) (hf : X6_isGone (gC_tab w) a0 = some rr) : MetN l g yX6_isGone cX6_isGone 2 (some .boolean) (k2_rm 0 0) [.ref (ad 22), .int a0] (ccells g ad w) (ccells g ad w) (some (.int rr)) := by
  refine MetN.of2 [(0, .ref (ad 22)), (1, .int a0)] rfl (by decide +kernel) (Nat.le_of_ble_eq_true rfl) ?_
  intro p e s m args below meth c hG hr
  unfold X6_isGone at hf
  refine v_aload_n hG 0 rfl rfl dX6_isGone_0 ?_
  refine c_g_22_4 hG wk_137 dX6_isGone_1 ?_
  refine v_iload_n hG 1 rfl rfl dX6_isGone_4 ?_
  refine c_l_27 hG dX6_isGone_5 hf (fun hf => ?_)
  refine v_iconst hG (v := -1) (by decide) dX6_isGone_6 ?_
  refine v_icmp_ne hG 14 dX6_isGone_7 rfl hf (fun hf => ?_) (fun hf => ?_)
  · refine v_iconst hG (v := 0) (by decide) dX6_isGone_14 ?_
    cases hf
    exact v_zret (x := 0) hG hr rfl dX6_isGone_15
  · refine v_iconst hG (v := 1) (by decide) dX6_isGone_10 ?_
    refine v_goto hG 15 dX6_isGone_11 rfl ?_
    cases hf
    exact v_zret (x := 1) hG hr rfl dX6_isGone_15
def X6_allRows (t : cT) : Option (Int32) := (some ((1 <<< ((gT_rows t) &&& 31)) - 1))
set_option maxRecDepth 100000 in
set_option maxHeartbeats 4000000 in
theorem ct_X6_allRows_w (l : Launch) (g : wG) (ad : Nat → Nat) (w : CW)  (rr : Int32) (hf : X6_allRows (gC_whole w) = some rr) : MetN l g yX6_allRows cX6_allRows 1 (some .int) (k2_rm 0 0) [.ref (ad 1)] (ccells g ad w) (ccells g ad w) (some (.int rr)) := by
  refine MetN.of2 [(0, .ref (ad 1))] rfl (by decide +kernel) (Nat.le_of_ble_eq_true rfl) ?_
  intro p e s m args below meth c hG hr
  unfold X6_allRows at hf
  refine v_iconst hG (v := 1) (by decide) dX6_allRows_0 ?_
  refine v_aload_n hG 0 rfl rfl dX6_allRows_1 ?_
  refine c_g_1_8 hG wk_167 dX6_allRows_2 ?_
  refine v_ishl hG dX6_allRows_5 ?_
  refine v_iconst hG (v := 1) (by decide) dX6_allRows_6 ?_
  refine v_isub hG dX6_allRows_7 ?_
  cases hf
  exact v_iret hG hr dX6_allRows_8
set_option maxRecDepth 100000 in
set_option maxHeartbeats 4000000 in
theorem ct_X6_allRows_s (l : Launch) (g : wG) (ad : Nat → Nat) (w : CW)  (rr : Int32) (hf : X6_allRows (gC_tab w) = some rr) : MetN l g yX6_allRows cX6_allRows 1 (some .int) (k2_rm 0 0) [.ref (ad 22)] (ccells g ad w) (ccells g ad w) (some (.int rr)) := by
  refine MetN.of2 [(0, .ref (ad 22))] rfl (by decide +kernel) (Nat.le_of_ble_eq_true rfl) ?_
  intro p e s m args below meth c hG hr
  unfold X6_allRows at hf
  refine v_iconst hG (v := 1) (by decide) dX6_allRows_0 ?_
  refine v_aload_n hG 0 rfl rfl dX6_allRows_1 ?_
  refine c_g_22_8 hG wk_167 dX6_allRows_2 ?_
  refine v_ishl hG dX6_allRows_5 ?_
  refine v_iconst hG (v := 1) (by decide) dX6_allRows_6 ?_
  refine v_isub hG dX6_allRows_7 ?_
  cases hf
  exact v_iret hG hr dX6_allRows_8
def X6_makeEmpty_L20 (s12 : CW × Int32) (s20 : CW × Int32) : Option ((CW × Int32) ⊕ ((CW))) := (if 12 ≤ s20.2 then (some (.inr s20.1)) else (if inR s12.2 12 = true then (if inR s20.2 12 = true then (bnd (sC_whole s20.1 (sT_a (gC_whole s20.1) (va_up (gT_a (gC_whole s20.1)) s12.2.toNatClampNeg (vp_updL ((gT_a (gC_whole s20.1)) s12.2.toNatClampNeg) s20.2.toNatClampNeg 0)))) (fun w34 : CW => (some (.inl (w34, (s20.2 + 1)))))) else none) else none))
def X6_makeEmpty_L12  (s12 : CW × Int32) : Option ((CW × Int32) ⊕ ((CW))) := (if 12 ≤ s12.2 then (some (.inr s12.1)) else ((iter (X6_makeEmpty_L20 s12) 5000 (s12.1, 0)).bind (fun z20 : (CW) => (some (.inl (z20, (s12.2 + 1)))))))
def X6_makeEmpty (w : CW) : Option (CW) := (bnd (sC_whole w (sT_columns (gC_whole w) 0)) (fun w2 : CW => (bnd (sC_whole w2 (sT_rows (gC_whole w2) 0)) (fun w7 : CW => ((iter (X6_makeEmpty_L12) 5000 (w7, 0)).bind (fun z12 : (CW) => (some z12)))))))
set_option maxRecDepth 100000 in
set_option maxHeartbeats 4000000 in
theorem ct_X6_makeEmpty (l : Launch) (g : wG) (ad : Nat → Nat) (w : CW)  (rr : CW) (hf : X6_makeEmpty w = some rr) : MetN l g yX6_makeEmpty cX6_makeEmpty 3 none (k2_rm 0 0) [.ref (ad 1)] (ccells g ad w) (ccells g ad rr) none := by
  refine MetN.of2 [(0, .ref (ad 1))] rfl (by decide +kernel) (Nat.le_of_ble_eq_true rfl) ?_
  intro p e s m args below meth c hG hr
  unfold X6_makeEmpty at hf
  refine v_aload_n hG 0 rfl rfl dX6_makeEmpty_0 ?_
  refine v_iconst hG (v := 0) (by decide) dX6_makeEmpty_1 ?_
  refine c_p_1_7 hG wk_160 dX6_makeEmpty_2 hf (fun w2 hf => ?_)
  refine v_aload_n hG 0 rfl rfl dX6_makeEmpty_5 ?_
  refine v_iconst hG (v := 0) (by decide) dX6_makeEmpty_6 ?_
  refine c_p_1_8 hG wk_167 dX6_makeEmpty_7 hf (fun w7 hf => ?_)
  refine v_iconst hG (v := 0) (by decide) dX6_makeEmpty_10 ?_
  refine v_istore_n hG [(1, _), (0, _)] dX6_makeEmpty_11 rfl (by decide) rfl ?_
  refine v_sub [(0, _), (1, _)] [1, 0] rfl ?_
  obtain ⟨z12, hlz12, hf⟩ := bd_some hf
  refine loop_v (step := X6_makeEmpty_L12) (fun s12 : CW × Int32 => V p l e (k2_rm 0 0) s m args below meth c (inW (ccells g ad w)) (EN below args s g (ccells g ad w) (ccells g ad rr) none) g 3 (ccells g ad s12.1) 0 0 12 [(0, .ref (ad 1)), (1, .int s12.2)] []) (fun z12_q : (CW) => V p l e (k2_rm 0 0) s m args below meth c (inW (ccells g ad w)) (EN below args s g (ccells g ad w) (ccells g ad rr) none) g 3 (ccells g ad z12_q) 0 0 47 [] []) ?_ 5000 (w7, 0) z12 hlz12 ?_
  · intro s12 rL hf hin hout
    unfold X6_makeEmpty_L12 at hf
    refine v_iload_n hG 1 rfl rfl dX6_makeEmpty_12 ?_
    refine v_bipush hG (v := 12) (by decide) dX6_makeEmpty_13 ?_
    refine v_icmp_ge hG 47 dX6_makeEmpty_15 rfl hf (fun hf => ?_) (fun hf => ?_)
    · refine v_sub [] [] rfl ?_
      exact hout _ (Option.some.inj hf).symm
    · refine v_iconst hG (v := 0) (by decide) dX6_makeEmpty_18 ?_
      refine v_istore_n hG [(2, _), (0, _), (1, _)] dX6_makeEmpty_19 rfl (by decide) rfl ?_
      refine v_sub [(0, _), (1, _), (2, _)] [1, 2, 0] rfl ?_
      obtain ⟨z20, hlz20, hf⟩ := bd_some hf
      refine loop_v (step := X6_makeEmpty_L20 s12) (fun s20 : CW × Int32 => V p l e (k2_rm 0 0) s m args below meth c (inW (ccells g ad w)) (EN below args s g (ccells g ad w) (ccells g ad rr) none) g 3 (ccells g ad s20.1) 0 0 20 [(0, .ref (ad 1)), (1, .int s12.2), (2, .int s20.2)] []) (fun z20_q : (CW) => V p l e (k2_rm 0 0) s m args below meth c (inW (ccells g ad w)) (EN below args s g (ccells g ad w) (ccells g ad rr) none) g 3 (ccells g ad z20_q) 0 0 41 [(0, .ref (ad 1)), (1, .int s12.2)] []) ?_ 5000 (s12.1, 0) z20 hlz20 ?_
      · intro s20 rL hf hin hout
        unfold X6_makeEmpty_L20 at hf
        refine v_iload_n hG 2 rfl rfl dX6_makeEmpty_20 ?_
        refine v_bipush hG (v := 12) (by decide) dX6_makeEmpty_21 ?_
        refine v_icmp_ge hG 41 dX6_makeEmpty_23 rfl hf (fun hf => ?_) (fun hf => ?_)
        · refine v_sub [(0, _), (1, _)] [0, 1] rfl ?_
          exact hout _ (Option.some.inj hf).symm
        · refine v_aload_n hG 0 rfl rfl dX6_makeEmpty_26 ?_
          refine c_g_1_6 hG wk_148 dX6_makeEmpty_27 ?_
          refine v_iload_n hG 1 rfl rfl dX6_makeEmpty_30 ?_
          refine c_o_8 hG dX6_makeEmpty_31 hf (fun hi31 hf => ?_)
          refine v_iload_n hG 2 rfl rfl dX6_makeEmpty_32 ?_
          refine v_lconst hG (v := 0) (by decide) dX6_makeEmpty_33 ?_
          refine c_rs_8 hG hi31 dX6_makeEmpty_34 hf (fun w34 hf => ?_)
          refine v_iinc hG 2 (v := s20.2 + 1) [(2, _), (0, _), (1, _)] dX6_makeEmpty_35 rfl rfl (by decide) rfl ?_
          refine v_goto hG 20 dX6_makeEmpty_38 rfl ?_
          refine v_sub [(0, _), (1, _), (2, _)] [1, 2, 0] rfl ?_
          exact hin _ (Option.some.inj hf).symm
      · show V p l e (k2_rm 0 0) s m args below meth c (inW (ccells g ad w)) (EN below args s g (ccells g ad w) (ccells g ad rr) none) g 3 (ccells g ad z20) 0 0 41 [(0, .ref (ad 1)), (1, .int s12.2)] []
        refine v_iinc hG 1 (v := s12.2 + 1) [(1, _), (0, _)] dX6_makeEmpty_41 rfl rfl (by decide) rfl ?_
        refine v_goto hG 12 dX6_makeEmpty_44 rfl ?_
        refine v_sub [(0, _), (1, _)] [1, 0] rfl ?_
        exact hin _ (Option.some.inj hf).symm
  · show V p l e (k2_rm 0 0) s m args below meth c (inW (ccells g ad w)) (EN below args s g (ccells g ad w) (ccells g ad rr) none) g 3 (ccells g ad z12) 0 0 47 [] []
    cases hf
    exact v_vret hG hr dX6_makeEmpty_47
def X6_copyFrom_L108  (s108 : CW × Int32) : Option ((CW × Int32) ⊕ ((CW))) := (if 12 ≤ s108.2 then (some (.inr s108.1)) else (if inR s108.2 12 = true then (if inR s108.2 12 = true then (bnd (sC_tab s108.1 (sT_a (gC_tab s108.1) (va_up (gT_a (gC_tab s108.1)) s108.2.toNatClampNeg (va_cpy ((gT_a (gC_whole s108.1)) s108.2.toNatClampNeg) ((gT_a (gC_tab s108.1)) s108.2.toNatClampNeg) 0 0 12)))) (fun w130 : CW => (some (.inl (w130, (s108.2 + 1)))))) else none) else none))
def X6_copyFrom (w : CW) : Option (CW) := (bnd (sC_tab w (sT_columns (gC_tab w) (gT_columns (gC_whole w)))) (fun w5 : CW => (bnd (sC_tab w5 (sT_rows (gC_tab w5) (gT_rows (gC_whole w5)))) (fun w13 : CW => (bnd (sC_tab w13 (sT_low (gC_tab w13) (va_cpy (gT_low (gC_whole w13)) (gT_low (gC_tab w13)) 0 0 12))) (fun w28 : CW => (bnd (sC_tab w28 (sT_high (gC_tab w28) (va_cpy (gT_high (gC_whole w28)) (gT_high (gC_tab w28)) 0 0 12))) (fun w43 : CW => (bnd (sC_tab w43 (sT_cost (gC_tab w43) (va_cpy (gT_cost (gC_whole w43)) (gT_cost (gC_tab w43)) 0 0 12))) (fun w58 : CW => (bnd (sC_tab w58 (sT_state (gC_tab w58) (va_cpy (gT_state (gC_whole w58)) (gT_state (gC_tab w58)) 0 0 12))) (fun w73 : CW => (bnd (sC_tab w73 (sT_kind (gC_tab w73) (va_cpy (gT_kind (gC_whole w73)) (gT_kind (gC_tab w73)) 0 0 12))) (fun w88 : CW => (bnd (sC_tab w88 (sT_right (gC_tab w88) (va_cpy (gT_right (gC_whole w88)) (gT_right (gC_tab w88)) 0 0 12))) (fun w103 : CW => ((iter (X6_copyFrom_L108) 5000 (w103, 0)).bind (fun z108 : (CW) => (some z108)))))))))))))))))))
set_option maxRecDepth 100000 in
set_option maxHeartbeats 4000000 in
theorem ct_X6_copyFrom (l : Launch) (g : wG) (ad : Nat → Nat) (w : CW)  (rr : CW) (hf : X6_copyFrom w = some rr) : MetN l g yX6_copyFrom cX6_copyFrom 3 none (k2_rm 1 60) [.ref (ad 22), .ref (ad 1)] (ccells g ad w) (ccells g ad rr) none := by
  refine MetN.of2 [(0, .ref (ad 22)), (1, .ref (ad 1))] rfl (by decide +kernel) (Nat.le_of_ble_eq_true rfl) ?_
  intro p e s m args below meth c hG hr
  unfold X6_copyFrom at hf
  refine v_aload_n hG 0 rfl rfl dX6_copyFrom_0 ?_
  refine v_aload_n hG 1 rfl rfl dX6_copyFrom_1 ?_
  refine c_g_1_7 hG wk_160 dX6_copyFrom_2 ?_
  refine c_p_22_7 hG wk_160 dX6_copyFrom_5 hf (fun w5 hf => ?_)
  refine v_aload_n hG 0 rfl rfl dX6_copyFrom_8 ?_
  refine v_aload_n hG 1 rfl rfl dX6_copyFrom_9 ?_
  refine c_g_1_8 hG wk_167 dX6_copyFrom_10 ?_
  refine c_p_22_8 hG wk_167 dX6_copyFrom_13 hf (fun w13 hf => ?_)
  refine v_aload_n hG 1 rfl rfl dX6_copyFrom_16 ?_
  refine c_g_1_0 hG wk_115 dX6_copyFrom_17 ?_
  refine v_iconst hG (v := 0) (by decide) dX6_copyFrom_20 ?_
  refine v_aload_n hG 0 rfl rfl dX6_copyFrom_21 ?_
  refine c_g_22_0 hG wk_115 dX6_copyFrom_22 ?_
  refine v_iconst hG (v := 0) (by decide) dX6_copyFrom_25 ?_
  refine v_bipush hG (v := 12) (by decide) dX6_copyFrom_26 ?_
  refine v_copyl hG 2 23 (ccells g ad (sC_tab w13 (sT_low (gC_tab w13) (va_cpy (gT_low (gC_whole w13)) (gT_low (gC_tab w13)) 0 0 12)))) rfl rfl rfl wk_575 wk_acn wk_acs wk_aci ⟨Nat.le_of_ble_eq_true rfl, Nat.le_of_ble_eq_true rfl⟩ dX6_copyFrom_28 ?_
  refine bnd_in (fun w28 : CW => V p l e (k2_rm 1 60) s m args below meth c (inW (ccells g ad w)) (EN below args s g (ccells g ad w) (ccells g ad rr) none) g 3 (ccells g ad w28) 0 0 31 [(0, .ref (ad 22)), (1, .ref (ad 1))] []) hf (fun w28 hf => ?_)
  refine v_aload_n hG 1 rfl rfl dX6_copyFrom_31 ?_
  refine c_g_1_1 hG wk_122 dX6_copyFrom_32 ?_
  refine v_iconst hG (v := 0) (by decide) dX6_copyFrom_35 ?_
  refine v_aload_n hG 0 rfl rfl dX6_copyFrom_36 ?_
  refine c_g_22_1 hG wk_122 dX6_copyFrom_37 ?_
  refine v_iconst hG (v := 0) (by decide) dX6_copyFrom_40 ?_
  refine v_bipush hG (v := 12) (by decide) dX6_copyFrom_41 ?_
  refine v_copyl hG 3 24 (ccells g ad (sC_tab w28 (sT_high (gC_tab w28) (va_cpy (gT_high (gC_whole w28)) (gT_high (gC_tab w28)) 0 0 12)))) rfl rfl rfl wk_575 wk_acn wk_acs wk_aci ⟨Nat.le_of_ble_eq_true rfl, Nat.le_of_ble_eq_true rfl⟩ dX6_copyFrom_43 ?_
  refine bnd_in (fun w43 : CW => V p l e (k2_rm 1 60) s m args below meth c (inW (ccells g ad w)) (EN below args s g (ccells g ad w) (ccells g ad rr) none) g 3 (ccells g ad w43) 0 0 46 [(0, .ref (ad 22)), (1, .ref (ad 1))] []) hf (fun w43 hf => ?_)
  refine v_aload_n hG 1 rfl rfl dX6_copyFrom_46 ?_
  refine c_g_1_2 hG wk_129 dX6_copyFrom_47 ?_
  refine v_iconst hG (v := 0) (by decide) dX6_copyFrom_50 ?_
  refine v_aload_n hG 0 rfl rfl dX6_copyFrom_51 ?_
  refine c_g_22_2 hG wk_129 dX6_copyFrom_52 ?_
  refine v_iconst hG (v := 0) (by decide) dX6_copyFrom_55 ?_
  refine v_bipush hG (v := 12) (by decide) dX6_copyFrom_56 ?_
  refine v_copyl hG 4 25 (ccells g ad (sC_tab w43 (sT_cost (gC_tab w43) (va_cpy (gT_cost (gC_whole w43)) (gT_cost (gC_tab w43)) 0 0 12)))) rfl rfl rfl wk_575 wk_acn wk_acs wk_aci ⟨Nat.le_of_ble_eq_true rfl, Nat.le_of_ble_eq_true rfl⟩ dX6_copyFrom_58 ?_
  refine bnd_in (fun w58 : CW => V p l e (k2_rm 1 60) s m args below meth c (inW (ccells g ad w)) (EN below args s g (ccells g ad w) (ccells g ad rr) none) g 3 (ccells g ad w58) 0 0 61 [(0, .ref (ad 22)), (1, .ref (ad 1))] []) hf (fun w58 hf => ?_)
  refine v_aload_n hG 1 rfl rfl dX6_copyFrom_61 ?_
  refine c_g_1_3 hG wk_134 dX6_copyFrom_62 ?_
  refine v_iconst hG (v := 0) (by decide) dX6_copyFrom_65 ?_
  refine v_aload_n hG 0 rfl rfl dX6_copyFrom_66 ?_
  refine c_g_22_3 hG wk_134 dX6_copyFrom_67 ?_
  refine v_iconst hG (v := 0) (by decide) dX6_copyFrom_70 ?_
  refine v_bipush hG (v := 12) (by decide) dX6_copyFrom_71 ?_
  refine v_copyi hG 5 26 (ccells g ad (sC_tab w58 (sT_state (gC_tab w58) (va_cpy (gT_state (gC_whole w58)) (gT_state (gC_tab w58)) 0 0 12)))) rfl rfl rfl wk_575 wk_acn wk_acs wk_aci ⟨Nat.le_of_ble_eq_true rfl, Nat.le_of_ble_eq_true rfl⟩ dX6_copyFrom_73 ?_
  refine bnd_in (fun w73 : CW => V p l e (k2_rm 1 60) s m args below meth c (inW (ccells g ad w)) (EN below args s g (ccells g ad w) (ccells g ad rr) none) g 3 (ccells g ad w73) 0 0 76 [(0, .ref (ad 22)), (1, .ref (ad 1))] []) hf (fun w73 hf => ?_)
  refine v_aload_n hG 1 rfl rfl dX6_copyFrom_76 ?_
  refine c_g_1_4 hG wk_137 dX6_copyFrom_77 ?_
  refine v_iconst hG (v := 0) (by decide) dX6_copyFrom_80 ?_
  refine v_aload_n hG 0 rfl rfl dX6_copyFrom_81 ?_
  refine c_g_22_4 hG wk_137 dX6_copyFrom_82 ?_
  refine v_iconst hG (v := 0) (by decide) dX6_copyFrom_85 ?_
  refine v_bipush hG (v := 12) (by decide) dX6_copyFrom_86 ?_
  refine v_copyi hG 6 27 (ccells g ad (sC_tab w73 (sT_kind (gC_tab w73) (va_cpy (gT_kind (gC_whole w73)) (gT_kind (gC_tab w73)) 0 0 12)))) rfl rfl rfl wk_575 wk_acn wk_acs wk_aci ⟨Nat.le_of_ble_eq_true rfl, Nat.le_of_ble_eq_true rfl⟩ dX6_copyFrom_88 ?_
  refine bnd_in (fun w88 : CW => V p l e (k2_rm 1 60) s m args below meth c (inW (ccells g ad w)) (EN below args s g (ccells g ad w) (ccells g ad rr) none) g 3 (ccells g ad w88) 0 0 91 [(0, .ref (ad 22)), (1, .ref (ad 1))] []) hf (fun w88 hf => ?_)
  refine v_aload_n hG 1 rfl rfl dX6_copyFrom_91 ?_
  refine c_g_1_5 hG wk_142 dX6_copyFrom_92 ?_
  refine v_iconst hG (v := 0) (by decide) dX6_copyFrom_95 ?_
  refine v_aload_n hG 0 rfl rfl dX6_copyFrom_96 ?_
  refine c_g_22_5 hG wk_142 dX6_copyFrom_97 ?_
  refine v_iconst hG (v := 0) (by decide) dX6_copyFrom_100 ?_
  refine v_bipush hG (v := 12) (by decide) dX6_copyFrom_101 ?_
  refine v_copyl hG 7 28 (ccells g ad (sC_tab w88 (sT_right (gC_tab w88) (va_cpy (gT_right (gC_whole w88)) (gT_right (gC_tab w88)) 0 0 12)))) rfl rfl rfl wk_575 wk_acn wk_acs wk_aci ⟨Nat.le_of_ble_eq_true rfl, Nat.le_of_ble_eq_true rfl⟩ dX6_copyFrom_103 ?_
  refine bnd_in (fun w103 : CW => V p l e (k2_rm 1 60) s m args below meth c (inW (ccells g ad w)) (EN below args s g (ccells g ad w) (ccells g ad rr) none) g 3 (ccells g ad w103) 0 0 106 [(0, .ref (ad 22)), (1, .ref (ad 1))] []) hf (fun w103 hf => ?_)
  refine v_iconst hG (v := 0) (by decide) dX6_copyFrom_106 ?_
  refine v_istore_n hG [(2, _), (0, _), (1, _)] dX6_copyFrom_107 rfl (by decide) rfl ?_
  refine v_sub [(0, _), (1, _), (2, _)] [1, 2, 0] rfl ?_
  obtain ⟨z108, hlz108, hf⟩ := bd_some hf
  refine loop_v (step := X6_copyFrom_L108) (fun s108 : CW × Int32 => V p l e (k2_rm 1 60) s m args below meth c (inW (ccells g ad w)) (EN below args s g (ccells g ad w) (ccells g ad rr) none) g 3 (ccells g ad s108.1) 0 0 108 [(0, .ref (ad 22)), (1, .ref (ad 1)), (2, .int s108.2)] []) (fun z108_q : (CW) => V p l e (k2_rm 1 60) s m args below meth c (inW (ccells g ad w)) (EN below args s g (ccells g ad w) (ccells g ad rr) none) g 3 (ccells g ad z108_q) 0 0 139 [] []) ?_ 5000 (w103, 0) z108 hlz108 ?_
  · intro s108 rL hf hin hout
    unfold X6_copyFrom_L108 at hf
    refine v_iload_n hG 2 rfl rfl dX6_copyFrom_108 ?_
    refine v_bipush hG (v := 12) (by decide) dX6_copyFrom_109 ?_
    refine v_icmp_ge hG 139 dX6_copyFrom_111 rfl hf (fun hf => ?_) (fun hf => ?_)
    · refine v_sub [] [] rfl ?_
      exact hout _ (Option.some.inj hf).symm
    · refine v_aload_n hG 1 rfl rfl dX6_copyFrom_114 ?_
      refine c_g_1_6 hG wk_148 dX6_copyFrom_115 ?_
      refine v_iload_n hG 2 rfl rfl dX6_copyFrom_118 ?_
      refine c_o_8 hG dX6_copyFrom_119 hf (fun hi119 hf => ?_)
      refine v_iconst hG (v := 0) (by decide) dX6_copyFrom_120 ?_
      refine v_aload_n hG 0 rfl rfl dX6_copyFrom_121 ?_
      refine c_g_22_6 hG wk_148 dX6_copyFrom_122 ?_
      refine v_iload_n hG 2 rfl rfl dX6_copyFrom_125 ?_
      refine c_o_29 hG dX6_copyFrom_126 hf (fun hi126 hf => ?_)
      refine v_iconst hG (v := 0) (by decide) dX6_copyFrom_127 ?_
      refine v_bipush hG (v := 12) (by decide) dX6_copyFrom_128 ?_
      refine c_copyrow hG hi119 wk_575 wk_acn wk_acs wk_aci ⟨Nat.le_of_ble_eq_true rfl, Nat.le_of_ble_eq_true rfl⟩ dX6_copyFrom_130 hf (fun w130 hf => ?_)
      refine v_iinc hG 2 (v := s108.2 + 1) [(2, _), (0, _), (1, _)] dX6_copyFrom_133 rfl rfl (by decide) rfl ?_
      refine v_goto hG 108 dX6_copyFrom_136 rfl ?_
      refine v_sub [(0, _), (1, _), (2, _)] [1, 2, 0] rfl ?_
      exact hin _ (Option.some.inj hf).symm
  · show V p l e (k2_rm 1 60) s m args below meth c (inW (ccells g ad w)) (EN below args s g (ccells g ad w) (ccells g ad rr) none) g 3 (ccells g ad z108) 0 0 139 [] []
    cases hf
    exact v_vret hG hr dX6_copyFrom_139
def X6_nextTerm_L2 (t : cT) (a0 : Int32) (s2 : Int32) : Option ((Int32) ⊕ ((Int32) ⊕ (Unit))) := (if (gT_columns t) ≤ s2 then (some (.inr (.inr ()))) else (if inR a0 12 = true then (if inR s2 12 = true then (if ((gT_a t) a0.toNatClampNeg s2.toNatClampNeg) = 0 then (some (.inl (s2 + 1))) else (some (.inr (.inl s2)))) else none) else none))
def X6_nextTerm (t : cT) (a0 : Int32) (a1 : Int32) : Option (Int32) := ((iter (X6_nextTerm_L2 t a0) 5000 a1).bind (fun z2 : (Int32) ⊕ (Unit) => (Sum.elim (fun z2_0 : Int32 => (some z2_0)) (fun z2_r0 : (Unit) => (some (-1))) z2)))
set_option maxRecDepth 100000 in
set_option maxHeartbeats 4000000 in
theorem ct_X6_nextTerm_w (l : Launch) (g : wG) (ad : Nat → Nat) (w : CW) (a0 : Int32) (a1 : Int32) (rr : Int32) (hf : X6_nextTerm (gC_whole w) a0 a1 = some rr) : MetN l g yX6_nextTerm cX6_nextTerm 4 (some .int) (k2_rm 0 0) [.ref (ad 1), .int a0, .int a1] (ccells g ad w) (ccells g ad w) (some (.int rr)) := by
  refine MetN.of2 [(0, .ref (ad 1)), (1, .int a0), (2, .int a1)] rfl (by decide +kernel) (Nat.le_of_ble_eq_true rfl) ?_
  intro p e s m args below meth c hG hr
  unfold X6_nextTerm at hf
  refine v_iload_n hG 2 rfl rfl dX6_nextTerm_0 ?_
  refine v_istore_n hG [(3, _), (0, _), (1, _), (2, _)] dX6_nextTerm_1 rfl (by decide) rfl ?_
  refine v_sub [(0, _), (1, _), (3, _)] [1, 2, 0] rfl ?_
  obtain ⟨z2, hlz2, hf⟩ := bd_some hf
  refine loop_v (step := X6_nextTerm_L2 (gC_whole w) a0) (fun s2 : Int32 => V p l e (k2_rm 0 0) s m args below meth c (inW (ccells g ad w)) (EN below args s g (ccells g ad w) (ccells g ad w) (some (.int rr))) g 4 (ccells g ad w) 0 0 2 [(0, .ref (ad 1)), (1, .int a0), (3, .int s2)] []) (fun z2_q : (Int32) ⊕ (Unit) => Sum.elim (fun z2_0 : Int32 => V p l e (k2_rm 0 0) s m args below meth c (inW (ccells g ad w)) (EN below args s g (ccells g ad w) (ccells g ad w) (some (.int rr))) g 4 (ccells g ad w) 0 0 23 [(3, .int z2_0)] []) (fun z2_r0 : (Unit) => V p l e (k2_rm 0 0) s m args below meth c (inW (ccells g ad w)) (EN below args s g (ccells g ad w) (ccells g ad w) (some (.int rr))) g 4 (ccells g ad w) 0 0 31 [] []) z2_q) ?_ 5000 a1 z2 hlz2 ?_
  · intro s2 rL hf hin hout
    unfold X6_nextTerm_L2 at hf
    refine v_iload_n hG 2 rfl rfl dX6_nextTerm_2 ?_
    refine v_aload_n hG 0 rfl rfl dX6_nextTerm_3 ?_
    refine c_g_1_7 hG wk_160 dX6_nextTerm_4 ?_
    refine v_icmp_ge hG 31 dX6_nextTerm_7 rfl hf (fun hf => ?_) (fun hf => ?_)
    · refine v_sub [] [] rfl ?_
      exact hout _ (Option.some.inj hf).symm
    · refine v_aload_n hG 0 rfl rfl dX6_nextTerm_10 ?_
      refine c_g_1_6 hG wk_148 dX6_nextTerm_11 ?_
      refine v_iload_n hG 1 rfl rfl dX6_nextTerm_14 ?_
      refine c_o_8 hG dX6_nextTerm_15 hf (fun hi15 hf => ?_)
      refine v_iload_n hG 2 rfl rfl dX6_nextTerm_16 ?_
      refine c_rl_8 hG hi15 dX6_nextTerm_17 hf (fun hf => ?_)
      refine v_lconst hG (v := 0) (by decide) dX6_nextTerm_18 ?_
      refine v_lcmp_eq hG 25 dX6_nextTerm_19 dX6_nextTerm_20 rfl hf (fun hf => ?_) (fun hf => ?_)
      · refine v_iinc hG 2 (v := s2 + 1) [(3, _), (0, _), (1, _)] dX6_nextTerm_25 rfl rfl (by decide) rfl ?_
        refine v_goto hG 2 dX6_nextTerm_28 rfl ?_
        refine v_sub [(0, _), (1, _), (3, _)] [1, 2, 0] rfl ?_
        exact hin _ (Option.some.inj hf).symm
      · refine v_sub [(3, _)] [2] rfl ?_
        exact hout _ (Option.some.inj hf).symm
  · rcases z2 with z2_x0 | z2_x0
    · simp only [Sum.elim_inl] at hf
      show V p l e (k2_rm 0 0) s m args below meth c (inW (ccells g ad w)) (EN below args s g (ccells g ad w) (ccells g ad w) (some (.int rr))) g 4 (ccells g ad w) 0 0 23 [(3, .int z2_x0)] []
      refine v_iload_n hG 0 rfl rfl dX6_nextTerm_23 ?_
      cases hf
      exact v_iret hG hr dX6_nextTerm_24
    · simp only [Sum.elim_inr] at hf
      show V p l e (k2_rm 0 0) s m args below meth c (inW (ccells g ad w)) (EN below args s g (ccells g ad w) (ccells g ad w) (some (.int rr))) g 4 (ccells g ad w) 0 0 31 [] []
      refine v_iconst hG (v := -1) (by decide) dX6_nextTerm_31 ?_
      cases hf
      exact v_iret hG hr dX6_nextTerm_32
set_option maxRecDepth 100000 in
set_option maxHeartbeats 4000000 in
theorem ct_X6_nextTerm_s (l : Launch) (g : wG) (ad : Nat → Nat) (w : CW) (a0 : Int32) (a1 : Int32) (rr : Int32) (hf : X6_nextTerm (gC_tab w) a0 a1 = some rr) : MetN l g yX6_nextTerm cX6_nextTerm 4 (some .int) (k2_rm 0 0) [.ref (ad 22), .int a0, .int a1] (ccells g ad w) (ccells g ad w) (some (.int rr)) := by
  refine MetN.of2 [(0, .ref (ad 22)), (1, .int a0), (2, .int a1)] rfl (by decide +kernel) (Nat.le_of_ble_eq_true rfl) ?_
  intro p e s m args below meth c hG hr
  unfold X6_nextTerm at hf
  refine v_iload_n hG 2 rfl rfl dX6_nextTerm_0 ?_
  refine v_istore_n hG [(3, _), (0, _), (1, _), (2, _)] dX6_nextTerm_1 rfl (by decide) rfl ?_
  refine v_sub [(0, _), (1, _), (3, _)] [1, 2, 0] rfl ?_
  obtain ⟨z2, hlz2, hf⟩ := bd_some hf
  refine loop_v (step := X6_nextTerm_L2 (gC_tab w) a0) (fun s2 : Int32 => V p l e (k2_rm 0 0) s m args below meth c (inW (ccells g ad w)) (EN below args s g (ccells g ad w) (ccells g ad w) (some (.int rr))) g 4 (ccells g ad w) 0 0 2 [(0, .ref (ad 22)), (1, .int a0), (3, .int s2)] []) (fun z2_q : (Int32) ⊕ (Unit) => Sum.elim (fun z2_0 : Int32 => V p l e (k2_rm 0 0) s m args below meth c (inW (ccells g ad w)) (EN below args s g (ccells g ad w) (ccells g ad w) (some (.int rr))) g 4 (ccells g ad w) 0 0 23 [(3, .int z2_0)] []) (fun z2_r0 : (Unit) => V p l e (k2_rm 0 0) s m args below meth c (inW (ccells g ad w)) (EN below args s g (ccells g ad w) (ccells g ad w) (some (.int rr))) g 4 (ccells g ad w) 0 0 31 [] []) z2_q) ?_ 5000 a1 z2 hlz2 ?_
  · intro s2 rL hf hin hout
    unfold X6_nextTerm_L2 at hf
    refine v_iload_n hG 2 rfl rfl dX6_nextTerm_2 ?_
    refine v_aload_n hG 0 rfl rfl dX6_nextTerm_3 ?_
    refine c_g_22_7 hG wk_160 dX6_nextTerm_4 ?_
    refine v_icmp_ge hG 31 dX6_nextTerm_7 rfl hf (fun hf => ?_) (fun hf => ?_)
    · refine v_sub [] [] rfl ?_
      exact hout _ (Option.some.inj hf).symm
    · refine v_aload_n hG 0 rfl rfl dX6_nextTerm_10 ?_
      refine c_g_22_6 hG wk_148 dX6_nextTerm_11 ?_
      refine v_iload_n hG 1 rfl rfl dX6_nextTerm_14 ?_
      refine c_o_29 hG dX6_nextTerm_15 hf (fun hi15 hf => ?_)
      refine v_iload_n hG 2 rfl rfl dX6_nextTerm_16 ?_
      refine c_rl_29 hG hi15 dX6_nextTerm_17 hf (fun hf => ?_)
      refine v_lconst hG (v := 0) (by decide) dX6_nextTerm_18 ?_
      refine v_lcmp_eq hG 25 dX6_nextTerm_19 dX6_nextTerm_20 rfl hf (fun hf => ?_) (fun hf => ?_)
      · refine v_iinc hG 2 (v := s2 + 1) [(3, _), (0, _), (1, _)] dX6_nextTerm_25 rfl rfl (by decide) rfl ?_
        refine v_goto hG 2 dX6_nextTerm_28 rfl ?_
        refine v_sub [(0, _), (1, _), (3, _)] [1, 2, 0] rfl ?_
        exact hin _ (Option.some.inj hf).symm
      · refine v_sub [(3, _)] [2] rfl ?_
        exact hout _ (Option.some.inj hf).symm
  · rcases z2 with z2_x0 | z2_x0
    · simp only [Sum.elim_inl] at hf
      show V p l e (k2_rm 0 0) s m args below meth c (inW (ccells g ad w)) (EN below args s g (ccells g ad w) (ccells g ad w) (some (.int rr))) g 4 (ccells g ad w) 0 0 23 [(3, .int z2_x0)] []
      refine v_iload_n hG 0 rfl rfl dX6_nextTerm_23 ?_
      cases hf
      exact v_iret hG hr dX6_nextTerm_24
    · simp only [Sum.elim_inr] at hf
      show V p l e (k2_rm 0 0) s m args below meth c (inW (ccells g ad w)) (EN below args s g (ccells g ad w) (ccells g ad w) (some (.int rr))) g 4 (ccells g ad w) 0 0 31 [] []
      refine v_iconst hG (v := -1) (by decide) dX6_nextTerm_31 ?_
      cases hf
      exact v_iret hG hr dX6_nextTerm_32
def X6_countTerms_J28  (j28_0 : Int32) (j28_1 : Int32) : Option ((Int32 × Int32) ⊕ ((Int32))) := (some (.inl (j28_0, (j28_1 + 1))))
def X6_countTerms_L4 (t : cT) (a0 : Int32) (s4 : Int32 × Int32) : Option ((Int32 × Int32) ⊕ ((Int32))) := (if (gT_columns t) ≤ s4.2 then (some (.inr s4.1)) else (if inR a0 12 = true then (if inR s4.2 12 = true then (if ((gT_a t) a0.toNatClampNeg s4.2.toNatClampNeg) = 0 then (X6_countTerms_J28 s4.1 s4.2) else (X6_countTerms_J28 (s4.1 + 1) s4.2)) else none) else none))
def X6_countTerms (t : cT) (a0 : Int32) : Option (Int32) := ((iter (X6_countTerms_L4 t a0) 5000 (0, 0)).bind (fun z4 : (Int32) => (some z4)))
set_option maxRecDepth 100000 in
set_option maxHeartbeats 4000000 in
theorem ct_X6_countTerms_w (l : Launch) (g : wG) (ad : Nat → Nat) (w : CW) (a0 : Int32) (rr : Int32) (hf : X6_countTerms (gC_whole w) a0 = some rr) : MetN l g yX6_countTerms cX6_countTerms 4 (some .int) (k2_rm 0 0) [.ref (ad 1), .int a0] (ccells g ad w) (ccells g ad w) (some (.int rr)) := by
  refine MetN.of2 [(0, .ref (ad 1)), (1, .int a0)] rfl (by decide +kernel) (Nat.le_of_ble_eq_true rfl) ?_
  intro p e s m args below meth c hG hr
  unfold X6_countTerms at hf
  refine v_iconst hG (v := 0) (by decide) dX6_countTerms_0 ?_
  refine v_istore_n hG [(2, _), (0, _), (1, _)] dX6_countTerms_1 rfl (by decide) rfl ?_
  refine v_iconst hG (v := 0) (by decide) dX6_countTerms_2 ?_
  refine v_istore_n hG [(3, _), (2, _), (0, _), (1, _)] dX6_countTerms_3 rfl (by decide) rfl ?_
  refine v_sub [(0, _), (1, _), (2, _), (3, _)] [2, 3, 1, 0] rfl ?_
  obtain ⟨z4, hlz4, hf⟩ := bd_some hf
  refine loop_v (step := X6_countTerms_L4 (gC_whole w) a0) (fun s4 : Int32 × Int32 => V p l e (k2_rm 0 0) s m args below meth c (inW (ccells g ad w)) (EN below args s g (ccells g ad w) (ccells g ad w) (some (.int rr))) g 4 (ccells g ad w) 0 0 4 [(0, .ref (ad 1)), (1, .int a0), (2, .int s4.1), (3, .int s4.2)] []) (fun z4_q : (Int32) => V p l e (k2_rm 0 0) s m args below meth c (inW (ccells g ad w)) (EN below args s g (ccells g ad w) (ccells g ad w) (some (.int rr))) g 4 (ccells g ad w) 0 0 34 [(2, .int z4_q)] []) ?_ 5000 (0, 0) z4 hlz4 ?_
  · intro s4 rL hf hin hout
    unfold X6_countTerms_L4 at hf
    have j28 : ∀ (j28_0 : Int32) (j28_1 : Int32), X6_countTerms_J28 j28_0 j28_1 = some rL → V p l e (k2_rm 0 0) s m args below meth c (inW (ccells g ad w)) (EN below args s g (ccells g ad w) (ccells g ad w) (some (.int rr))) g 4 (ccells g ad w) 0 0 28 [(0, .ref (ad 1)), (1, .int a0), (2, .int j28_0), (3, .int j28_1)] [] := by
      intro j28_0 j28_1 hf
      unfold X6_countTerms_J28 at hf
      refine v_iinc hG 3 (v := j28_1 + 1) [(3, _), (0, _), (1, _), (2, _)] dX6_countTerms_28 rfl rfl (by decide) rfl ?_
      refine v_goto hG 4 dX6_countTerms_31 rfl ?_
      refine v_sub [(0, _), (1, _), (2, _), (3, _)] [1, 2, 3, 0] rfl ?_
      exact hin _ (Option.some.inj hf).symm
    refine v_iload_n hG 3 rfl rfl dX6_countTerms_4 ?_
    refine v_aload_n hG 0 rfl rfl dX6_countTerms_5 ?_
    refine c_g_1_7 hG wk_160 dX6_countTerms_6 ?_
    refine v_icmp_ge hG 34 dX6_countTerms_9 rfl hf (fun hf => ?_) (fun hf => ?_)
    · refine v_sub [(2, _)] [2] rfl ?_
      exact hout _ (Option.some.inj hf).symm
    · refine v_aload_n hG 0 rfl rfl dX6_countTerms_12 ?_
      refine c_g_1_6 hG wk_148 dX6_countTerms_13 ?_
      refine v_iload_n hG 1 rfl rfl dX6_countTerms_16 ?_
      refine c_o_8 hG dX6_countTerms_17 hf (fun hi17 hf => ?_)
      refine v_iload_n hG 3 rfl rfl dX6_countTerms_18 ?_
      refine c_rl_8 hG hi17 dX6_countTerms_19 hf (fun hf => ?_)
      refine v_lconst hG (v := 0) (by decide) dX6_countTerms_20 ?_
      refine v_lcmp_eq hG 28 dX6_countTerms_21 dX6_countTerms_22 rfl hf (fun hf => ?_) (fun hf => ?_)
      · exact j28 s4.1 s4.2 hf
      · refine v_iinc hG 2 (v := s4.1 + 1) [(2, _), (0, _), (1, _), (3, _)] dX6_countTerms_25 rfl rfl (by decide) rfl ?_
        refine v_sub [(0, _), (1, _), (2, _), (3, _)] [1, 2, 0, 3] rfl ?_
        exact j28 (s4.1 + 1) s4.2 hf
  · show V p l e (k2_rm 0 0) s m args below meth c (inW (ccells g ad w)) (EN below args s g (ccells g ad w) (ccells g ad w) (some (.int rr))) g 4 (ccells g ad w) 0 0 34 [(2, .int z4)] []
    refine v_iload_n hG 0 rfl rfl dX6_countTerms_34 ?_
    cases hf
    exact v_iret hG hr dX6_countTerms_35
set_option maxRecDepth 100000 in
set_option maxHeartbeats 4000000 in
theorem ct_X6_countTerms_s (l : Launch) (g : wG) (ad : Nat → Nat) (w : CW) (a0 : Int32) (rr : Int32) (hf : X6_countTerms (gC_tab w) a0 = some rr) : MetN l g yX6_countTerms cX6_countTerms 4 (some .int) (k2_rm 0 0) [.ref (ad 22), .int a0] (ccells g ad w) (ccells g ad w) (some (.int rr)) := by
  refine MetN.of2 [(0, .ref (ad 22)), (1, .int a0)] rfl (by decide +kernel) (Nat.le_of_ble_eq_true rfl) ?_
  intro p e s m args below meth c hG hr
  unfold X6_countTerms at hf
  refine v_iconst hG (v := 0) (by decide) dX6_countTerms_0 ?_
  refine v_istore_n hG [(2, _), (0, _), (1, _)] dX6_countTerms_1 rfl (by decide) rfl ?_
  refine v_iconst hG (v := 0) (by decide) dX6_countTerms_2 ?_
  refine v_istore_n hG [(3, _), (2, _), (0, _), (1, _)] dX6_countTerms_3 rfl (by decide) rfl ?_
  refine v_sub [(0, _), (1, _), (2, _), (3, _)] [2, 3, 1, 0] rfl ?_
  obtain ⟨z4, hlz4, hf⟩ := bd_some hf
  refine loop_v (step := X6_countTerms_L4 (gC_tab w) a0) (fun s4 : Int32 × Int32 => V p l e (k2_rm 0 0) s m args below meth c (inW (ccells g ad w)) (EN below args s g (ccells g ad w) (ccells g ad w) (some (.int rr))) g 4 (ccells g ad w) 0 0 4 [(0, .ref (ad 22)), (1, .int a0), (2, .int s4.1), (3, .int s4.2)] []) (fun z4_q : (Int32) => V p l e (k2_rm 0 0) s m args below meth c (inW (ccells g ad w)) (EN below args s g (ccells g ad w) (ccells g ad w) (some (.int rr))) g 4 (ccells g ad w) 0 0 34 [(2, .int z4_q)] []) ?_ 5000 (0, 0) z4 hlz4 ?_
  · intro s4 rL hf hin hout
    unfold X6_countTerms_L4 at hf
    have j28 : ∀ (j28_0 : Int32) (j28_1 : Int32), X6_countTerms_J28 j28_0 j28_1 = some rL → V p l e (k2_rm 0 0) s m args below meth c (inW (ccells g ad w)) (EN below args s g (ccells g ad w) (ccells g ad w) (some (.int rr))) g 4 (ccells g ad w) 0 0 28 [(0, .ref (ad 22)), (1, .int a0), (2, .int j28_0), (3, .int j28_1)] [] := by
      intro j28_0 j28_1 hf
      unfold X6_countTerms_J28 at hf
      refine v_iinc hG 3 (v := j28_1 + 1) [(3, _), (0, _), (1, _), (2, _)] dX6_countTerms_28 rfl rfl (by decide) rfl ?_
      refine v_goto hG 4 dX6_countTerms_31 rfl ?_
      refine v_sub [(0, _), (1, _), (2, _), (3, _)] [1, 2, 3, 0] rfl ?_
      exact hin _ (Option.some.inj hf).symm
    refine v_iload_n hG 3 rfl rfl dX6_countTerms_4 ?_
    refine v_aload_n hG 0 rfl rfl dX6_countTerms_5 ?_
    refine c_g_22_7 hG wk_160 dX6_countTerms_6 ?_
    refine v_icmp_ge hG 34 dX6_countTerms_9 rfl hf (fun hf => ?_) (fun hf => ?_)
    · refine v_sub [(2, _)] [2] rfl ?_
      exact hout _ (Option.some.inj hf).symm
    · refine v_aload_n hG 0 rfl rfl dX6_countTerms_12 ?_
      refine c_g_22_6 hG wk_148 dX6_countTerms_13 ?_
      refine v_iload_n hG 1 rfl rfl dX6_countTerms_16 ?_
      refine c_o_29 hG dX6_countTerms_17 hf (fun hi17 hf => ?_)
      refine v_iload_n hG 3 rfl rfl dX6_countTerms_18 ?_
      refine c_rl_29 hG hi17 dX6_countTerms_19 hf (fun hf => ?_)
      refine v_lconst hG (v := 0) (by decide) dX6_countTerms_20 ?_
      refine v_lcmp_eq hG 28 dX6_countTerms_21 dX6_countTerms_22 rfl hf (fun hf => ?_) (fun hf => ?_)
      · exact j28 s4.1 s4.2 hf
      · refine v_iinc hG 2 (v := s4.1 + 1) [(2, _), (0, _), (1, _), (3, _)] dX6_countTerms_25 rfl rfl (by decide) rfl ?_
        refine v_sub [(0, _), (1, _), (2, _), (3, _)] [1, 2, 0, 3] rfl ?_
        exact j28 (s4.1 + 1) s4.2 hf
  · show V p l e (k2_rm 0 0) s m args below meth c (inW (ccells g ad w)) (EN below args s g (ccells g ad w) (ccells g ad w) (some (.int rr))) g 4 (ccells g ad w) 0 0 34 [(2, .int z4)] []
    refine v_iload_n hG 0 rfl rfl dX6_countTerms_34 ?_
    cases hf
    exact v_iret hG hr dX6_countTerms_35
def X6_isUnit_J28   : Option (Int32) := (some 1)
def X6_isUnit (t : cT) (a0 : Int32) (a1 : Int32) : Option (Int32) := (if inR a0 12 = true then (if inR a1 12 = true then (if ((gT_a t) a0.toNatClampNeg a1.toNatClampNeg) = 1 then (X6_isUnit_J28 ) else (if inR a0 12 = true then (if inR a1 12 = true then (if ((gT_a t) a0.toNatClampNeg a1.toNatClampNeg) = (-1) then (X6_isUnit_J28 ) else (some 0)) else none) else none)) else none) else none)
set_option maxRecDepth 100000 in
set_option maxHeartbeats 4000000 in
theorem ct_X6_isUnit_w (l : Launch) (g : wG) (ad : Nat → Nat) (w : CW) (a0 : Int32) (a1 : Int32) (rr : Int32) (hf : X6_isUnit (gC_whole w) a0 a1 = some rr) : MetN l g yX6_isUnit cX6_isUnit 3 (some .boolean) (k2_rm 0 0) [.ref (ad 1), .int a0, .int a1] (ccells g ad w) (ccells g ad w) (some (.int rr)) := by
  refine MetN.of2 [(0, .ref (ad 1)), (1, .int a0), (2, .int a1)] rfl (by decide +kernel) (Nat.le_of_ble_eq_true rfl) ?_
  intro p e s m args below meth c hG hr
  unfold X6_isUnit at hf
  have j28 : X6_isUnit_J28  = some rr → V p l e (k2_rm 0 0) s m args below meth c (inW (ccells g ad w)) (EN below args s g (ccells g ad w) (ccells g ad w) (some (.int rr))) g 3 (ccells g ad w) 0 0 28 [] [] := by
    intro hf
    unfold X6_isUnit_J28 at hf
    refine v_iconst hG (v := 1) (by decide) dX6_isUnit_28 ?_
    refine v_goto hG 33 dX6_isUnit_29 rfl ?_
    cases hf
    exact v_zret (x := 1) hG hr rfl dX6_isUnit_33
  refine v_aload_n hG 0 rfl rfl dX6_isUnit_0 ?_
  refine c_g_1_6 hG wk_148 dX6_isUnit_1 ?_
  refine v_iload_n hG 1 rfl rfl dX6_isUnit_4 ?_
  refine c_o_8 hG dX6_isUnit_5 hf (fun hi5 hf => ?_)
  refine v_iload_n hG 2 rfl rfl dX6_isUnit_6 ?_
  refine c_rl_8 hG hi5 dX6_isUnit_7 hf (fun hf => ?_)
  refine v_lconst hG (v := 1) (by decide) dX6_isUnit_8 ?_
  refine v_lcmp_eq hG 28 dX6_isUnit_9 dX6_isUnit_10 rfl hf (fun hf => ?_) (fun hf => ?_)
  · refine v_sub [] [] rfl ?_
    exact j28  hf
  · refine v_aload_n hG 0 rfl rfl dX6_isUnit_13 ?_
    refine c_g_1_6 hG wk_148 dX6_isUnit_14 ?_
    refine v_iload_n hG 1 rfl rfl dX6_isUnit_17 ?_
    refine c_o_8 hG dX6_isUnit_18 hf (fun hi18 hf => ?_)
    refine v_iload_n hG 2 rfl rfl dX6_isUnit_19 ?_
    refine c_rl_8 hG hi18 dX6_isUnit_20 hf (fun hf => ?_)
    refine v_ldc2 hG wk_738 dX6_isUnit_21 ?_
    refine v_lcmp_ne hG 32 dX6_isUnit_24 dX6_isUnit_25 rfl hf (fun hf => ?_) (fun hf => ?_)
    · refine v_iconst hG (v := 0) (by decide) dX6_isUnit_32 ?_
      cases hf
      exact v_zret (x := 0) hG hr rfl dX6_isUnit_33
    · refine v_sub [] [] rfl ?_
      exact j28  hf
set_option maxRecDepth 100000 in
set_option maxHeartbeats 4000000 in
theorem ct_X6_isUnit_s (l : Launch) (g : wG) (ad : Nat → Nat) (w : CW) (a0 : Int32) (a1 : Int32) (rr : Int32) (hf : X6_isUnit (gC_tab w) a0 a1 = some rr) : MetN l g yX6_isUnit cX6_isUnit 3 (some .boolean) (k2_rm 0 0) [.ref (ad 22), .int a0, .int a1] (ccells g ad w) (ccells g ad w) (some (.int rr)) := by
  refine MetN.of2 [(0, .ref (ad 22)), (1, .int a0), (2, .int a1)] rfl (by decide +kernel) (Nat.le_of_ble_eq_true rfl) ?_
  intro p e s m args below meth c hG hr
  unfold X6_isUnit at hf
  have j28 : X6_isUnit_J28  = some rr → V p l e (k2_rm 0 0) s m args below meth c (inW (ccells g ad w)) (EN below args s g (ccells g ad w) (ccells g ad w) (some (.int rr))) g 3 (ccells g ad w) 0 0 28 [] [] := by
    intro hf
    unfold X6_isUnit_J28 at hf
    refine v_iconst hG (v := 1) (by decide) dX6_isUnit_28 ?_
    refine v_goto hG 33 dX6_isUnit_29 rfl ?_
    cases hf
    exact v_zret (x := 1) hG hr rfl dX6_isUnit_33
  refine v_aload_n hG 0 rfl rfl dX6_isUnit_0 ?_
  refine c_g_22_6 hG wk_148 dX6_isUnit_1 ?_
  refine v_iload_n hG 1 rfl rfl dX6_isUnit_4 ?_
  refine c_o_29 hG dX6_isUnit_5 hf (fun hi5 hf => ?_)
  refine v_iload_n hG 2 rfl rfl dX6_isUnit_6 ?_
  refine c_rl_29 hG hi5 dX6_isUnit_7 hf (fun hf => ?_)
  refine v_lconst hG (v := 1) (by decide) dX6_isUnit_8 ?_
  refine v_lcmp_eq hG 28 dX6_isUnit_9 dX6_isUnit_10 rfl hf (fun hf => ?_) (fun hf => ?_)
  · refine v_sub [] [] rfl ?_
    exact j28  hf
  · refine v_aload_n hG 0 rfl rfl dX6_isUnit_13 ?_
    refine c_g_22_6 hG wk_148 dX6_isUnit_14 ?_
    refine v_iload_n hG 1 rfl rfl dX6_isUnit_17 ?_
    refine c_o_29 hG dX6_isUnit_18 hf (fun hi18 hf => ?_)
    refine v_iload_n hG 2 rfl rfl dX6_isUnit_19 ?_
    refine c_rl_29 hG hi18 dX6_isUnit_20 hf (fun hf => ?_)
    refine v_ldc2 hG wk_738 dX6_isUnit_21 ?_
    refine v_lcmp_ne hG 32 dX6_isUnit_24 dX6_isUnit_25 rfl hf (fun hf => ?_) (fun hf => ?_)
    · refine v_iconst hG (v := 0) (by decide) dX6_isUnit_32 ?_
      cases hf
      exact v_zret (x := 0) hG hr rfl dX6_isUnit_33
    · refine v_sub [] [] rfl ?_
      exact j28  hf
def X6_isBinary (t : cT) (a0 : Int32) : Option (Int32) := (if inR a0 12 = true then (if ((gT_low t) a0.toNatClampNeg) = 0 then (if inR a0 12 = true then (if ((gT_high t) a0.toNatClampNeg) = 1 then (some 1) else (some 0)) else none) else (some 0)) else none)
set_option maxRecDepth 100000 in
set_option maxHeartbeats 4000000 in
theorem ct_X6_isBinary_w (l : Launch) (g : wG) (ad : Nat → Nat) (w : CW) (a0 : Int32) (rr : Int32) (hf : X6_isBinary (gC_whole w) a0 = some rr) : MetN l g yX6_isBinary cX6_isBinary 2 (some .boolean) (k2_rm 0 0) [.ref (ad 1), .int a0] (ccells g ad w) (ccells g ad w) (some (.int rr)) := by
  refine MetN.of2 [(0, .ref (ad 1)), (1, .int a0)] rfl (by decide +kernel) (Nat.le_of_ble_eq_true rfl) ?_
  intro p e s m args below meth c hG hr
  unfold X6_isBinary at hf
  refine v_aload_n hG 0 rfl rfl dX6_isBinary_0 ?_
  refine c_g_1_0 hG wk_115 dX6_isBinary_1 ?_
  refine v_iload_n hG 1 rfl rfl dX6_isBinary_4 ?_
  refine c_l_2 hG dX6_isBinary_5 hf (fun hf => ?_)
  refine v_lconst hG (v := 0) (by decide) dX6_isBinary_6 ?_
  refine v_lcmp_ne hG 26 dX6_isBinary_7 dX6_isBinary_8 rfl hf (fun hf => ?_) (fun hf => ?_)
  · refine v_iconst hG (v := 0) (by decide) dX6_isBinary_26 ?_
    cases hf
    exact v_zret (x := 0) hG hr rfl dX6_isBinary_27
  · refine v_aload_n hG 0 rfl rfl dX6_isBinary_11 ?_
    refine c_g_1_1 hG wk_122 dX6_isBinary_12 ?_
    refine v_iload_n hG 1 rfl rfl dX6_isBinary_15 ?_
    refine c_l_3 hG dX6_isBinary_16 hf (fun hf => ?_)
    refine v_lconst hG (v := 1) (by decide) dX6_isBinary_17 ?_
    refine v_lcmp_ne hG 26 dX6_isBinary_18 dX6_isBinary_19 rfl hf (fun hf => ?_) (fun hf => ?_)
    · refine v_iconst hG (v := 0) (by decide) dX6_isBinary_26 ?_
      cases hf
      exact v_zret (x := 0) hG hr rfl dX6_isBinary_27
    · refine v_iconst hG (v := 1) (by decide) dX6_isBinary_22 ?_
      refine v_goto hG 27 dX6_isBinary_23 rfl ?_
      cases hf
      exact v_zret (x := 1) hG hr rfl dX6_isBinary_27
set_option maxRecDepth 100000 in
set_option maxHeartbeats 4000000 in
theorem ct_X6_isBinary_s (l : Launch) (g : wG) (ad : Nat → Nat) (w : CW) (a0 : Int32) (rr : Int32) (hf : X6_isBinary (gC_tab w) a0 = some rr) : MetN l g yX6_isBinary cX6_isBinary 2 (some .boolean) (k2_rm 0 0) [.ref (ad 22), .int a0] (ccells g ad w) (ccells g ad w) (some (.int rr)) := by
  refine MetN.of2 [(0, .ref (ad 22)), (1, .int a0)] rfl (by decide +kernel) (Nat.le_of_ble_eq_true rfl) ?_
  intro p e s m args below meth c hG hr
  unfold X6_isBinary at hf
  refine v_aload_n hG 0 rfl rfl dX6_isBinary_0 ?_
  refine c_g_22_0 hG wk_115 dX6_isBinary_1 ?_
  refine v_iload_n hG 1 rfl rfl dX6_isBinary_4 ?_
  refine c_l_23 hG dX6_isBinary_5 hf (fun hf => ?_)
  refine v_lconst hG (v := 0) (by decide) dX6_isBinary_6 ?_
  refine v_lcmp_ne hG 26 dX6_isBinary_7 dX6_isBinary_8 rfl hf (fun hf => ?_) (fun hf => ?_)
  · refine v_iconst hG (v := 0) (by decide) dX6_isBinary_26 ?_
    cases hf
    exact v_zret (x := 0) hG hr rfl dX6_isBinary_27
  · refine v_aload_n hG 0 rfl rfl dX6_isBinary_11 ?_
    refine c_g_22_1 hG wk_122 dX6_isBinary_12 ?_
    refine v_iload_n hG 1 rfl rfl dX6_isBinary_15 ?_
    refine c_l_24 hG dX6_isBinary_16 hf (fun hf => ?_)
    refine v_lconst hG (v := 1) (by decide) dX6_isBinary_17 ?_
    refine v_lcmp_ne hG 26 dX6_isBinary_18 dX6_isBinary_19 rfl hf (fun hf => ?_) (fun hf => ?_)
    · refine v_iconst hG (v := 0) (by decide) dX6_isBinary_26 ?_
      cases hf
      exact v_zret (x := 0) hG hr rfl dX6_isBinary_27
    · refine v_iconst hG (v := 1) (by decide) dX6_isBinary_22 ?_
      refine v_goto hG 27 dX6_isBinary_23 rfl ?_
      cases hf
      exact v_zret (x := 1) hG hr rfl dX6_isBinary_27
def X6_countPoints_J38  (j38_0 : Int64) (j38_1 : Int32) : Option ((Int64 × Int32) ⊕ ((Unit) ⊕ (Int64))) := (if j38_0 ≤ 4000 then (some (.inl (j38_0, (j38_1 + 1)))) else (some (.inr (.inl ()))))
def X6_countPoints_L4 (t : cT) (s4 : Int64 × Int32) : Option ((Int64 × Int32) ⊕ ((Unit) ⊕ (Int64))) := (if (gT_columns t) ≤ s4.2 then (some (.inr (.inr s4.1))) else ((X6_isThere t s4.2).bind (fun r14 : Int32 => (if r14 = 0 then (X6_countPoints_J38 s4.1 s4.2) else (if inR s4.2 12 = true then (if inR s4.2 12 = true then (X6_countPoints_J38 (s4.1 * ((((gT_high t) s4.2.toNatClampNeg) - ((gT_low t) s4.2.toNatClampNeg)) + 1)) s4.2) else none) else none)))))
def X6_countPoints (t : cT) : Option (Int32) := ((iter (X6_countPoints_L4 t) 5000 (1, 0)).bind (fun z4 : (Unit) ⊕ (Int64) => (Sum.elim (fun z4_0 : Unit => (some (-1))) (fun z4_r0 : (Int64) => (some z4_r0.toInt32)) z4)))
set_option maxRecDepth 100000 in
set_option maxHeartbeats 4000000 in
theorem ct_X6_countPoints_w (l : Launch) (g : wG) (ad : Nat → Nat) (w : CW)  (rr : Int32) (hf : X6_countPoints (gC_whole w) = some rr) : MetN l g yX6_countPoints cX6_countPoints 4 (some .int) (k2_rm 1 21) [.ref (ad 1)] (ccells g ad w) (ccells g ad w) (some (.int rr)) := by
  refine MetN.of2 [(0, .ref (ad 1))] rfl (by decide +kernel) (Nat.le_of_ble_eq_true rfl) ?_
  intro p e s m args below meth c hG hr
  unfold X6_countPoints at hf
  refine v_lconst hG (v := 1) (by decide) dX6_countPoints_0 ?_
  refine v_lstore_n hG [(1, _), (0, _)] dX6_countPoints_1 rfl (by decide) rfl ?_
  refine v_iconst hG (v := 0) (by decide) dX6_countPoints_2 ?_
  refine v_istore_n hG [(3, _), (1, _), (0, _)] dX6_countPoints_3 rfl (by decide) rfl ?_
  refine v_sub [(0, _), (1, _), (3, _)] [2, 1, 0] rfl ?_
  obtain ⟨z4, hlz4, hf⟩ := bd_some hf
  refine loop_v (step := X6_countPoints_L4 (gC_whole w)) (fun s4 : Int64 × Int32 => V p l e (k2_rm 1 21) s m args below meth c (inW (ccells g ad w)) (EN below args s g (ccells g ad w) (ccells g ad w) (some (.int rr))) g 4 (ccells g ad w) 0 0 4 [(0, .ref (ad 1)), (1, .long s4.1), (3, .int s4.2)] []) (fun z4_q : (Unit) ⊕ (Int64) => Sum.elim (fun z4_0 : Unit => V p l e (k2_rm 1 21) s m args below meth c (inW (ccells g ad w)) (EN below args s g (ccells g ad w) (ccells g ad w) (some (.int rr))) g 4 (ccells g ad w) 0 0 46 [] []) (fun z4_r0 : (Int64) => V p l e (k2_rm 1 21) s m args below meth c (inW (ccells g ad w)) (EN below args s g (ccells g ad w) (ccells g ad w) (some (.int rr))) g 4 (ccells g ad w) 0 0 54 [(1, .long z4_r0)] []) z4_q) ?_ 5000 (1, 0) z4 hlz4 ?_
  · intro s4 rL hf hin hout
    unfold X6_countPoints_L4 at hf
    have j38 : ∀ (j38_0 : Int64) (j38_1 : Int32), X6_countPoints_J38 j38_0 j38_1 = some rL → V p l e (k2_rm 1 21) s m args below meth c (inW (ccells g ad w)) (EN below args s g (ccells g ad w) (ccells g ad w) (some (.int rr))) g 4 (ccells g ad w) 0 0 38 [(0, .ref (ad 1)), (1, .long j38_0), (3, .int j38_1)] [] := by
      intro j38_0 j38_1 hf
      unfold X6_countPoints_J38 at hf
      refine v_lload_n hG 1 rfl rfl dX6_countPoints_38 ?_
      refine v_ldc2 hG wk_877 dX6_countPoints_39 ?_
      refine v_lcmp_le hG 48 dX6_countPoints_42 dX6_countPoints_43 rfl hf (fun hf => ?_) (fun hf => ?_)
      · refine v_iinc hG 2 (v := j38_1 + 1) [(3, _), (0, _), (1, _)] dX6_countPoints_48 rfl rfl (by decide) rfl ?_
        refine v_goto hG 4 dX6_countPoints_51 rfl ?_
        refine v_sub [(0, _), (1, _), (3, _)] [1, 2, 0] rfl ?_
        exact hin _ (Option.some.inj hf).symm
      · refine v_sub [] [] rfl ?_
        exact hout _ (Option.some.inj hf).symm
    refine v_iload_n hG 2 rfl rfl dX6_countPoints_4 ?_
    refine v_aload_n hG 0 rfl rfl dX6_countPoints_5 ?_
    refine c_g_1_7 hG wk_160 dX6_countPoints_6 ?_
    refine v_icmp_ge hG 54 dX6_countPoints_9 rfl hf (fun hf => ?_) (fun hf => ?_)
    · refine v_sub [(1, _)] [1] rfl ?_
      exact hout _ (Option.some.inj hf).symm
    · refine v_aload_n hG 0 rfl rfl dX6_countPoints_12 ?_
      refine v_iload_n hG 2 rfl rfl dX6_countPoints_13 ?_
      obtain ⟨r14, hr14, hf⟩ := bd_some hf
      refine v_callV hG (st := []) 1 6 (ct_X6_isThere_w l g ad w s4.2 r14 hr14) iw_X6_isThere wk_876 rfl rfl ⟨rfl, rfl, Nat.le_of_ble_eq_true rfl, Nat.le_of_ble_eq_true rfl⟩ ⟨Nat.le_of_ble_eq_true rfl, Nat.le_of_ble_eq_true rfl⟩ rfl rfl (Nat.le_of_ble_eq_true rfl) (ccells_fst _ _ _ _) dX6_countPoints_14 ?_
      refine (show V p l e (k2_rm 1 21) s m args below meth c (inW (ccells g ad w)) (EN below args s g (ccells g ad w) (ccells g ad w) (some (.int rr))) g 4 (ccells g ad w) 0 0 17 [(0, .ref (ad 1)), (1, .long s4.1), (3, .int s4.2)] [.int r14] from ?_)
      refine v_if_eq hG 38 dX6_countPoints_17 rfl hf (fun hf => ?_) (fun hf => ?_)
      · exact j38 s4.1 s4.2 hf
      · refine v_lload_n hG 1 rfl rfl dX6_countPoints_20 ?_
        refine v_aload_n hG 0 rfl rfl dX6_countPoints_21 ?_
        refine c_g_1_1 hG wk_122 dX6_countPoints_22 ?_
        refine v_iload_n hG 2 rfl rfl dX6_countPoints_25 ?_
        refine c_l_3 hG dX6_countPoints_26 hf (fun hf => ?_)
        refine v_aload_n hG 0 rfl rfl dX6_countPoints_27 ?_
        refine c_g_1_0 hG wk_115 dX6_countPoints_28 ?_
        refine v_iload_n hG 2 rfl rfl dX6_countPoints_31 ?_
        refine c_l_2 hG dX6_countPoints_32 hf (fun hf => ?_)
        refine v_lsub hG dX6_countPoints_33 ?_
        refine v_lconst hG (v := 1) (by decide) dX6_countPoints_34 ?_
        refine v_ladd hG dX6_countPoints_35 ?_
        refine v_lmul hG dX6_countPoints_36 ?_
        refine v_lstore_n hG [(1, _), (0, _), (3, _)] dX6_countPoints_37 rfl (by decide) rfl ?_
        refine v_sub [(0, _), (1, _), (3, _)] [1, 0, 2] rfl ?_
        exact j38 (s4.1 * ((((gT_high (gC_whole w)) s4.2.toNatClampNeg) - ((gT_low (gC_whole w)) s4.2.toNatClampNeg)) + 1)) s4.2 hf
  · rcases z4 with z4_x0 | z4_x0
    · simp only [Sum.elim_inl] at hf
      show V p l e (k2_rm 1 21) s m args below meth c (inW (ccells g ad w)) (EN below args s g (ccells g ad w) (ccells g ad w) (some (.int rr))) g 4 (ccells g ad w) 0 0 46 [] []
      refine v_iconst hG (v := -1) (by decide) dX6_countPoints_46 ?_
      cases hf
      exact v_iret hG hr dX6_countPoints_47
    · simp only [Sum.elim_inr] at hf
      show V p l e (k2_rm 1 21) s m args below meth c (inW (ccells g ad w)) (EN below args s g (ccells g ad w) (ccells g ad w) (some (.int rr))) g 4 (ccells g ad w) 0 0 54 [(1, .long z4_x0)] []
      refine v_lload_n hG 0 rfl rfl dX6_countPoints_54 ?_
      refine v_l2i hG dX6_countPoints_55 ?_
      cases hf
      exact v_iret hG hr dX6_countPoints_56
set_option maxRecDepth 100000 in
set_option maxHeartbeats 4000000 in
theorem ct_X6_countPoints_s (l : Launch) (g : wG) (ad : Nat → Nat) (w : CW)  (rr : Int32) (hf : X6_countPoints (gC_tab w) = some rr) : MetN l g yX6_countPoints cX6_countPoints 4 (some .int) (k2_rm 1 21) [.ref (ad 22)] (ccells g ad w) (ccells g ad w) (some (.int rr)) := by
  refine MetN.of2 [(0, .ref (ad 22))] rfl (by decide +kernel) (Nat.le_of_ble_eq_true rfl) ?_
  intro p e s m args below meth c hG hr
  unfold X6_countPoints at hf
  refine v_lconst hG (v := 1) (by decide) dX6_countPoints_0 ?_
  refine v_lstore_n hG [(1, _), (0, _)] dX6_countPoints_1 rfl (by decide) rfl ?_
  refine v_iconst hG (v := 0) (by decide) dX6_countPoints_2 ?_
  refine v_istore_n hG [(3, _), (1, _), (0, _)] dX6_countPoints_3 rfl (by decide) rfl ?_
  refine v_sub [(0, _), (1, _), (3, _)] [2, 1, 0] rfl ?_
  obtain ⟨z4, hlz4, hf⟩ := bd_some hf
  refine loop_v (step := X6_countPoints_L4 (gC_tab w)) (fun s4 : Int64 × Int32 => V p l e (k2_rm 1 21) s m args below meth c (inW (ccells g ad w)) (EN below args s g (ccells g ad w) (ccells g ad w) (some (.int rr))) g 4 (ccells g ad w) 0 0 4 [(0, .ref (ad 22)), (1, .long s4.1), (3, .int s4.2)] []) (fun z4_q : (Unit) ⊕ (Int64) => Sum.elim (fun z4_0 : Unit => V p l e (k2_rm 1 21) s m args below meth c (inW (ccells g ad w)) (EN below args s g (ccells g ad w) (ccells g ad w) (some (.int rr))) g 4 (ccells g ad w) 0 0 46 [] []) (fun z4_r0 : (Int64) => V p l e (k2_rm 1 21) s m args below meth c (inW (ccells g ad w)) (EN below args s g (ccells g ad w) (ccells g ad w) (some (.int rr))) g 4 (ccells g ad w) 0 0 54 [(1, .long z4_r0)] []) z4_q) ?_ 5000 (1, 0) z4 hlz4 ?_
  · intro s4 rL hf hin hout
    unfold X6_countPoints_L4 at hf
    have j38 : ∀ (j38_0 : Int64) (j38_1 : Int32), X6_countPoints_J38 j38_0 j38_1 = some rL → V p l e (k2_rm 1 21) s m args below meth c (inW (ccells g ad w)) (EN below args s g (ccells g ad w) (ccells g ad w) (some (.int rr))) g 4 (ccells g ad w) 0 0 38 [(0, .ref (ad 22)), (1, .long j38_0), (3, .int j38_1)] [] := by
      intro j38_0 j38_1 hf
      unfold X6_countPoints_J38 at hf
      refine v_lload_n hG 1 rfl rfl dX6_countPoints_38 ?_
      refine v_ldc2 hG wk_877 dX6_countPoints_39 ?_
      refine v_lcmp_le hG 48 dX6_countPoints_42 dX6_countPoints_43 rfl hf (fun hf => ?_) (fun hf => ?_)
      · refine v_iinc hG 2 (v := j38_1 + 1) [(3, _), (0, _), (1, _)] dX6_countPoints_48 rfl rfl (by decide) rfl ?_
        refine v_goto hG 4 dX6_countPoints_51 rfl ?_
        refine v_sub [(0, _), (1, _), (3, _)] [1, 2, 0] rfl ?_
        exact hin _ (Option.some.inj hf).symm
      · refine v_sub [] [] rfl ?_
        exact hout _ (Option.some.inj hf).symm
    refine v_iload_n hG 2 rfl rfl dX6_countPoints_4 ?_
    refine v_aload_n hG 0 rfl rfl dX6_countPoints_5 ?_
    refine c_g_22_7 hG wk_160 dX6_countPoints_6 ?_
    refine v_icmp_ge hG 54 dX6_countPoints_9 rfl hf (fun hf => ?_) (fun hf => ?_)
    · refine v_sub [(1, _)] [1] rfl ?_
      exact hout _ (Option.some.inj hf).symm
    · refine v_aload_n hG 0 rfl rfl dX6_countPoints_12 ?_
      refine v_iload_n hG 2 rfl rfl dX6_countPoints_13 ?_
      obtain ⟨r14, hr14, hf⟩ := bd_some hf
      refine v_callV hG (st := []) 22 6 (ct_X6_isThere_s l g ad w s4.2 r14 hr14) iw_X6_isThere wk_876 rfl rfl ⟨rfl, rfl, Nat.le_of_ble_eq_true rfl, Nat.le_of_ble_eq_true rfl⟩ ⟨Nat.le_of_ble_eq_true rfl, Nat.le_of_ble_eq_true rfl⟩ rfl rfl (Nat.le_of_ble_eq_true rfl) (ccells_fst _ _ _ _) dX6_countPoints_14 ?_
      refine (show V p l e (k2_rm 1 21) s m args below meth c (inW (ccells g ad w)) (EN below args s g (ccells g ad w) (ccells g ad w) (some (.int rr))) g 4 (ccells g ad w) 0 0 17 [(0, .ref (ad 22)), (1, .long s4.1), (3, .int s4.2)] [.int r14] from ?_)
      refine v_if_eq hG 38 dX6_countPoints_17 rfl hf (fun hf => ?_) (fun hf => ?_)
      · exact j38 s4.1 s4.2 hf
      · refine v_lload_n hG 1 rfl rfl dX6_countPoints_20 ?_
        refine v_aload_n hG 0 rfl rfl dX6_countPoints_21 ?_
        refine c_g_22_1 hG wk_122 dX6_countPoints_22 ?_
        refine v_iload_n hG 2 rfl rfl dX6_countPoints_25 ?_
        refine c_l_24 hG dX6_countPoints_26 hf (fun hf => ?_)
        refine v_aload_n hG 0 rfl rfl dX6_countPoints_27 ?_
        refine c_g_22_0 hG wk_115 dX6_countPoints_28 ?_
        refine v_iload_n hG 2 rfl rfl dX6_countPoints_31 ?_
        refine c_l_23 hG dX6_countPoints_32 hf (fun hf => ?_)
        refine v_lsub hG dX6_countPoints_33 ?_
        refine v_lconst hG (v := 1) (by decide) dX6_countPoints_34 ?_
        refine v_ladd hG dX6_countPoints_35 ?_
        refine v_lmul hG dX6_countPoints_36 ?_
        refine v_lstore_n hG [(1, _), (0, _), (3, _)] dX6_countPoints_37 rfl (by decide) rfl ?_
        refine v_sub [(0, _), (1, _), (3, _)] [1, 0, 2] rfl ?_
        exact j38 (s4.1 * ((((gT_high (gC_tab w)) s4.2.toNatClampNeg) - ((gT_low (gC_tab w)) s4.2.toNatClampNeg)) + 1)) s4.2 hf
  · rcases z4 with z4_x0 | z4_x0
    · simp only [Sum.elim_inl] at hf
      show V p l e (k2_rm 1 21) s m args below meth c (inW (ccells g ad w)) (EN below args s g (ccells g ad w) (ccells g ad w) (some (.int rr))) g 4 (ccells g ad w) 0 0 46 [] []
      refine v_iconst hG (v := -1) (by decide) dX6_countPoints_46 ?_
      cases hf
      exact v_iret hG hr dX6_countPoints_47
    · simp only [Sum.elim_inr] at hf
      show V p l e (k2_rm 1 21) s m args below meth c (inW (ccells g ad w)) (EN below args s g (ccells g ad w) (ccells g ad w) (some (.int rr))) g 4 (ccells g ad w) 0 0 54 [(1, .long z4_x0)] []
      refine v_lload_n hG 0 rfl rfl dX6_countPoints_54 ?_
      refine v_l2i hG dX6_countPoints_55 ?_
      cases hf
      exact v_iret hG hr dX6_countPoints_56
def X6_isHolding_J39   : Option (Int32) := (some 1)
def X6_isHolding (t : cT) (a0 : Int32) (a1 : Int64) : Option (Int32) := ((X6_isGone t a0).bind (fun r2 : Int32 => (if r2 = 0 then (if inR a0 12 = true then (if a1 = ((gT_right t) a0.toNatClampNeg) then (X6_isHolding_J39 ) else (if inR a0 12 = true then (if ((gT_kind t) a0.toNatClampNeg) = 0 then (if inR a0 12 = true then (if ((gT_right t) a0.toNatClampNeg) ≤ a1 then (some 0) else (X6_isHolding_J39 )) else none) else (some 0)) else none)) else none) else (X6_isHolding_J39 ))))
set_option maxRecDepth 100000 in
set_option maxHeartbeats 4000000 in
theorem ct_X6_isHolding_w (l : Launch) (g : wG) (ad : Nat → Nat) (w : CW) (a0 : Int32) (a1 : Int64) (rr : Int32) (hf : X6_isHolding (gC_whole w) a0 a1 = some rr) : MetN l g yX6_isHolding cX6_isHolding 4 (some .boolean) (k2_rm 1 21) [.ref (ad 1), .int a0, .long a1] (ccells g ad w) (ccells g ad w) (some (.int rr)) := by
  refine MetN.of2 [(0, .ref (ad 1)), (1, .int a0), (2, .long a1)] rfl (by decide +kernel) (Nat.le_of_ble_eq_true rfl) ?_
  intro p e s m args below meth c hG hr
  unfold X6_isHolding at hf
  have j39 : X6_isHolding_J39  = some rr → V p l e (k2_rm 1 21) s m args below meth c (inW (ccells g ad w)) (EN below args s g (ccells g ad w) (ccells g ad w) (some (.int rr))) g 4 (ccells g ad w) 0 0 39 [] [] := by
    intro hf
    unfold X6_isHolding_J39 at hf
    refine v_iconst hG (v := 1) (by decide) dX6_isHolding_39 ?_
    refine v_goto hG 44 dX6_isHolding_40 rfl ?_
    cases hf
    exact v_zret (x := 1) hG hr rfl dX6_isHolding_44
  refine v_aload_n hG 0 rfl rfl dX6_isHolding_0 ?_
  refine v_iload_n hG 1 rfl rfl dX6_isHolding_1 ?_
  obtain ⟨r2, hr2, hf⟩ := bd_some hf
  refine v_callV hG (st := []) 1 6 (ct_X6_isGone_w l g ad w a0 r2 hr2) iw_X6_isGone wk_609 rfl rfl ⟨rfl, rfl, Nat.le_of_ble_eq_true rfl, Nat.le_of_ble_eq_true rfl⟩ ⟨Nat.le_of_ble_eq_true rfl, Nat.le_of_ble_eq_true rfl⟩ rfl rfl (Nat.le_of_ble_eq_true rfl) (ccells_fst _ _ _ _) dX6_isHolding_2 ?_
  refine (show V p l e (k2_rm 1 21) s m args below meth c (inW (ccells g ad w)) (EN below args s g (ccells g ad w) (ccells g ad w) (some (.int rr))) g 4 (ccells g ad w) 0 0 5 [(0, .ref (ad 1)), (1, .int a0), (2, .long a1)] [.int r2] from ?_)
  refine v_if_ne hG 39 dX6_isHolding_5 rfl hf (fun hf => ?_) (fun hf => ?_)
  · refine v_sub [] [] rfl ?_
    exact j39  hf
  · refine v_lload_n hG 2 rfl rfl dX6_isHolding_8 ?_
    refine v_aload_n hG 0 rfl rfl dX6_isHolding_9 ?_
    refine c_g_1_5 hG wk_142 dX6_isHolding_10 ?_
    refine v_iload_n hG 1 rfl rfl dX6_isHolding_13 ?_
    refine c_l_7 hG dX6_isHolding_14 hf (fun hf => ?_)
    refine v_lcmp_eq hG 39 dX6_isHolding_15 dX6_isHolding_16 rfl hf (fun hf => ?_) (fun hf => ?_)
    · refine v_sub [] [] rfl ?_
      exact j39  hf
    · refine v_aload_n hG 0 rfl rfl dX6_isHolding_19 ?_
      refine c_g_1_4 hG wk_137 dX6_isHolding_20 ?_
      refine v_iload_n hG 1 rfl rfl dX6_isHolding_23 ?_
      refine c_l_6 hG dX6_isHolding_24 hf (fun hf => ?_)
      refine v_if_ne hG 43 dX6_isHolding_25 rfl hf (fun hf => ?_) (fun hf => ?_)
      · refine v_iconst hG (v := 0) (by decide) dX6_isHolding_43 ?_
        cases hf
        exact v_zret (x := 0) hG hr rfl dX6_isHolding_44
      · refine v_lload_n hG 2 rfl rfl dX6_isHolding_28 ?_
        refine v_aload_n hG 0 rfl rfl dX6_isHolding_29 ?_
        refine c_g_1_5 hG wk_142 dX6_isHolding_30 ?_
        refine v_iload_n hG 1 rfl rfl dX6_isHolding_33 ?_
        refine c_l_7 hG dX6_isHolding_34 hf (fun hf => ?_)
        refine v_lcmp_ge hG 43 dX6_isHolding_35 dX6_isHolding_36 rfl hf (fun hf => ?_) (fun hf => ?_)
        · refine v_iconst hG (v := 0) (by decide) dX6_isHolding_43 ?_
          cases hf
          exact v_zret (x := 0) hG hr rfl dX6_isHolding_44
        · refine v_sub [] [] rfl ?_
          exact j39  hf
set_option maxRecDepth 100000 in
set_option maxHeartbeats 4000000 in
theorem ct_X6_isHolding_s (l : Launch) (g : wG) (ad : Nat → Nat) (w : CW) (a0 : Int32) (a1 : Int64) (rr : Int32) (hf : X6_isHolding (gC_tab w) a0 a1 = some rr) : MetN l g yX6_isHolding cX6_isHolding 4 (some .boolean) (k2_rm 1 21) [.ref (ad 22), .int a0, .long a1] (ccells g ad w) (ccells g ad w) (some (.int rr)) := by
  refine MetN.of2 [(0, .ref (ad 22)), (1, .int a0), (2, .long a1)] rfl (by decide +kernel) (Nat.le_of_ble_eq_true rfl) ?_
  intro p e s m args below meth c hG hr
  unfold X6_isHolding at hf
  have j39 : X6_isHolding_J39  = some rr → V p l e (k2_rm 1 21) s m args below meth c (inW (ccells g ad w)) (EN below args s g (ccells g ad w) (ccells g ad w) (some (.int rr))) g 4 (ccells g ad w) 0 0 39 [] [] := by
    intro hf
    unfold X6_isHolding_J39 at hf
    refine v_iconst hG (v := 1) (by decide) dX6_isHolding_39 ?_
    refine v_goto hG 44 dX6_isHolding_40 rfl ?_
    cases hf
    exact v_zret (x := 1) hG hr rfl dX6_isHolding_44
  refine v_aload_n hG 0 rfl rfl dX6_isHolding_0 ?_
  refine v_iload_n hG 1 rfl rfl dX6_isHolding_1 ?_
  obtain ⟨r2, hr2, hf⟩ := bd_some hf
  refine v_callV hG (st := []) 22 6 (ct_X6_isGone_s l g ad w a0 r2 hr2) iw_X6_isGone wk_609 rfl rfl ⟨rfl, rfl, Nat.le_of_ble_eq_true rfl, Nat.le_of_ble_eq_true rfl⟩ ⟨Nat.le_of_ble_eq_true rfl, Nat.le_of_ble_eq_true rfl⟩ rfl rfl (Nat.le_of_ble_eq_true rfl) (ccells_fst _ _ _ _) dX6_isHolding_2 ?_
  refine (show V p l e (k2_rm 1 21) s m args below meth c (inW (ccells g ad w)) (EN below args s g (ccells g ad w) (ccells g ad w) (some (.int rr))) g 4 (ccells g ad w) 0 0 5 [(0, .ref (ad 22)), (1, .int a0), (2, .long a1)] [.int r2] from ?_)
  refine v_if_ne hG 39 dX6_isHolding_5 rfl hf (fun hf => ?_) (fun hf => ?_)
  · refine v_sub [] [] rfl ?_
    exact j39  hf
  · refine v_lload_n hG 2 rfl rfl dX6_isHolding_8 ?_
    refine v_aload_n hG 0 rfl rfl dX6_isHolding_9 ?_
    refine c_g_22_5 hG wk_142 dX6_isHolding_10 ?_
    refine v_iload_n hG 1 rfl rfl dX6_isHolding_13 ?_
    refine c_l_28 hG dX6_isHolding_14 hf (fun hf => ?_)
    refine v_lcmp_eq hG 39 dX6_isHolding_15 dX6_isHolding_16 rfl hf (fun hf => ?_) (fun hf => ?_)
    · refine v_sub [] [] rfl ?_
      exact j39  hf
    · refine v_aload_n hG 0 rfl rfl dX6_isHolding_19 ?_
      refine c_g_22_4 hG wk_137 dX6_isHolding_20 ?_
      refine v_iload_n hG 1 rfl rfl dX6_isHolding_23 ?_
      refine c_l_27 hG dX6_isHolding_24 hf (fun hf => ?_)
      refine v_if_ne hG 43 dX6_isHolding_25 rfl hf (fun hf => ?_) (fun hf => ?_)
      · refine v_iconst hG (v := 0) (by decide) dX6_isHolding_43 ?_
        cases hf
        exact v_zret (x := 0) hG hr rfl dX6_isHolding_44
      · refine v_lload_n hG 2 rfl rfl dX6_isHolding_28 ?_
        refine v_aload_n hG 0 rfl rfl dX6_isHolding_29 ?_
        refine c_g_22_5 hG wk_142 dX6_isHolding_30 ?_
        refine v_iload_n hG 1 rfl rfl dX6_isHolding_33 ?_
        refine c_l_28 hG dX6_isHolding_34 hf (fun hf => ?_)
        refine v_lcmp_ge hG 43 dX6_isHolding_35 dX6_isHolding_36 rfl hf (fun hf => ?_) (fun hf => ?_)
        · refine v_iconst hG (v := 0) (by decide) dX6_isHolding_43 ?_
          cases hf
          exact v_zret (x := 0) hG hr rfl dX6_isHolding_44
        · refine v_sub [] [] rfl ?_
          exact j39  hf
def X6_isFitting_L2 (t : cT) (nums : (Nat → Int64)) (s2 : Int32) : Option ((Int32) ⊕ ((Unit) ⊕ (Unit))) := (if (gT_columns t) ≤ s2 then (some (.inr (.inr ()))) else (if inR s2 12 = true then (if inR s2 12 = true then (if (nums s2.toNatClampNeg) < ((gT_low t) s2.toNatClampNeg) then (some (.inr (.inl ()))) else (if inR s2 12 = true then (if inR s2 12 = true then (if (nums s2.toNatClampNeg) ≤ ((gT_high t) s2.toNatClampNeg) then (some (.inl (s2 + 1))) else (some (.inr (.inl ())))) else none) else none)) else none) else none))
def X6_isFitting_L59 (t : cT) (nums : (Nat → Int64)) (s46 : Int32) (s59 : Int64 × Int32) : Option ((Int64 × Int32) ⊕ ((Int64))) := (if (gT_columns t) ≤ s59.2 then (some (.inr s59.1)) else (if inR s46 12 = true then (if inR s59.2 12 = true then (if inR s59.2 12 = true then (some (.inl ((s59.1 + (((gT_a t) s46.toNatClampNeg s59.2.toNatClampNeg) * (nums s59.2.toNatClampNeg))), (s59.2 + 1)))) else none) else none) else none))
def X6_isFitting_L46 (t : cT) (nums : (Nat → Int64)) (s46 : Int32) : Option ((Int32) ⊕ ((Unit) ⊕ (Unit))) := (if (gT_rows t) ≤ s46 then (some (.inr (.inr ()))) else ((iter (X6_isFitting_L59 t nums s46) 5000 (0, 0)).bind (fun z59 : (Int64) => ((X6_isHolding t s46 z59).bind (fun r94 : Int32 => (if r94 = 0 then (some (.inr (.inl ()))) else (some (.inl (s46 + 1)))))))))
def X6_isFitting (t : cT) (nums : (Nat → Int64)) : Option (Int32) := ((iter (X6_isFitting_L2 t nums) 5000 0).bind (fun z2 : (Unit) ⊕ (Unit) => (Sum.elim (fun z2_0 : Unit => (some 0)) (fun z2_r0 : (Unit) => ((iter (X6_isFitting_L46 t nums) 5000 0).bind (fun z46 : (Unit) ⊕ (Unit) => (Sum.elim (fun z46_0 : Unit => (some 0)) (fun z46_r0 : (Unit) => (some 1)) z46)))) z2)))
set_option maxRecDepth 100000 in
set_option maxHeartbeats 4000000 in
theorem ct_X6_isFitting_w (l : Launch) (g : wG) (ad : Nat → Nat) (w : CW)  (rr : Int32) (hf : X6_isFitting (gC_whole w) (gC_turned w) = some rr) : MetN l g yX6_isFitting cX6_isFitting 6 (some .boolean) (k2_rm 2 44) [.ref (ad 1), .ref (ad 71)] (ccells g ad w) (ccells g ad w) (some (.int rr)) := by
  refine MetN.of2 [(0, .ref (ad 1)), (1, .ref (ad 71))] rfl (by decide +kernel) (Nat.le_of_ble_eq_true rfl) ?_
  intro p e s m args below meth c hG hr
  unfold X6_isFitting at hf
  refine v_iconst hG (v := 0) (by decide) dX6_isFitting_0 ?_
  refine v_istore_n hG [(2, _), (0, _), (1, _)] dX6_isFitting_1 rfl (by decide) rfl ?_
  refine v_sub [(0, _), (1, _), (2, _)] [1, 2, 0] rfl ?_
  obtain ⟨z2, hlz2, hf⟩ := bd_some hf
  refine loop_v (step := X6_isFitting_L2 (gC_whole w) (gC_turned w)) (fun s2 : Int32 => V p l e (k2_rm 2 44) s m args below meth c (inW (ccells g ad w)) (EN below args s g (ccells g ad w) (ccells g ad w) (some (.int rr))) g 6 (ccells g ad w) 0 0 2 [(0, .ref (ad 1)), (1, .ref (ad 71)), (2, .int s2)] []) (fun z2_q : (Unit) ⊕ (Unit) => Sum.elim (fun z2_0 : Unit => V p l e (k2_rm 2 44) s m args below meth c (inW (ccells g ad w)) (EN below args s g (ccells g ad w) (ccells g ad w) (some (.int rr))) g 6 (ccells g ad w) 0 0 36 [] []) (fun z2_r0 : (Unit) => V p l e (k2_rm 2 44) s m args below meth c (inW (ccells g ad w)) (EN below args s g (ccells g ad w) (ccells g ad w) (some (.int rr))) g 6 (ccells g ad w) 0 0 44 [(0, .ref (ad 1)), (1, .ref (ad 71))] []) z2_q) ?_ 5000 0 z2 hlz2 ?_
  · intro s2 rL hf hin hout
    unfold X6_isFitting_L2 at hf
    refine v_iload_n hG 2 rfl rfl dX6_isFitting_2 ?_
    refine v_aload_n hG 0 rfl rfl dX6_isFitting_3 ?_
    refine c_g_1_7 hG wk_160 dX6_isFitting_4 ?_
    refine v_icmp_ge hG 44 dX6_isFitting_7 rfl hf (fun hf => ?_) (fun hf => ?_)
    · refine v_sub [(0, _), (1, _)] [0, 1] rfl ?_
      exact hout _ (Option.some.inj hf).symm
    · refine v_aload_n hG 1 rfl rfl dX6_isFitting_10 ?_
      refine v_iload_n hG 2 rfl rfl dX6_isFitting_11 ?_
      refine c_l_71 hG dX6_isFitting_12 hf (fun hf => ?_)
      refine v_aload_n hG 0 rfl rfl dX6_isFitting_13 ?_
      refine c_g_1_0 hG wk_115 dX6_isFitting_14 ?_
      refine v_iload_n hG 2 rfl rfl dX6_isFitting_17 ?_
      refine c_l_2 hG dX6_isFitting_18 hf (fun hf => ?_)
      refine v_lcmp_lt hG 36 dX6_isFitting_19 dX6_isFitting_20 rfl hf (fun hf => ?_) (fun hf => ?_)
      · refine v_sub [] [] rfl ?_
        exact hout _ (Option.some.inj hf).symm
      · refine v_aload_n hG 1 rfl rfl dX6_isFitting_23 ?_
        refine v_iload_n hG 2 rfl rfl dX6_isFitting_24 ?_
        refine c_l_71 hG dX6_isFitting_25 hf (fun hf => ?_)
        refine v_aload_n hG 0 rfl rfl dX6_isFitting_26 ?_
        refine c_g_1_1 hG wk_122 dX6_isFitting_27 ?_
        refine v_iload_n hG 2 rfl rfl dX6_isFitting_30 ?_
        refine c_l_3 hG dX6_isFitting_31 hf (fun hf => ?_)
        refine v_lcmp_le hG 38 dX6_isFitting_32 dX6_isFitting_33 rfl hf (fun hf => ?_) (fun hf => ?_)
        · refine v_iinc hG 2 (v := s2 + 1) [(2, _), (0, _), (1, _)] dX6_isFitting_38 rfl rfl (by decide) rfl ?_
          refine v_goto hG 2 dX6_isFitting_41 rfl ?_
          refine v_sub [(0, _), (1, _), (2, _)] [1, 2, 0] rfl ?_
          exact hin _ (Option.some.inj hf).symm
        · refine v_sub [] [] rfl ?_
          exact hout _ (Option.some.inj hf).symm
  · rcases z2 with z2_x0 | z2_x0
    · simp only [Sum.elim_inl] at hf
      show V p l e (k2_rm 2 44) s m args below meth c (inW (ccells g ad w)) (EN below args s g (ccells g ad w) (ccells g ad w) (some (.int rr))) g 6 (ccells g ad w) 0 0 36 [] []
      refine v_iconst hG (v := 0) (by decide) dX6_isFitting_36 ?_
      cases hf
      exact v_zret (x := 0) hG hr rfl dX6_isFitting_37
    · simp only [Sum.elim_inr] at hf
      show V p l e (k2_rm 2 44) s m args below meth c (inW (ccells g ad w)) (EN below args s g (ccells g ad w) (ccells g ad w) (some (.int rr))) g 6 (ccells g ad w) 0 0 44 [(0, .ref (ad 1)), (1, .ref (ad 71))] []
      refine v_iconst hG (v := 0) (by decide) dX6_isFitting_44 ?_
      refine v_istore_n hG [(2, _), (0, _), (1, _)] dX6_isFitting_45 rfl (by decide) rfl ?_
      refine v_sub [(0, _), (1, _), (2, _)] [1, 2, 0] rfl ?_
      obtain ⟨z46, hlz46, hf⟩ := bd_some hf
      refine loop_v (step := X6_isFitting_L46 (gC_whole w) (gC_turned w)) (fun s46 : Int32 => V p l e (k2_rm 2 44) s m args below meth c (inW (ccells g ad w)) (EN below args s g (ccells g ad w) (ccells g ad w) (some (.int rr))) g 6 (ccells g ad w) 0 0 46 [(0, .ref (ad 1)), (1, .ref (ad 71)), (2, .int s46)] []) (fun z46_q : (Unit) ⊕ (Unit) => Sum.elim (fun z46_0 : Unit => V p l e (k2_rm 2 44) s m args below meth c (inW (ccells g ad w)) (EN below args s g (ccells g ad w) (ccells g ad w) (some (.int rr))) g 6 (ccells g ad w) 0 0 100 [] []) (fun z46_r0 : (Unit) => V p l e (k2_rm 2 44) s m args below meth c (inW (ccells g ad w)) (EN below args s g (ccells g ad w) (ccells g ad w) (some (.int rr))) g 6 (ccells g ad w) 0 0 108 [] []) z46_q) ?_ 5000 0 z46 hlz46 ?_
      · intro s46 rL hf hin hout
        unfold X6_isFitting_L46 at hf
        refine v_iload_n hG 2 rfl rfl dX6_isFitting_46 ?_
        refine v_aload_n hG 0 rfl rfl dX6_isFitting_47 ?_
        refine c_g_1_8 hG wk_167 dX6_isFitting_48 ?_
        refine v_icmp_ge hG 108 dX6_isFitting_51 rfl hf (fun hf => ?_) (fun hf => ?_)
        · refine v_sub [] [] rfl ?_
          exact hout _ (Option.some.inj hf).symm
        · refine v_lconst hG (v := 0) (by decide) dX6_isFitting_54 ?_
          refine v_lstore_n hG [(3, _), (0, _), (1, _), (2, _)] dX6_isFitting_55 rfl (by decide) rfl ?_
          refine v_iconst hG (v := 0) (by decide) dX6_isFitting_56 ?_
          refine v_istore hG [(5, _), (3, _), (0, _), (1, _), (2, _)] dX6_isFitting_57 (by decide) rfl ?_
          refine v_sub [(0, _), (1, _), (2, _), (3, _), (5, _)] [2, 3, 4, 1, 0] rfl ?_
          obtain ⟨z59, hlz59, hf⟩ := bd_some hf
          refine loop_v (step := X6_isFitting_L59 (gC_whole w) (gC_turned w) s46) (fun s59 : Int64 × Int32 => V p l e (k2_rm 2 44) s m args below meth c (inW (ccells g ad w)) (EN below args s g (ccells g ad w) (ccells g ad w) (some (.int rr))) g 6 (ccells g ad w) 0 0 59 [(0, .ref (ad 1)), (1, .ref (ad 71)), (2, .int s46), (3, .long s59.1), (5, .int s59.2)] []) (fun z59_q : (Int64) => V p l e (k2_rm 2 44) s m args below meth c (inW (ccells g ad w)) (EN below args s g (ccells g ad w) (ccells g ad w) (some (.int rr))) g 6 (ccells g ad w) 0 0 91 [(0, .ref (ad 1)), (1, .ref (ad 71)), (2, .int s46), (3, .long z59_q)] []) ?_ 5000 (0, 0) z59 hlz59 ?_
          · intro s59 rL hf hin hout
            unfold X6_isFitting_L59 at hf
            refine v_iload hG 4 rfl dX6_isFitting_59 ?_
            refine v_aload_n hG 0 rfl rfl dX6_isFitting_61 ?_
            refine c_g_1_7 hG wk_160 dX6_isFitting_62 ?_
            refine v_icmp_ge hG 91 dX6_isFitting_65 rfl hf (fun hf => ?_) (fun hf => ?_)
            · refine v_sub [(0, _), (1, _), (2, _), (3, _)] [0, 1, 2, 3] rfl ?_
              exact hout _ (Option.some.inj hf).symm
            · refine v_lload_n hG 3 rfl rfl dX6_isFitting_68 ?_
              refine v_aload_n hG 0 rfl rfl dX6_isFitting_69 ?_
              refine c_g_1_6 hG wk_148 dX6_isFitting_70 ?_
              refine v_iload_n hG 2 rfl rfl dX6_isFitting_73 ?_
              refine c_o_8 hG dX6_isFitting_74 hf (fun hi74 hf => ?_)
              refine v_iload hG 4 rfl dX6_isFitting_75 ?_
              refine c_rl_8 hG hi74 dX6_isFitting_77 hf (fun hf => ?_)
              refine v_aload_n hG 1 rfl rfl dX6_isFitting_78 ?_
              refine v_iload hG 4 rfl dX6_isFitting_79 ?_
              refine c_l_71 hG dX6_isFitting_81 hf (fun hf => ?_)
              refine v_lmul hG dX6_isFitting_82 ?_
              refine v_ladd hG dX6_isFitting_83 ?_
              refine v_lstore_n hG [(3, _), (0, _), (1, _), (2, _), (5, _)] dX6_isFitting_84 rfl (by decide) rfl ?_
              refine v_iinc hG 4 (v := s59.2 + 1) [(5, _), (3, _), (0, _), (1, _), (2, _)] dX6_isFitting_85 rfl rfl (by decide) rfl ?_
              refine v_goto hG 59 dX6_isFitting_88 rfl ?_
              refine v_sub [(0, _), (1, _), (2, _), (3, _), (5, _)] [2, 3, 4, 1, 0] rfl ?_
              exact hin _ (Option.some.inj hf).symm
          · show V p l e (k2_rm 2 44) s m args below meth c (inW (ccells g ad w)) (EN below args s g (ccells g ad w) (ccells g ad w) (some (.int rr))) g 6 (ccells g ad w) 0 0 91 [(0, .ref (ad 1)), (1, .ref (ad 71)), (2, .int s46), (3, .long z59)] []
            refine v_aload_n hG 0 rfl rfl dX6_isFitting_91 ?_
            refine v_iload_n hG 2 rfl rfl dX6_isFitting_92 ?_
            refine v_lload_n hG 3 rfl rfl dX6_isFitting_93 ?_
            obtain ⟨r94, hr94, hf⟩ := bd_some hf
            refine v_callV hG (st := []) 1 6 (ct_X6_isHolding_w l g ad w s46 z59 r94 hr94) iw_X6_isHolding wk_1008 rfl rfl ⟨rfl, rfl, Nat.le_of_ble_eq_true rfl, Nat.le_of_ble_eq_true rfl⟩ ⟨Nat.le_of_ble_eq_true rfl, Nat.le_of_ble_eq_true rfl⟩ rfl rfl (Nat.le_of_ble_eq_true rfl) (ccells_fst _ _ _ _) dX6_isFitting_94 ?_
            refine (show V p l e (k2_rm 2 44) s m args below meth c (inW (ccells g ad w)) (EN below args s g (ccells g ad w) (ccells g ad w) (some (.int rr))) g 6 (ccells g ad w) 0 0 97 [(0, .ref (ad 1)), (1, .ref (ad 71)), (2, .int s46), (3, .long z59)] [.int r94] from ?_)
            refine v_if_ne hG 102 dX6_isFitting_97 rfl hf (fun hf => ?_) (fun hf => ?_)
            · refine v_iinc hG 2 (v := s46 + 1) [(2, _), (0, _), (1, _), (3, _)] dX6_isFitting_102 rfl rfl (by decide) rfl ?_
              refine v_goto hG 46 dX6_isFitting_105 rfl ?_
              refine v_sub [(0, _), (1, _), (2, _)] [1, 2, 0] rfl ?_
              exact hin _ (Option.some.inj hf).symm
            · refine v_sub [] [] rfl ?_
              exact hout _ (Option.some.inj hf).symm
      · rcases z46 with z46_x0 | z46_x0
        · simp only [Sum.elim_inl] at hf
          show V p l e (k2_rm 2 44) s m args below meth c (inW (ccells g ad w)) (EN below args s g (ccells g ad w) (ccells g ad w) (some (.int rr))) g 6 (ccells g ad w) 0 0 100 [] []
          refine v_iconst hG (v := 0) (by decide) dX6_isFitting_100 ?_
          cases hf
          exact v_zret (x := 0) hG hr rfl dX6_isFitting_101
        · simp only [Sum.elim_inr] at hf
          show V p l e (k2_rm 2 44) s m args below meth c (inW (ccells g ad w)) (EN below args s g (ccells g ad w) (ccells g ad w) (some (.int rr))) g 6 (ccells g ad w) 0 0 108 [] []
          refine v_iconst hG (v := 1) (by decide) dX6_isFitting_108 ?_
          cases hf
          exact v_zret (x := 1) hG hr rfl dX6_isFitting_109
