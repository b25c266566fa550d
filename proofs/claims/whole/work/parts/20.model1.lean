def X9_thrown (w : MW) : Option (Int32) := (some (gM_thrown w))
set_option maxRecDepth 100000 in
set_option maxHeartbeats 4000000 in
theorem ct_X9_thrown (l : Launch) (g : wG) (ad : Nat → Nat) (w : MW)  (rr : Int32) (hf : X9_thrown w = some rr) : MetN l g yX9_thrown cX9_thrown 1 (some .int) (k2_rm 0 0) [.ref (ad 0)] (mcells g ad w) (mcells g ad w) (some (.int rr)) := by
  refine MetN.of2 [(0, .ref (ad 0))] rfl (by decide +kernel) (Nat.le_of_ble_eq_true rfl) ?_
  intro p e s m args below meth c hG hr
  unfold X9_thrown at hf
  refine v_aload_n hG 0 rfl rfl dX9_thrown_0 ?_
  refine m_g_0_0 hG wk_1066 dX9_thrown_1 ?_
  cases hf
  exact v_iret hG hr dX9_thrown_4
def X9_within (a0 : Int64) (a1 : Int64) (a2 : Int64) : Option (Int32) := (if a0 < a1 then (some 0) else (if a2 < a0 then (some 0) else (some 1)))
set_option maxRecDepth 100000 in
set_option maxHeartbeats 4000000 in
theorem ct_X9_within (l : Launch) (g : wG) (a0 : Int64) (a1 : Int64) (a2 : Int64) (rr : Int32) (hf : X9_within a0 a1 a2 = some rr) : MetN l g yX9_within cX9_within 6 (some .boolean) (k2_rm 0 0) [.long a0, .long a1, .long a2] [] [] (some (.int rr)) := by
  refine MetN.of2 [(0, .long a0), (2, .long a1), (4, .long a2)] rfl (by decide +kernel) (Nat.le_of_ble_eq_true rfl) ?_
  intro p e s m args below meth c hG hr
  unfold X9_within at hf
  refine v_lload_n hG 0 rfl rfl dX9_within_0 ?_
  refine v_lload_n hG 1 rfl rfl dX9_within_1 ?_
  refine v_lcmp_lt hG 17 dX9_within_2 dX9_within_3 rfl hf (fun hf => ?_) (fun hf => ?_)
  · refine v_iconst hG (v := 0) (by decide) dX9_within_17 ?_
    cases hf
    exact v_zret (x := 0) hG hr rfl dX9_within_18
  · refine v_lload_n hG 0 rfl rfl dX9_within_6 ?_
    refine v_lload hG 2 rfl dX9_within_7 ?_
    refine v_lcmp_gt hG 17 dX9_within_9 dX9_within_10 rfl hf (fun hf => ?_) (fun hf => ?_)
    · refine v_iconst hG (v := 0) (by decide) dX9_within_17 ?_
      cases hf
      exact v_zret (x := 0) hG hr rfl dX9_within_18
    · refine v_iconst hG (v := 1) (by decide) dX9_within_13 ?_
      refine v_goto hG 18 dX9_within_14 rfl ?_
      cases hf
      exact v_zret (x := 1) hG hr rfl dX9_within_18
def X9_passes_J18  (j18_0 : MW) (j18_1 : Int32) : Option (Int32 × MW) := (bnd (sM_thrown j18_0 j18_1) (fun w18 : MW => (if (gM_thrown w18) = 0 then (some (1, w18)) else (some (0, w18)))))
def X9_passes (w : MW) (a0 : Int32) (a1 : Int32) : Option (Int32 × MW) := (if a0 = 0 then (if a1 = 0 then (X9_passes_J18 w 0) else (X9_passes_J18 w 2)) else (X9_passes_J18 w 1))
set_option maxRecDepth 100000 in
set_option maxHeartbeats 4000000 in
theorem ct_X9_passes (l : Launch) (g : wG) (ad : Nat → Nat) (w : MW) (a0 : Int32) (a1 : Int32) (rr : Int32 × MW) (hf : X9_passes w a0 a1 = some rr) : MetN l g yX9_passes cX9_passes 3 (some .boolean) (k2_rm 0 0) [.ref (ad 0), .int a0, .int a1] (mcells g ad w) (mcells g ad rr.2) (some (.int rr.1)) := by
  refine MetN.of2 [(0, .ref (ad 0)), (1, .int a0), (2, .int a1)] rfl (by decide +kernel) (Nat.le_of_ble_eq_true rfl) ?_
  intro p e s m args below meth c hG hr
  unfold X9_passes at hf
  have j18 : ∀ (j18_0 : MW) (j18_1 : Int32), X9_passes_J18 j18_0 j18_1 = some rr → V p l e (k2_rm 0 0) s m args below meth c (inW (mcells g ad w)) (EN below args s g (mcells g ad w) (mcells g ad rr.2) (some (.int rr.1))) g 3 (mcells g ad j18_0) 0 0 18 [(0, .ref (ad 0))] [.int j18_1, .ref (ad 0)] := by
    intro j18_0 j18_1 hf
    unfold X9_passes_J18 at hf
    refine m_p_0_0 hG wk_1066 dX9_passes_18 hf (fun w18 hf => ?_)
    refine v_aload_n hG 0 rfl rfl dX9_passes_21 ?_
    refine m_g_0_0 hG wk_1066 dX9_passes_22 ?_
    refine v_if_ne hG 32 dX9_passes_25 rfl hf (fun hf => ?_) (fun hf => ?_)
    · refine v_iconst hG (v := 0) (by decide) dX9_passes_32 ?_
      cases hf
      exact v_zret (x := 0) hG hr rfl dX9_passes_33
    · refine v_iconst hG (v := 1) (by decide) dX9_passes_28 ?_
      refine v_goto hG 33 dX9_passes_29 rfl ?_
      cases hf
      exact v_zret (x := 1) hG hr rfl dX9_passes_33
  refine v_aload_n hG 0 rfl rfl dX9_passes_0 ?_
  refine v_iload_n hG 1 rfl rfl dX9_passes_1 ?_
  refine v_if_eq hG 9 dX9_passes_2 rfl hf (fun hf => ?_) (fun hf => ?_)
  · refine v_iload_n hG 2 rfl rfl dX9_passes_9 ?_
    refine v_if_eq hG 17 dX9_passes_10 rfl hf (fun hf => ?_) (fun hf => ?_)
    · refine v_iconst hG (v := 0) (by decide) dX9_passes_17 ?_
      refine v_sub [(0, _)] [0] rfl ?_
      exact j18 w 0 hf
    · refine v_iconst hG (v := 2) (by decide) dX9_passes_13 ?_
      refine v_goto hG 18 dX9_passes_14 rfl ?_
      refine v_sub [(0, _)] [0] rfl ?_
      exact j18 w 2 hf
  · refine v_iconst hG (v := 1) (by decide) dX9_passes_5 ?_
    refine v_goto hG 18 dX9_passes_6 rfl ?_
    refine v_sub [(0, _)] [0] rfl ?_
    exact j18 w 1 hf
def X9_passes3_J26  (j26_0 : MW) (j26_1 : Int32) : Option (Int32 × MW) := (bnd (sM_thrown j26_0 j26_1) (fun w26 : MW => (if (gM_thrown w26) = 0 then (some (1, w26)) else (some (0, w26)))))
def X9_passes3 (w : MW) (a0 : Int32) (a1 : Int32) (a2 : Int32) : Option (Int32 × MW) := (if a0 = 0 then (if a1 = 0 then (if a2 = 0 then (X9_passes3_J26 w 0) else (X9_passes3_J26 w 3)) else (X9_passes3_J26 w 2)) else (X9_passes3_J26 w 1))
set_option maxRecDepth 100000 in
set_option maxHeartbeats 4000000 in
theorem ct_X9_passes3 (l : Launch) (g : wG) (ad : Nat → Nat) (w : MW) (a0 : Int32) (a1 : Int32) (a2 : Int32) (rr : Int32 × MW) (hf : X9_passes3 w a0 a1 a2 = some rr) : MetN l g yX9_passes3 cX9_passes3 4 (some .boolean) (k2_rm 0 0) [.ref (ad 0), .int a0, .int a1, .int a2] (mcells g ad w) (mcells g ad rr.2) (some (.int rr.1)) := by
  refine MetN.of2 [(0, .ref (ad 0)), (1, .int a0), (2, .int a1), (3, .int a2)] rfl (by decide +kernel) (Nat.le_of_ble_eq_true rfl) ?_
  intro p e s m args below meth c hG hr
  unfold X9_passes3 at hf
  have j26 : ∀ (j26_0 : MW) (j26_1 : Int32), X9_passes3_J26 j26_0 j26_1 = some rr → V p l e (k2_rm 0 0) s m args below meth c (inW (mcells g ad w)) (EN below args s g (mcells g ad w) (mcells g ad rr.2) (some (.int rr.1))) g 4 (mcells g ad j26_0) 0 0 26 [(0, .ref (ad 0))] [.int j26_1, .ref (ad 0)] := by
    intro j26_0 j26_1 hf
    unfold X9_passes3_J26 at hf
    refine m_p_0_0 hG wk_1066 dX9_passes3_26 hf (fun w26 hf => ?_)
    refine v_aload_n hG 0 rfl rfl dX9_passes3_29 ?_
    refine m_g_0_0 hG wk_1066 dX9_passes3_30 ?_
    refine v_if_ne hG 40 dX9_passes3_33 rfl hf (fun hf => ?_) (fun hf => ?_)
    · refine v_iconst hG (v := 0) (by decide) dX9_passes3_40 ?_
      cases hf
      exact v_zret (x := 0) hG hr rfl dX9_passes3_41
    · refine v_iconst hG (v := 1) (by decide) dX9_passes3_36 ?_
      refine v_goto hG 41 dX9_passes3_37 rfl ?_
      cases hf
      exact v_zret (x := 1) hG hr rfl dX9_passes3_41
  refine v_aload_n hG 0 rfl rfl dX9_passes3_0 ?_
  refine v_iload_n hG 1 rfl rfl dX9_passes3_1 ?_
  refine v_if_eq hG 9 dX9_passes3_2 rfl hf (fun hf => ?_) (fun hf => ?_)
  · refine v_iload_n hG 2 rfl rfl dX9_passes3_9 ?_
    refine v_if_eq hG 17 dX9_passes3_10 rfl hf (fun hf => ?_) (fun hf => ?_)
    · refine v_iload_n hG 3 rfl rfl dX9_passes3_17 ?_
      refine v_if_eq hG 25 dX9_passes3_18 rfl hf (fun hf => ?_) (fun hf => ?_)
      · refine v_iconst hG (v := 0) (by decide) dX9_passes3_25 ?_
        refine v_sub [(0, _)] [0] rfl ?_
        exact j26 w 0 hf
      · refine v_iconst hG (v := 3) (by decide) dX9_passes3_21 ?_
        refine v_goto hG 26 dX9_passes3_22 rfl ?_
        refine v_sub [(0, _)] [0] rfl ?_
        exact j26 w 3 hf
    · refine v_iconst hG (v := 2) (by decide) dX9_passes3_13 ?_
      refine v_goto hG 26 dX9_passes3_14 rfl ?_
      refine v_sub [(0, _)] [0] rfl ?_
      exact j26 w 2 hf
  · refine v_iconst hG (v := 1) (by decide) dX9_passes3_5 ?_
    refine v_goto hG 26 dX9_passes3_6 rfl ?_
    refine v_sub [(0, _)] [0] rfl ?_
    exact j26 w 1 hf
def X9_down_J36  (j36_0 : Int64) (j36_1 : Int32) (j36_2 : Int32) : Option (Int64) := (if j36_1 = j36_2 then (some j36_0) else (some (j36_0 - 1)))
def X9_down_J25 (a1 : Int64) (j25_0 : Int64) (j25_1 : Int32) : Option (Int64) := (if 0 ≤ a1 then (X9_down_J36 j25_0 j25_1 0) else (X9_down_J36 j25_0 j25_1 1))
def X9_down (a0 : Int64) (a1 : Int64) : Option (Int64) := (if a1 = 0 then none else (if ((a0 / a1) * a1) = a0 then (some (a0 / a1)) else (if 0 ≤ a0 then (X9_down_J25 a1 (a0 / a1) 0) else (X9_down_J25 a1 (a0 / a1) 1))))
set_option maxRecDepth 100000 in
set_option maxHeartbeats 4000000 in
theorem ct_X9_down (l : Launch) (g : wG) (a0 : Int64) (a1 : Int64) (rr : Int64) (hf : X9_down a0 a1 = some rr) : MetN l g yX9_down cX9_down 6 (some .long) (k2_rm 0 0) [.long a0, .long a1] [] [] (some (.long rr)) := by
  refine MetN.of2 [(0, .long a0), (2, .long a1)] rfl (by decide +kernel) (Nat.le_of_ble_eq_true rfl) ?_
  intro p e s m args below meth c hG hr
  unfold X9_down at hf
  have j36 : ∀ (j36_0 : Int64) (j36_1 : Int32) (j36_2 : Int32), X9_down_J36 j36_0 j36_1 j36_2 = some rr → V p l e (k2_rm 0 0) s m args below meth c (inW []) (EN below args s g [] [] (some (.long rr))) g 6 [] 0 0 36 [(4, .long j36_0)] [.int j36_2, .int j36_1] := by
    intro j36_0 j36_1 j36_2 hf
    unfold X9_down_J36 at hf
    refine v_icmp_eq hG 46 dX9_down_36 rfl hf (fun hf => ?_) (fun hf => ?_)
    · refine v_lload hG 0 rfl dX9_down_46 ?_
      cases hf
      exact v_lret hG hr dX9_down_48
    · refine v_lload hG 0 rfl dX9_down_39 ?_
      refine v_lconst hG (v := 1) (by decide) dX9_down_41 ?_
      refine v_lsub hG dX9_down_42 ?_
      refine v_goto hG 48 dX9_down_43 rfl ?_
      cases hf
      exact v_lret hG hr dX9_down_48
  have j25 : ∀ (j25_0 : Int64) (j25_1 : Int32), X9_down_J25 a1 j25_0 j25_1 = some rr → V p l e (k2_rm 0 0) s m args below meth c (inW []) (EN below args s g [] [] (some (.long rr))) g 6 [] 0 0 25 [(2, .long a1), (4, .long j25_0)] [.int j25_1] := by
    intro j25_0 j25_1 hf
    unfold X9_down_J25 at hf
    refine v_lload_n hG 0 rfl rfl dX9_down_25 ?_
    refine v_lconst hG (v := 0) (by decide) dX9_down_26 ?_
    refine v_lcmp_ge hG 35 dX9_down_27 dX9_down_28 rfl hf (fun hf => ?_) (fun hf => ?_)
    · refine v_iconst hG (v := 0) (by decide) dX9_down_35 ?_
      refine v_sub [(4, _)] [1] rfl ?_
      exact j36 j25_0 j25_1 0 hf
    · refine v_iconst hG (v := 1) (by decide) dX9_down_31 ?_
      refine v_goto hG 36 dX9_down_32 rfl ?_
      refine v_sub [(4, _)] [1] rfl ?_
      exact j36 j25_0 j25_1 1 hf
  refine v_lload_n hG 0 rfl rfl dX9_down_0 ?_
  refine v_lload_n hG 1 rfl rfl dX9_down_1 ?_
  refine v_ldiv hG dX9_down_2 hf (fun hf => ?_)
  refine v_lstore hG [(4, _), (0, _), (2, _)] dX9_down_3 (by decide) rfl ?_
  refine v_lload hG 0 rfl dX9_down_5 ?_
  refine v_lload_n hG 2 rfl rfl dX9_down_7 ?_
  refine v_lmul hG dX9_down_8 ?_
  refine v_lload_n hG 1 rfl rfl dX9_down_9 ?_
  refine v_lcmp_eq hG 46 dX9_down_10 dX9_down_11 rfl hf (fun hf => ?_) (fun hf => ?_)
  · refine v_lload hG 0 rfl dX9_down_46 ?_
    cases hf
    exact v_lret hG hr dX9_down_48
  · refine v_lload_n hG 1 rfl rfl dX9_down_14 ?_
    refine v_lconst hG (v := 0) (by decide) dX9_down_15 ?_
    refine v_lcmp_ge hG 24 dX9_down_16 dX9_down_17 rfl hf (fun hf => ?_) (fun hf => ?_)
    · refine v_iconst hG (v := 0) (by decide) dX9_down_24 ?_
      refine v_sub [(2, _), (4, _)] [2, 0] rfl ?_
      exact j25 (a0 / a1) 0 hf
    · refine v_iconst hG (v := 1) (by decide) dX9_down_20 ?_
      refine v_goto hG 25 dX9_down_21 rfl ?_
      refine v_sub [(2, _), (4, _)] [2, 0] rfl ?_
      exact j25 (a0 / a1) 1 hf
def X9_up (a0 : Int64) (a1 : Int64) : Option (Int64) := ((X9_down (-a0) a1).bind (fun r3 : Int64 => (some (-r3))))
set_option maxRecDepth 100000 in
set_option maxHeartbeats 4000000 in
theorem ct_X9_up (l : Launch) (g : wG) (a0 : Int64) (a1 : Int64) (rr : Int64) (hf : X9_up a0 a1 = some rr) : MetN l g yX9_up cX9_up 4 (some .long) (k2_rm 1 25) [.long a0, .long a1] [] [] (some (.long rr)) := by
  refine MetN.of2 [(0, .long a0), (2, .long a1)] rfl (by decide +kernel) (Nat.le_of_ble_eq_true rfl) ?_
  intro p e s m args below meth c hG hr
  unfold X9_up at hf
  refine v_lload_n hG 0 rfl rfl dX9_up_0 ?_
  refine v_lneg hG dX9_up_1 ?_
  refine v_lload_n hG 1 rfl rfl dX9_up_2 ?_
  obtain ⟨r3, hr3, hf⟩ := bd_some hf
  refine v_callP hG (st := []) (ct_X9_down l g (-a0) a1 r3 hr3) sw_X9_down wk_1300 ⟨rfl, rfl, Nat.le_of_ble_eq_true rfl, Nat.le_of_ble_eq_true rfl⟩ ⟨Nat.le_of_ble_eq_true rfl, Nat.le_of_ble_eq_true rfl⟩ rfl rfl (Nat.le_of_ble_eq_true rfl) dX9_up_3 ?_
  refine (show V p l e (k2_rm 1 25) s m args below meth c (inW []) (EN below args s g [] [] (some (.long rr))) g 4 [] 0 0 6 [(0, .long a0), (2, .long a1)] [.long r3] from ?_)
  refine v_lneg hG dX9_up_6 ?_
  cases hf
  exact v_lret hG hr dX9_up_7
def X9_endPoints_L2  (s2 : MW × Int32) : Option ((MW × Int32) ⊕ ((MW))) := (if 12 ≤ s2.2 then (some (.inr s2.1)) else (if inR s2.2 12 = true then (bnd (sM_isPut s2.1 (upd (gM_isPut s2.1) s2.2.toNatClampNeg (vp_nar .boolean 0))) (fun w14 : MW => (some (.inl (w14, (s2.2 + 1)))))) else none))
def X9_endPoints (w : MW) : Option (MW) := ((iter (X9_endPoints_L2) 5000 (w, 0)).bind (fun z2 : (MW) => (bnd (sM_isTurned z2 0) (fun w23 : MW => (bnd (sM_hasBest w23 0) (fun w28 : MW => (some w28)))))))
set_option maxRecDepth 100000 in
set_option maxHeartbeats 4000000 in
theorem ct_X9_endPoints (l : Launch) (g : wG) (ad : Nat → Nat) (w : MW)  (rr : MW) (hf : X9_endPoints w = some rr) : MetN l g yX9_endPoints cX9_endPoints 2 none (k2_rm 0 0) [.ref (ad 0)] (mcells g ad w) (mcells g ad rr) none := by
  refine MetN.of2 [(0, .ref (ad 0))] rfl (by decide +kernel) (Nat.le_of_ble_eq_true rfl) ?_
  intro p e s m args below meth c hG hr
  unfold X9_endPoints at hf
  refine v_iconst hG (v := 0) (by decide) dX9_endPoints_0 ?_
  refine v_istore_n hG [(1, _), (0, _)] dX9_endPoints_1 rfl (by decide) rfl ?_
  refine v_sub [(0, _), (1, _)] [1, 0] rfl ?_
  obtain ⟨z2, hlz2, hf⟩ := bd_some hf
  refine loop_v (step := X9_endPoints_L2) (fun s2 : MW × Int32 => V p l e (k2_rm 0 0) s m args below meth c (inW (mcells g ad w)) (EN below args s g (mcells g ad w) (mcells g ad rr) none) g 2 (mcells g ad s2.1) 0 0 2 [(0, .ref (ad 0)), (1, .int s2.2)] []) (fun z2_q : (MW) => V p l e (k2_rm 0 0) s m args below meth c (inW (mcells g ad w)) (EN below args s g (mcells g ad w) (mcells g ad rr) none) g 2 (mcells g ad z2_q) 0 0 21 [(0, .ref (ad 0))] []) ?_ 5000 (w, 0) z2 hlz2 ?_
  · intro s2 rL hf hin hout
    unfold X9_endPoints_L2 at hf
    refine v_iload_n hG 1 rfl rfl dX9_endPoints_2 ?_
    refine v_bipush hG (v := 12) (by decide) dX9_endPoints_3 ?_
    refine v_icmp_ge hG 21 dX9_endPoints_5 rfl hf (fun hf => ?_) (fun hf => ?_)
    · refine v_sub [(0, _)] [0] rfl ?_
      exact hout _ (Option.some.inj hf).symm
    · refine v_aload_n hG 0 rfl rfl dX9_endPoints_8 ?_
      refine m_g_0_33 hG wk_1099 dX9_endPoints_9 ?_
      refine v_iload_n hG 1 rfl rfl dX9_endPoints_12 ?_
      refine v_iconst hG (v := 0) (by decide) dX9_endPoints_13 ?_
      refine m_s_26 hG dX9_endPoints_14 hf (fun w14 hf => ?_)
      refine v_iinc hG 1 (v := s2.2 + 1) [(1, _), (0, _)] dX9_endPoints_15 rfl rfl (by decide) rfl ?_
      refine v_goto hG 2 dX9_endPoints_18 rfl ?_
      refine v_sub [(0, _), (1, _)] [1, 0] rfl ?_
      exact hin _ (Option.some.inj hf).symm
  · show V p l e (k2_rm 0 0) s m args below meth c (inW (mcells g ad w)) (EN below args s g (mcells g ad w) (mcells g ad rr) none) g 2 (mcells g ad z2) 0 0 21 [(0, .ref (ad 0))] []
    refine v_aload_n hG 0 rfl rfl dX9_endPoints_21 ?_
    refine v_iconst hG (v := 0) (by decide) dX9_endPoints_22 ?_
    refine m_p_0_35 hG wk_1101 dX9_endPoints_23 rfl rfl hf (fun w23 hf => ?_)
    refine v_aload_n hG 0 rfl rfl dX9_endPoints_26 ?_
    refine v_iconst hG (v := 0) (by decide) dX9_endPoints_27 ?_
    refine m_p_0_37 hG wk_1103 dX9_endPoints_28 rfl rfl hf (fun w28 hf => ?_)
    cases hf
    exact v_vret hG hr dX9_endPoints_31
def X9_endSmall (w : MW) : Option (MW) := (bnd (sM_isSmall w 0) (fun w2 : MW => ((X9_endPoints w2).bind (fun r6 : MW => (some r6)))))
set_option maxRecDepth 100000 in
set_option maxHeartbeats 4000000 in
theorem ct_X9_endSmall (l : Launch) (g : wG) (ad : Nat → Nat) (w : MW)  (rr : MW) (hf : X9_endSmall w = some rr) : MetN l g yX9_endSmall cX9_endSmall 1 none (k2_rm 1 21) [.ref (ad 0)] (mcells g ad w) (mcells g ad rr) none := by
  refine MetN.of2 [(0, .ref (ad 0))] rfl (by decide +kernel) (Nat.le_of_ble_eq_true rfl) ?_
  intro p e s m args below meth c hG hr
  unfold X9_endSmall at hf
  refine v_aload_n hG 0 rfl rfl dX9_endSmall_0 ?_
  refine v_iconst hG (v := 0) (by decide) dX9_endSmall_1 ?_
  refine m_p_0_9 hG wk_1075 dX9_endSmall_2 rfl rfl hf (fun w2 hf => ?_)
  refine v_aload_n hG 0 rfl rfl dX9_endSmall_5 ?_
  obtain ⟨r6, hr6, hf⟩ := bd_some hf
  refine v_callV hG (st := []) 0 9 (ct_X9_endPoints l g ad w2  r6 hr6) iw_X9_endPoints wk_1220 rfl rfl ⟨rfl, rfl, Nat.le_of_ble_eq_true rfl, Nat.le_of_ble_eq_true rfl⟩ ⟨Nat.le_of_ble_eq_true rfl, Nat.le_of_ble_eq_true rfl⟩ rfl rfl (Nat.le_of_ble_eq_true rfl) (mcells_fst _ _ _ _) dX9_endSmall_6 ?_
  refine (show V p l e (k2_rm 1 21) s m args below meth c (inW (mcells g ad w)) (EN below args s g (mcells g ad w) (mcells g ad rr) none) g 1 (mcells g ad r6) 0 0 9 [(0, .ref (ad 0))] [] from ?_)
  cases hf
  exact v_vret hG hr dX9_endSmall_9
def X9_column_L114  (s114 : MW × Int32) : Option ((MW × Int32) ⊕ ((MW))) := (if 12 ≤ s114.2 then (some (.inr s114.1)) else (if inR ((12 * s114.2) + (gM_columns s114.1)) 144 = true then (bnd (sM_coefficients s114.1 (upd (gM_coefficients s114.1) ((12 * s114.2) + (gM_columns s114.1)).toNatClampNeg 0)) (fun w136 : MW => (some (.inl (w136, (s114.2 + 1)))))) else none))
def X9_column_J73 (a0 : Int32) (a1 : Int32) (a2 : Int32) (j73_0 : MW) (j73_1 : Int32) (j73_2 : Int32) : Option (Int32 × MW) := ((X9_passes j73_0 j73_1 j73_2).bind (fun r73 : Int32 × MW => (if r73.1 = 0 then (some (0, r73.2)) else (if inR (gM_columns r73.2) 12 = true then (bnd (sM_lows r73.2 (upd (gM_lows r73.2) (gM_columns r73.2).toNatClampNeg a0)) (fun w90 : MW => (if inR (gM_columns w90) 12 = true then (bnd (sM_highs w90 (upd (gM_highs w90) (gM_columns w90).toNatClampNeg a1)) (fun w100 : MW => (if inR (gM_columns w100) 12 = true then (bnd (sM_costs w100 (upd (gM_costs w100) (gM_columns w100).toNatClampNeg a2)) (fun w110 : MW => ((iter (X9_column_L114) 5000 (w110, 0)).bind (fun z114 : (MW) => (bnd (sM_columns z114 ((gM_columns z114) + 1)) (fun w150 : MW => ((X9_endSmall w150).bind (fun r154 : MW => (some (((gM_columns r154) - 1), r154)))))))))) else none))) else none))) else none))))
def X9_column_J63 (a0 : Int32) (a1 : Int32) (a2 : Int32) (j63_0 : MW) (j63_1 : Int32) (j63_2 : Int32) : Option (Int32 × MW) := (if j63_1 = 0 then (X9_column_J73 a0 a1 a2 j63_0 j63_2 1) else (X9_column_J73 a0 a1 a2 j63_0 j63_2 0))
def X9_column_J46 (a0 : Int32) (a1 : Int32) (a2 : Int32) (j46_0 : MW) (j46_1 : Int32) : Option (Int32 × MW) := (if (gM_columns j46_0) = 12 then (X9_column_J63 a0 a1 a2 j46_0 j46_1 1) else (X9_column_J63 a0 a1 a2 j46_0 j46_1 0))
def X9_column_J45 (a0 : Int32) (a1 : Int32) (a2 : Int32) (j45_0 : MW) : Option (Int32 × MW) := (X9_column_J46 a0 a1 a2 j45_0 0)
def X9_column (w : MW) (a0 : Int32) (a1 : Int32) (a2 : Int32) : Option (Int32 × MW) := ((X9_within a0.toInt64 (-10000) 10000).bind (fun r8 : Int32 => (if r8 = 0 then (X9_column_J45 a0 a1 a2 w) else ((X9_within a1.toInt64 a0.toInt64 10000).bind (fun r21 : Int32 => (if r21 = 0 then (X9_column_J45 a0 a1 a2 w) else ((X9_within a2.toInt64 (-1000) 1000).bind (fun r35 : Int32 => (if r35 = 0 then (X9_column_J45 a0 a1 a2 w) else (X9_column_J46 a0 a1 a2 w 1))))))))))
set_option maxRecDepth 100000 in
set_option maxHeartbeats 4000000 in
theorem ct_X9_column (l : Launch) (g : wG) (ad : Nat → Nat) (w : MW) (a0 : Int32) (a1 : Int32) (a2 : Int32) (rr : Int32 × MW) (hf : X9_column w a0 a1 a2 = some rr) : MetN l g yX9_column cX9_column 6 (some .int) (k2_rm 2 41) [.ref (ad 0), .int a0, .int a1, .int a2] (mcells g ad w) (mcells g ad rr.2) (some (.int rr.1)) := by
  refine MetN.of2 [(0, .ref (ad 0)), (1, .int a0), (2, .int a1), (3, .int a2)] rfl (by decide +kernel) (Nat.le_of_ble_eq_true rfl) ?_
  intro p e s m args below meth c hG hr
  unfold X9_column at hf
  have j73 : ∀ (j73_0 : MW) (j73_1 : Int32) (j73_2 : Int32), X9_column_J73 a0 a1 a2 j73_0 j73_1 j73_2 = some rr → V p l e (k2_rm 2 41) s m args below meth c (inW (mcells g ad w)) (EN below args s g (mcells g ad w) (mcells g ad rr.2) (some (.int rr.1))) g 6 (mcells g ad j73_0) 0 0 73 [(0, .ref (ad 0)), (1, .int a0), (2, .int a1), (3, .int a2)] [.int j73_2, .int j73_1, .ref (ad 0)] := by
    intro j73_0 j73_1 j73_2 hf
    unfold X9_column_J73 at hf
    obtain ⟨r73, hr73, hf⟩ := bd_some hf
    refine v_callV hG (st := []) 0 9 (ct_X9_passes l g ad j73_0 j73_1 j73_2 r73 hr73) iw_X9_passes wk_1212 rfl rfl ⟨rfl, rfl, Nat.le_of_ble_eq_true rfl, Nat.le_of_ble_eq_true rfl⟩ ⟨Nat.le_of_ble_eq_true rfl, Nat.le_of_ble_eq_true rfl⟩ rfl rfl (Nat.le_of_ble_eq_true rfl) (mcells_fst _ _ _ _) dX9_column_73 ?_
    refine (show V p l e (k2_rm 2 41) s m args below meth c (inW (mcells g ad w)) (EN below args s g (mcells g ad w) (mcells g ad rr.2) (some (.int rr.1))) g 6 (mcells g ad r73.2) 0 0 76 [(0, .ref (ad 0)), (1, .int a0), (2, .int a1), (3, .int a2)] [.int r73.1] from ?_)
    refine v_if_ne hG 81 dX9_column_76 rfl hf (fun hf => ?_) (fun hf => ?_)
    · refine v_aload_n hG 0 rfl rfl dX9_column_81 ?_
      refine m_g_0_3 hG wk_1069 dX9_column_82 ?_
      refine v_aload_n hG 0 rfl rfl dX9_column_85 ?_
      refine m_g_0_1 hG wk_1067 dX9_column_86 ?_
      refine v_iload_n hG 1 rfl rfl dX9_column_89 ?_
      refine m_s_1 hG dX9_column_90 hf (fun w90 hf => ?_)
      refine v_aload_n hG 0 rfl rfl dX9_column_91 ?_
      refine m_g_0_4 hG wk_1070 dX9_column_92 ?_
      refine v_aload_n hG 0 rfl rfl dX9_column_95 ?_
      refine m_g_0_1 hG wk_1067 dX9_column_96 ?_
      refine v_iload_n hG 2 rfl rfl dX9_column_99 ?_
      refine m_s_2 hG dX9_column_100 hf (fun w100 hf => ?_)
      refine v_aload_n hG 0 rfl rfl dX9_column_101 ?_
      refine m_g_0_5 hG wk_1071 dX9_column_102 ?_
      refine v_aload_n hG 0 rfl rfl dX9_column_105 ?_
      refine m_g_0_1 hG wk_1067 dX9_column_106 ?_
      refine v_iload_n hG 3 rfl rfl dX9_column_109 ?_
      refine m_s_3 hG dX9_column_110 hf (fun w110 hf => ?_)
      refine v_iconst hG (v := 0) (by decide) dX9_column_111 ?_
      refine v_istore hG [(5, _), (0, _), (1, _), (2, _), (3, _)] dX9_column_112 (by decide) rfl ?_
      refine v_sub [(0, _), (5, _)] [1, 0] rfl ?_
      obtain ⟨z114, hlz114, hf⟩ := bd_some hf
      refine loop_v (step := X9_column_L114) (fun s114 : MW × Int32 => V p l e (k2_rm 2 41) s m args below meth c (inW (mcells g ad w)) (EN below args s g (mcells g ad w) (mcells g ad rr.2) (some (.int rr.1))) g 6 (mcells g ad s114.1) 0 0 114 [(0, .ref (ad 0)), (5, .int s114.2)] []) (fun z114_q : (MW) => V p l e (k2_rm 2 41) s m args below meth c (inW (mcells g ad w)) (EN below args s g (mcells g ad w) (mcells g ad rr.2) (some (.int rr.1))) g 6 (mcells g ad z114_q) 0 0 143 [(0, .ref (ad 0))] []) ?_ 5000 (w110, 0) z114 hlz114 ?_
      · intro s114 rL hf hin hout
        unfold X9_column_L114 at hf
        refine v_iload hG 1 rfl dX9_column_114 ?_
        refine v_bipush hG (v := 12) (by decide) dX9_column_116 ?_
        refine v_icmp_ge hG 143 dX9_column_118 rfl hf (fun hf => ?_) (fun hf => ?_)
        · refine v_sub [(0, _)] [0] rfl ?_
          exact hout _ (Option.some.inj hf).symm
        · refine v_aload_n hG 0 rfl rfl dX9_column_121 ?_
          refine m_g_0_8 hG wk_1074 dX9_column_122 ?_
          refine v_bipush hG (v := 12) (by decide) dX9_column_125 ?_
          refine v_iload hG 1 rfl dX9_column_127 ?_
          refine v_imul hG dX9_column_129 ?_
          refine v_aload_n hG 0 rfl rfl dX9_column_130 ?_
          refine m_g_0_1 hG wk_1067 dX9_column_131 ?_
          refine v_iadd hG dX9_column_134 ?_
          refine v_iconst hG (v := 0) (by decide) dX9_column_135 ?_
          refine m_s_6 hG dX9_column_136 hf (fun w136 hf => ?_)
          refine v_iinc hG 1 (v := s114.2 + 1) [(5, _), (0, _)] dX9_column_137 rfl rfl (by decide) rfl ?_
          refine v_goto hG 114 dX9_column_140 rfl ?_
          refine v_sub [(0, _), (5, _)] [1, 0] rfl ?_
          exact hin _ (Option.some.inj hf).symm
      · show V p l e (k2_rm 2 41) s m args below meth c (inW (mcells g ad w)) (EN below args s g (mcells g ad w) (mcells g ad rr.2) (some (.int rr.1))) g 6 (mcells g ad z114) 0 0 143 [(0, .ref (ad 0))] []
        refine v_aload_n hG 0 rfl rfl dX9_column_143 ?_
        refine v_dup hG rfl dX9_column_144 ?_
        refine m_g_0_1 hG wk_1067 dX9_column_145 ?_
        refine v_iconst hG (v := 1) (by decide) dX9_column_148 ?_
        refine v_iadd hG dX9_column_149 ?_
        refine m_p_0_1 hG wk_1067 dX9_column_150 hf (fun w150 hf => ?_)
        refine v_aload_n hG 0 rfl rfl dX9_column_153 ?_
        obtain ⟨r154, hr154, hf⟩ := bd_some hf
        refine v_callV hG (st := []) 0 9 (ct_X9_endSmall l g ad w150  r154 hr154) iw_X9_endSmall wk_1216 rfl rfl ⟨rfl, rfl, Nat.le_of_ble_eq_true rfl, Nat.le_of_ble_eq_true rfl⟩ ⟨Nat.le_of_ble_eq_true rfl, Nat.le_of_ble_eq_true rfl⟩ rfl rfl (Nat.le_of_ble_eq_true rfl) (mcells_fst _ _ _ _) dX9_column_154 ?_
        refine (show V p l e (k2_rm 2 41) s m args below meth c (inW (mcells g ad w)) (EN below args s g (mcells g ad w) (mcells g ad rr.2) (some (.int rr.1))) g 6 (mcells g ad r154) 0 0 157 [(0, .ref (ad 0))] [] from ?_)
        refine v_aload_n hG 0 rfl rfl dX9_column_157 ?_
        refine m_g_0_1 hG wk_1067 dX9_column_158 ?_
        refine v_iconst hG (v := 1) (by decide) dX9_column_161 ?_
        refine v_isub hG dX9_column_162 ?_
        cases hf
        exact v_iret hG hr dX9_column_163
    · refine v_iconst hG (v := 0) (by decide) dX9_column_79 ?_
      cases hf
      exact v_iret hG hr dX9_column_80
  have j63 : ∀ (j63_0 : MW) (j63_1 : Int32) (j63_2 : Int32), X9_column_J63 a0 a1 a2 j63_0 j63_1 j63_2 = some rr → V p l e (k2_rm 2 41) s m args below meth c (inW (mcells g ad w)) (EN below args s g (mcells g ad w) (mcells g ad rr.2) (some (.int rr.1))) g 6 (mcells g ad j63_0) 0 0 63 [(0, .ref (ad 0)), (1, .int a0), (2, .int a1), (3, .int a2), (4, .int j63_1)] [.int j63_2, .ref (ad 0)] := by
    intro j63_0 j63_1 j63_2 hf
    unfold X9_column_J63 at hf
    refine v_iload hG 4 rfl dX9_column_63 ?_
    refine v_if_ne hG 72 dX9_column_65 rfl hf (fun hf => ?_) (fun hf => ?_)
    · refine v_iconst hG (v := 0) (by decide) dX9_column_72 ?_
      refine v_sub [(0, _), (1, _), (2, _), (3, _)] [0, 1, 2, 3] rfl ?_
      exact j73 j63_0 j63_2 0 hf
    · refine v_iconst hG (v := 1) (by decide) dX9_column_68 ?_
      refine v_goto hG 73 dX9_column_69 rfl ?_
      refine v_sub [(0, _), (1, _), (2, _), (3, _)] [0, 1, 2, 3] rfl ?_
      exact j73 j63_0 j63_2 1 hf
  have j46 : ∀ (j46_0 : MW) (j46_1 : Int32), X9_column_J46 a0 a1 a2 j46_0 j46_1 = some rr → V p l e (k2_rm 2 41) s m args below meth c (inW (mcells g ad w)) (EN below args s g (mcells g ad w) (mcells g ad rr.2) (some (.int rr.1))) g 6 (mcells g ad j46_0) 0 0 46 [(0, .ref (ad 0)), (1, .int a0), (2, .int a1), (3, .int a2)] [.int j46_1] := by
    intro j46_0 j46_1 hf
    unfold X9_column_J46 at hf
    refine v_istore hG [(4, _), (0, _), (1, _), (2, _), (3, _)] dX9_column_46 (by decide) rfl ?_
    refine v_aload_n hG 1 rfl rfl dX9_column_48 ?_
    refine v_aload_n hG 1 rfl rfl dX9_column_49 ?_
    refine m_g_0_1 hG wk_1067 dX9_column_50 ?_
    refine v_bipush hG (v := 12) (by decide) dX9_column_53 ?_
    refine v_icmp_ne hG 62 dX9_column_55 rfl hf (fun hf => ?_) (fun hf => ?_)
    · refine v_iconst hG (v := 0) (by decide) dX9_column_62 ?_
      refine v_sub [(0, _), (1, _), (2, _), (3, _), (4, _)] [1, 2, 3, 4, 0] rfl ?_
      exact j63 j46_0 j46_1 0 hf
    · refine v_iconst hG (v := 1) (by decide) dX9_column_58 ?_
      refine v_goto hG 63 dX9_column_59 rfl ?_
      refine v_sub [(0, _), (1, _), (2, _), (3, _), (4, _)] [1, 2, 3, 4, 0] rfl ?_
      exact j63 j46_0 j46_1 1 hf
  have j45 : ∀ (j45_0 : MW), X9_column_J45 a0 a1 a2 j45_0 = some rr → V p l e (k2_rm 2 41) s m args below meth c (inW (mcells g ad w)) (EN below args s g (mcells g ad w) (mcells g ad rr.2) (some (.int rr.1))) g 6 (mcells g ad j45_0) 0 0 45 [(0, .ref (ad 0)), (1, .int a0), (2, .int a1), (3, .int a2)] [] := by
    intro j45_0 hf
    unfold X9_column_J45 at hf
    refine v_iconst hG (v := 0) (by decide) dX9_column_45 ?_
    exact j46 j45_0 0 hf
  refine v_iload_n hG 1 rfl rfl dX9_column_0 ?_
  refine v_i2l hG dX9_column_1 ?_
  refine v_ldc2 hG wk_1205 dX9_column_2 ?_
  refine v_ldc2 hG wk_1206 dX9_column_5 ?_
  obtain ⟨r8, hr8, hf⟩ := bd_some hf
  refine v_callP hG (st := []) (ct_X9_within l g a0.toInt64 (-10000) 10000 r8 hr8) sw_X9_within wk_1207 ⟨rfl, rfl, Nat.le_of_ble_eq_true rfl, Nat.le_of_ble_eq_true rfl⟩ ⟨Nat.le_of_ble_eq_true rfl, Nat.le_of_ble_eq_true rfl⟩ rfl rfl (Nat.le_of_ble_eq_true rfl) dX9_column_8 ?_
  refine (show V p l e (k2_rm 2 41) s m args below meth c (inW (mcells g ad w)) (EN below args s g (mcells g ad w) (mcells g ad rr.2) (some (.int rr.1))) g 6 (mcells g ad w) 0 0 11 [(0, .ref (ad 0)), (1, .int a0), (2, .int a1), (3, .int a2)] [.int r8] from ?_)
  refine v_if_eq hG 45 dX9_column_11 rfl hf (fun hf => ?_) (fun hf => ?_)
  · exact j45 w hf
  · refine v_iload_n hG 2 rfl rfl dX9_column_14 ?_
    refine v_i2l hG dX9_column_15 ?_
    refine v_iload_n hG 1 rfl rfl dX9_column_16 ?_
    refine v_i2l hG dX9_column_17 ?_
    refine v_ldc2 hG wk_1206 dX9_column_18 ?_
    obtain ⟨r21, hr21, hf⟩ := bd_some hf
    refine v_callP hG (st := []) (ct_X9_within l g a1.toInt64 a0.toInt64 10000 r21 hr21) sw_X9_within wk_1207 ⟨rfl, rfl, Nat.le_of_ble_eq_true rfl, Nat.le_of_ble_eq_true rfl⟩ ⟨Nat.le_of_ble_eq_true rfl, Nat.le_of_ble_eq_true rfl⟩ rfl rfl (Nat.le_of_ble_eq_true rfl) dX9_column_21 ?_
    refine (show V p l e (k2_rm 2 41) s m args below meth c (inW (mcells g ad w)) (EN below args s g (mcells g ad w) (mcells g ad rr.2) (some (.int rr.1))) g 6 (mcells g ad w) 0 0 24 [(0, .ref (ad 0)), (1, .int a0), (2, .int a1), (3, .int a2)] [.int r21] from ?_)
    refine v_if_eq hG 45 dX9_column_24 rfl hf (fun hf => ?_) (fun hf => ?_)
    · exact j45 w hf
    · refine v_iload_n hG 3 rfl rfl dX9_column_27 ?_
      refine v_i2l hG dX9_column_28 ?_
      refine v_ldc2 hG wk_1210 dX9_column_29 ?_
      refine v_ldc2 hG wk_1211 dX9_column_32 ?_
      obtain ⟨r35, hr35, hf⟩ := bd_some hf
      refine v_callP hG (st := []) (ct_X9_within l g a2.toInt64 (-1000) 1000 r35 hr35) sw_X9_within wk_1207 ⟨rfl, rfl, Nat.le_of_ble_eq_true rfl, Nat.le_of_ble_eq_true rfl⟩ ⟨Nat.le_of_ble_eq_true rfl, Nat.le_of_ble_eq_true rfl⟩ rfl rfl (Nat.le_of_ble_eq_true rfl) dX9_column_35 ?_
      refine (show V p l e (k2_rm 2 41) s m args below meth c (inW (mcells g ad w)) (EN below args s g (mcells g ad w) (mcells g ad rr.2) (some (.int rr.1))) g 6 (mcells g ad w) 0 0 38 [(0, .ref (ad 0)), (1, .int a0), (2, .int a1), (3, .int a2)] [.int r35] from ?_)
      refine v_if_eq hG 45 dX9_column_38 rfl hf (fun hf => ?_) (fun hf => ?_)
      · exact j45 w hf
      · refine v_iconst hG (v := 1) (by decide) dX9_column_41 ?_
        refine v_goto hG 46 dX9_column_42 rfl ?_
        exact j46 w 1 hf
def X9_row_L74  (s74 : MW × Int32) : Option ((MW × Int32) ⊕ ((MW))) := (if 12 ≤ s74.2 then (some (.inr s74.1)) else (if inR ((12 * (gM_rows s74.1)) + s74.2) 144 = true then (bnd (sM_coefficients s74.1 (upd (gM_coefficients s74.1) ((12 * (gM_rows s74.1)) + s74.2).toNatClampNeg 0)) (fun w94 : MW => (some (.inl (w94, (s74.2 + 1)))))) else none))
def X9_row_J44 (a0 : Int32) (a1 : Int32) (j44_0 : MW) (j44_1 : Int32) (j44_2 : Int32) : Option (Int32 × MW) := ((X9_passes j44_0 j44_1 j44_2).bind (fun r44 : Int32 × MW => (if r44.1 = 0 then (some (0, r44.2)) else (if inR (gM_rows r44.2) 12 = true then (bnd (sM_kinds r44.2 (upd (gM_kinds r44.2) (gM_rows r44.2).toNatClampNeg a0)) (fun w61 : MW => (if inR (gM_rows w61) 12 = true then (bnd (sM_rights w61 (upd (gM_rights w61) (gM_rows w61).toNatClampNeg a1)) (fun w71 : MW => ((iter (X9_row_L74) 5000 (w71, 0)).bind (fun z74 : (MW) => (bnd (sM_rows z74 ((gM_rows z74) + 1)) (fun w108 : MW => ((X9_endSmall w108).bind (fun r112 : MW => (some (((gM_rows r112) - 1), r112)))))))))) else none))) else none))))
def X9_row_J39 (a0 : Int32) (a1 : Int32) (j39_0 : MW) (j39_1 : Int32) : Option (Int32 × MW) := (X9_row_J44 a0 a1 j39_0 j39_1 1)
def X9_row_J15 (a0 : Int32) (a1 : Int32) (j15_0 : MW) (j15_1 : Int32) : Option (Int32 × MW) := ((X9_within a0.toInt64 0 1).bind (fun r19 : Int32 => (if r19 = 0 then (X9_row_J39 a0 a1 j15_0 j15_1) else ((X9_within a1.toInt64 (-1000000) 1000000).bind (fun r33 : Int32 => (if r33 = 0 then (X9_row_J39 a0 a1 j15_0 j15_1) else (X9_row_J44 a0 a1 j15_0 j15_1 0)))))))
def X9_row (w : MW) (a0 : Int32) (a1 : Int32) : Option (Int32 × MW) := (if (gM_rows w) = 12 then (X9_row_J15 a0 a1 w 1) else (X9_row_J15 a0 a1 w 0))
set_option maxRecDepth 100000 in
set_option maxHeartbeats 4000000 in
theorem ct_X9_row (l : Launch) (g : wG) (ad : Nat → Nat) (w : MW) (a0 : Int32) (a1 : Int32) (rr : Int32 × MW) (hf : X9_row w a0 a1 = some rr) : MetN l g yX9_row cX9_row 4 (some .int) (k2_rm 2 41) [.ref (ad 0), .int a0, .int a1] (mcells g ad w) (mcells g ad rr.2) (some (.int rr.1)) := by
  refine MetN.of2 [(0, .ref (ad 0)), (1, .int a0), (2, .int a1)] rfl (by decide +kernel) (Nat.le_of_ble_eq_true rfl) ?_
  intro p e s m args below meth c hG hr
  unfold X9_row at hf
  have j44 : ∀ (j44_0 : MW) (j44_1 : Int32) (j44_2 : Int32), X9_row_J44 a0 a1 j44_0 j44_1 j44_2 = some rr → V p l e (k2_rm 2 41) s m args below meth c (inW (mcells g ad w)) (EN below args s g (mcells g ad w) (mcells g ad rr.2) (some (.int rr.1))) g 4 (mcells g ad j44_0) 0 0 44 [(0, .ref (ad 0)), (1, .int a0), (2, .int a1)] [.int j44_2, .int j44_1, .ref (ad 0)] := by
    intro j44_0 j44_1 j44_2 hf
    unfold X9_row_J44 at hf
    obtain ⟨r44, hr44, hf⟩ := bd_some hf
    refine v_callV hG (st := []) 0 9 (ct_X9_passes l g ad j44_0 j44_1 j44_2 r44 hr44) iw_X9_passes wk_1212 rfl rfl ⟨rfl, rfl, Nat.le_of_ble_eq_true rfl, Nat.le_of_ble_eq_true rfl⟩ ⟨Nat.le_of_ble_eq_true rfl, Nat.le_of_ble_eq_true rfl⟩ rfl rfl (Nat.le_of_ble_eq_true rfl) (mcells_fst _ _ _ _) dX9_row_44 ?_
    refine (show V p l e (k2_rm 2 41) s m args below meth c (inW (mcells g ad w)) (EN below args s g (mcells g ad w) (mcells g ad rr.2) (some (.int rr.1))) g 4 (mcells g ad r44.2) 0 0 47 [(0, .ref (ad 0)), (1, .int a0), (2, .int a1)] [.int r44.1] from ?_)
    refine v_if_ne hG 52 dX9_row_47 rfl hf (fun hf => ?_) (fun hf => ?_)
    · refine v_aload_n hG 0 rfl rfl dX9_row_52 ?_
      refine m_g_0_6 hG wk_1072 dX9_row_53 ?_
      refine v_aload_n hG 0 rfl rfl dX9_row_56 ?_
      refine m_g_0_2 hG wk_1068 dX9_row_57 ?_
      refine v_iload_n hG 1 rfl rfl dX9_row_60 ?_
      refine m_s_4 hG dX9_row_61 hf (fun w61 hf => ?_)
      refine v_aload_n hG 0 rfl rfl dX9_row_62 ?_
      refine m_g_0_7 hG wk_1073 dX9_row_63 ?_
      refine v_aload_n hG 0 rfl rfl dX9_row_66 ?_
      refine m_g_0_2 hG wk_1068 dX9_row_67 ?_
      refine v_iload_n hG 2 rfl rfl dX9_row_70 ?_
      refine m_s_5 hG dX9_row_71 hf (fun w71 hf => ?_)
      refine v_iconst hG (v := 0) (by decide) dX9_row_72 ?_
      refine v_istore_n hG [(3, _), (0, _), (1, _), (2, _)] dX9_row_73 rfl (by decide) rfl ?_
      refine v_sub [(0, _), (3, _)] [1, 0] rfl ?_
      obtain ⟨z74, hlz74, hf⟩ := bd_some hf
      refine loop_v (step := X9_row_L74) (fun s74 : MW × Int32 => V p l e (k2_rm 2 41) s m args below meth c (inW (mcells g ad w)) (EN below args s g (mcells g ad w) (mcells g ad rr.2) (some (.int rr.1))) g 4 (mcells g ad s74.1) 0 0 74 [(0, .ref (ad 0)), (3, .int s74.2)] []) (fun z74_q : (MW) => V p l e (k2_rm 2 41) s m args below meth c (inW (mcells g ad w)) (EN below args s g (mcells g ad w) (mcells g ad rr.2) (some (.int rr.1))) g 4 (mcells g ad z74_q) 0 0 101 [(0, .ref (ad 0))] []) ?_ 5000 (w71, 0) z74 hlz74 ?_
      · intro s74 rL hf hin hout
        unfold X9_row_L74 at hf
        refine v_iload_n hG 1 rfl rfl dX9_row_74 ?_
        refine v_bipush hG (v := 12) (by decide) dX9_row_75 ?_
        refine v_icmp_ge hG 101 dX9_row_77 rfl hf (fun hf => ?_) (fun hf => ?_)
        · refine v_sub [(0, _)] [0] rfl ?_
          exact hout _ (Option.some.inj hf).symm
        · refine v_aload_n hG 0 rfl rfl dX9_row_80 ?_
          refine m_g_0_8 hG wk_1074 dX9_row_81 ?_
          refine v_bipush hG (v := 12) (by decide) dX9_row_84 ?_
          refine v_aload_n hG 0 rfl rfl dX9_row_86 ?_
          refine m_g_0_2 hG wk_1068 dX9_row_87 ?_
          refine v_imul hG dX9_row_90 ?_
          refine v_iload_n hG 1 rfl rfl dX9_row_91 ?_
          refine v_iadd hG dX9_row_92 ?_
          refine v_iconst hG (v := 0) (by decide) dX9_row_93 ?_
          refine m_s_6 hG dX9_row_94 hf (fun w94 hf => ?_)
          refine v_iinc hG 1 (v := s74.2 + 1) [(3, _), (0, _)] dX9_row_95 rfl rfl (by decide) rfl ?_
          refine v_goto hG 74 dX9_row_98 rfl ?_
          refine v_sub [(0, _), (3, _)] [1, 0] rfl ?_
          exact hin _ (Option.some.inj hf).symm
      · show V p l e (k2_rm 2 41) s m args below meth c (inW (mcells g ad w)) (EN below args s g (mcells g ad w) (mcells g ad rr.2) (some (.int rr.1))) g 4 (mcells g ad z74) 0 0 101 [(0, .ref (ad 0))] []
        refine v_aload_n hG 0 rfl rfl dX9_row_101 ?_
        refine v_dup hG rfl dX9_row_102 ?_
        refine m_g_0_2 hG wk_1068 dX9_row_103 ?_
        refine v_iconst hG (v := 1) (by decide) dX9_row_106 ?_
        refine v_iadd hG dX9_row_107 ?_
        refine m_p_0_2 hG wk_1068 dX9_row_108 hf (fun w108 hf => ?_)
        refine v_aload_n hG 0 rfl rfl dX9_row_111 ?_
        obtain ⟨r112, hr112, hf⟩ := bd_some hf
        refine v_callV hG (st := []) 0 9 (ct_X9_endSmall l g ad w108  r112 hr112) iw_X9_endSmall wk_1216 rfl rfl ⟨rfl, rfl, Nat.le_of_ble_eq_true rfl, Nat.le_of_ble_eq_true rfl⟩ ⟨Nat.le_of_ble_eq_true rfl, Nat.le_of_ble_eq_true rfl⟩ rfl rfl (Nat.le_of_ble_eq_true rfl) (mcells_fst _ _ _ _) dX9_row_112 ?_
        refine (show V p l e (k2_rm 2 41) s m args below meth c (inW (mcells g ad w)) (EN below args s g (mcells g ad w) (mcells g ad rr.2) (some (.int rr.1))) g 4 (mcells g ad r112) 0 0 115 [(0, .ref (ad 0))] [] from ?_)
        refine v_aload_n hG 0 rfl rfl dX9_row_115 ?_
        refine m_g_0_2 hG wk_1068 dX9_row_116 ?_
        refine v_iconst hG (v := 1) (by decide) dX9_row_119 ?_
        refine v_isub hG dX9_row_120 ?_
        cases hf
        exact v_iret hG hr dX9_row_121
    · refine v_iconst hG (v := 0) (by decide) dX9_row_50 ?_
      cases hf
      exact v_iret hG hr dX9_row_51
  have j39 : ∀ (j39_0 : MW) (j39_1 : Int32), X9_row_J39 a0 a1 j39_0 j39_1 = some rr → V p l e (k2_rm 2 41) s m args below meth c (inW (mcells g ad w)) (EN below args s g (mcells g ad w) (mcells g ad rr.2) (some (.int rr.1))) g 4 (mcells g ad j39_0) 0 0 39 [(0, .ref (ad 0)), (1, .int a0), (2, .int a1)] [.int j39_1, .ref (ad 0)] := by
    intro j39_0 j39_1 hf
    unfold X9_row_J39 at hf
    refine v_iconst hG (v := 1) (by decide) dX9_row_39 ?_
    refine v_goto hG 44 dX9_row_40 rfl ?_
    exact j44 j39_0 j39_1 1 hf
  have j15 : ∀ (j15_0 : MW) (j15_1 : Int32), X9_row_J15 a0 a1 j15_0 j15_1 = some rr → V p l e (k2_rm 2 41) s m args below meth c (inW (mcells g ad w)) (EN below args s g (mcells g ad w) (mcells g ad rr.2) (some (.int rr.1))) g 4 (mcells g ad j15_0) 0 0 15 [(0, .ref (ad 0)), (1, .int a0), (2, .int a1)] [.int j15_1, .ref (ad 0)] := by
    intro j15_0 j15_1 hf
    unfold X9_row_J15 at hf
    refine v_iload_n hG 1 rfl rfl dX9_row_15 ?_
    refine v_i2l hG dX9_row_16 ?_
    refine v_lconst hG (v := 0) (by decide) dX9_row_17 ?_
    refine v_lconst hG (v := 1) (by decide) dX9_row_18 ?_
    obtain ⟨r19, hr19, hf⟩ := bd_some hf
    refine v_callP hG (st := [.int j15_1, .ref (ad 0)]) (ct_X9_within l g a0.toInt64 0 1 r19 hr19) sw_X9_within wk_1207 ⟨rfl, rfl, Nat.le_of_ble_eq_true rfl, Nat.le_of_ble_eq_true rfl⟩ ⟨Nat.le_of_ble_eq_true rfl, Nat.le_of_ble_eq_true rfl⟩ rfl rfl (Nat.le_of_ble_eq_true rfl) dX9_row_19 ?_
    refine (show V p l e (k2_rm 2 41) s m args below meth c (inW (mcells g ad w)) (EN below args s g (mcells g ad w) (mcells g ad rr.2) (some (.int rr.1))) g 4 (mcells g ad j15_0) 0 0 22 [(0, .ref (ad 0)), (1, .int a0), (2, .int a1)] [.int r19, .int j15_1, .ref (ad 0)] from ?_)
    refine v_if_eq hG 39 dX9_row_22 rfl hf (fun hf => ?_) (fun hf => ?_)
    · exact j39 j15_0 j15_1 hf
    · refine v_iload_n hG 2 rfl rfl dX9_row_25 ?_
      refine v_i2l hG dX9_row_26 ?_
      refine v_ldc2 hG wk_1228 dX9_row_27 ?_
      refine v_ldc2 hG wk_1229 dX9_row_30 ?_
      obtain ⟨r33, hr33, hf⟩ := bd_some hf
      refine v_callP hG (st := [.int j15_1, .ref (ad 0)]) (ct_X9_within l g a1.toInt64 (-1000000) 1000000 r33 hr33) sw_X9_within wk_1207 ⟨rfl, rfl, Nat.le_of_ble_eq_true rfl, Nat.le_of_ble_eq_true rfl⟩ ⟨Nat.le_of_ble_eq_true rfl, Nat.le_of_ble_eq_true rfl⟩ rfl rfl (Nat.le_of_ble_eq_true rfl) dX9_row_33 ?_
      refine (show V p l e (k2_rm 2 41) s m args below meth c (inW (mcells g ad w)) (EN below args s g (mcells g ad w) (mcells g ad rr.2) (some (.int rr.1))) g 4 (mcells g ad j15_0) 0 0 36 [(0, .ref (ad 0)), (1, .int a0), (2, .int a1)] [.int r33, .int j15_1, .ref (ad 0)] from ?_)
      refine v_if_ne hG 43 dX9_row_36 rfl hf (fun hf => ?_) (fun hf => ?_)
      · refine v_iconst hG (v := 0) (by decide) dX9_row_43 ?_
        exact j44 j15_0 j15_1 0 hf
      · exact j39 j15_0 j15_1 hf
  refine v_aload_n hG 0 rfl rfl dX9_row_0 ?_
  refine v_aload_n hG 0 rfl rfl dX9_row_1 ?_
  refine m_g_0_2 hG wk_1068 dX9_row_2 ?_
  refine v_bipush hG (v := 12) (by decide) dX9_row_5 ?_
  refine v_icmp_ne hG 14 dX9_row_7 rfl hf (fun hf => ?_) (fun hf => ?_)
  · refine v_iconst hG (v := 0) (by decide) dX9_row_14 ?_
    exact j15 w 0 hf
  · refine v_iconst hG (v := 1) (by decide) dX9_row_10 ?_
    refine v_goto hG 15 dX9_row_11 rfl ?_
    exact j15 w 1 hf
def X9_isRow (w : MW) (a0 : Int32) : Option (Int32) := ((X9_within a0.toInt64 0 (((gM_rows w) - 1).toInt64)).bind (fun r10 : Int32 => (if isB r10 = true then some r10 else none)))
set_option maxRecDepth 100000 in
set_option maxHeartbeats 4000000 in
theorem ct_X9_isRow (l : Launch) (g : wG) (ad : Nat → Nat) (w : MW) (a0 : Int32) (rr : Int32) (hf : X9_isRow w a0 = some rr) : MetN l g yX9_isRow cX9_isRow 2 (some .boolean) (k2_rm 1 25) [.ref (ad 0), .int a0] (mcells g ad w) (mcells g ad w) (some (.int rr)) := by
  refine MetN.of2 [(0, .ref (ad 0)), (1, .int a0)] rfl (by decide +kernel) (Nat.le_of_ble_eq_true rfl) ?_
  intro p e s m args below meth c hG hr
  unfold X9_isRow at hf
  refine v_iload_n hG 1 rfl rfl dX9_isRow_0 ?_
  refine v_i2l hG dX9_isRow_1 ?_
  refine v_lconst hG (v := 0) (by decide) dX9_isRow_2 ?_
  refine v_aload_n hG 0 rfl rfl dX9_isRow_3 ?_
  refine m_g_0_2 hG wk_1068 dX9_isRow_4 ?_
  refine v_iconst hG (v := 1) (by decide) dX9_isRow_7 ?_
  refine v_isub hG dX9_isRow_8 ?_
  refine v_i2l hG dX9_isRow_9 ?_
  obtain ⟨r10, hr10, hf⟩ := bd_some hf
  refine v_callP hG (st := []) (ct_X9_within l g a0.toInt64 0 (((gM_rows w) - 1).toInt64) r10 hr10) sw_X9_within wk_1207 ⟨rfl, rfl, Nat.le_of_ble_eq_true rfl, Nat.le_of_ble_eq_true rfl⟩ ⟨Nat.le_of_ble_eq_true rfl, Nat.le_of_ble_eq_true rfl⟩ rfl rfl (Nat.le_of_ble_eq_true rfl) dX9_isRow_10 ?_
  refine (show V p l e (k2_rm 1 25) s m args below meth c (inW (mcells g ad w)) (EN below args s g (mcells g ad w) (mcells g ad w) (some (.int rr))) g 2 (mcells g ad w) 0 0 13 [(0, .ref (ad 0)), (1, .int a0)] [.int r10] from ?_)
  obtain ⟨hb, hf⟩ := gd_some hf
  cases hf
  exact v_zret hG hr (isB_nar hb) dX9_isRow_13
def X9_isColumn (w : MW) (a0 : Int32) : Option (Int32) := ((X9_within a0.toInt64 0 (((gM_columns w) - 1).toInt64)).bind (fun r10 : Int32 => (if isB r10 = true then some r10 else none)))
set_option maxRecDepth 100000 in
set_option maxHeartbeats 4000000 in
theorem ct_X9_isColumn (l : Launch) (g : wG) (ad : Nat → Nat) (w : MW) (a0 : Int32) (rr : Int32) (hf : X9_isColumn w a0 = some rr) : MetN l g yX9_isColumn cX9_isColumn 2 (some .boolean) (k2_rm 1 25) [.ref (ad 0), .int a0] (mcells g ad w) (mcells g ad w) (some (.int rr)) := by
  refine MetN.of2 [(0, .ref (ad 0)), (1, .int a0)] rfl (by decide +kernel) (Nat.le_of_ble_eq_true rfl) ?_
  intro p e s m args below meth c hG hr
  unfold X9_isColumn at hf
  refine v_iload_n hG 1 rfl rfl dX9_isColumn_0 ?_
  refine v_i2l hG dX9_isColumn_1 ?_
  refine v_lconst hG (v := 0) (by decide) dX9_isColumn_2 ?_
  refine v_aload_n hG 0 rfl rfl dX9_isColumn_3 ?_
  refine m_g_0_1 hG wk_1067 dX9_isColumn_4 ?_
  refine v_iconst hG (v := 1) (by decide) dX9_isColumn_7 ?_
  refine v_isub hG dX9_isColumn_8 ?_
  refine v_i2l hG dX9_isColumn_9 ?_
  obtain ⟨r10, hr10, hf⟩ := bd_some hf
  refine v_callP hG (st := []) (ct_X9_within l g a0.toInt64 0 (((gM_columns w) - 1).toInt64) r10 hr10) sw_X9_within wk_1207 ⟨rfl, rfl, Nat.le_of_ble_eq_true rfl, Nat.le_of_ble_eq_true rfl⟩ ⟨Nat.le_of_ble_eq_true rfl, Nat.le_of_ble_eq_true rfl⟩ rfl rfl (Nat.le_of_ble_eq_true rfl) dX9_isColumn_10 ?_
  refine (show V p l e (k2_rm 1 25) s m args below meth c (inW (mcells g ad w)) (EN below args s g (mcells g ad w) (mcells g ad w) (some (.int rr))) g 2 (mcells g ad w) 0 0 13 [(0, .ref (ad 0)), (1, .int a0)] [.int r10] from ?_)
  obtain ⟨hb, hf⟩ := gd_some hf
  cases hf
  exact v_zret hG hr (isB_nar hb) dX9_isColumn_13
def X9_term_J41 (a0 : Int32) (a1 : Int32) (a2 : Int32) (j41_0 : MW) (j41_1 : Int32) (j41_2 : Int32) : Option (MW) := ((X9_passes j41_0 j41_1 j41_2).bind (fun r41 : Int32 × MW => (if r41.1 = 0 then (some r41.2) else (if inR ((12 * a0) + a1) 144 = true then (bnd (sM_coefficients r41.2 (upd (gM_coefficients r41.2) ((12 * a0) + a1).toNatClampNeg a2)) (fun w58 : MW => ((X9_endSmall w58).bind (fun r60 : MW => (some r60))))) else none))))
def X9_term_J22 (a0 : Int32) (a1 : Int32) (a2 : Int32) (j22_0 : MW) (j22_1 : Int32) : Option (MW) := ((X9_within a2.toInt64 (-1000) 1000).bind (fun r30 : Int32 => (if r30 = 0 then (X9_term_J41 a0 a1 a2 j22_0 j22_1 1) else (X9_term_J41 a0 a1 a2 j22_0 j22_1 0))))
def X9_term_J17 (a0 : Int32) (a1 : Int32) (a2 : Int32) (j17_0 : MW) : Option (MW) := (X9_term_J22 a0 a1 a2 j17_0 1)
def X9_term (w : MW) (a0 : Int32) (a1 : Int32) (a2 : Int32) : Option (MW) := ((X9_isRow w a0).bind (fun r3 : Int32 => (if r3 = 0 then (X9_term_J17 a0 a1 a2 w) else ((X9_isColumn w a1).bind (fun r11 : Int32 => (if r11 = 0 then (X9_term_J17 a0 a1 a2 w) else (X9_term_J22 a0 a1 a2 w 0)))))))
set_option maxRecDepth 100000 in
set_option maxHeartbeats 4000000 in
theorem ct_X9_term (l : Launch) (g : wG) (ad : Nat → Nat) (w : MW) (a0 : Int32) (a1 : Int32) (a2 : Int32) (rr : MW) (hf : X9_term w a0 a1 a2 = some rr) : MetN l g yX9_term cX9_term 4 none (k2_rm 2 46) [.ref (ad 0), .int a0, .int a1, .int a2] (mcells g ad w) (mcells g ad rr) none := by
  refine MetN.of2 [(0, .ref (ad 0)), (1, .int a0), (2, .int a1), (3, .int a2)] rfl (by decide +kernel) (Nat.le_of_ble_eq_true rfl) ?_
  intro p e s m args below meth c hG hr
  unfold X9_term at hf
  have j41 : ∀ (j41_0 : MW) (j41_1 : Int32) (j41_2 : Int32), X9_term_J41 a0 a1 a2 j41_0 j41_1 j41_2 = some rr → V p l e (k2_rm 2 46) s m args below meth c (inW (mcells g ad w)) (EN below args s g (mcells g ad w) (mcells g ad rr) none) g 4 (mcells g ad j41_0) 0 0 41 [(0, .ref (ad 0)), (1, .int a0), (2, .int a1), (3, .int a2)] [.int j41_2, .int j41_1, .ref (ad 0)] := by
    intro j41_0 j41_1 j41_2 hf
    unfold X9_term_J41 at hf
    obtain ⟨r41, hr41, hf⟩ := bd_some hf
    refine v_callV hG (st := []) 0 9 (ct_X9_passes l g ad j41_0 j41_1 j41_2 r41 hr41) iw_X9_passes wk_1212 rfl rfl ⟨rfl, rfl, Nat.le_of_ble_eq_true rfl, Nat.le_of_ble_eq_true rfl⟩ ⟨Nat.le_of_ble_eq_true rfl, Nat.le_of_ble_eq_true rfl⟩ rfl rfl (Nat.le_of_ble_eq_true rfl) (mcells_fst _ _ _ _) dX9_term_41 ?_
    refine (show V p l e (k2_rm 2 46) s m args below meth c (inW (mcells g ad w)) (EN below args s g (mcells g ad w) (mcells g ad rr) none) g 4 (mcells g ad r41.2) 0 0 44 [(0, .ref (ad 0)), (1, .int a0), (2, .int a1), (3, .int a2)] [.int r41.1] from ?_)
    refine v_if_eq hG 63 dX9_term_44 rfl hf (fun hf => ?_) (fun hf => ?_)
    · cases hf
      exact v_vret hG hr dX9_term_63
    · refine v_aload_n hG 0 rfl rfl dX9_term_47 ?_
      refine m_g_0_8 hG wk_1074 dX9_term_48 ?_
      refine v_bipush hG (v := 12) (by decide) dX9_term_51 ?_
      refine v_iload_n hG 1 rfl rfl dX9_term_53 ?_
      refine v_imul hG dX9_term_54 ?_
      refine v_iload_n hG 2 rfl rfl dX9_term_55 ?_
      refine v_iadd hG dX9_term_56 ?_
      refine v_iload_n hG 3 rfl rfl dX9_term_57 ?_
      refine m_s_6 hG dX9_term_58 hf (fun w58 hf => ?_)
      refine v_aload_n hG 0 rfl rfl dX9_term_59 ?_
      obtain ⟨r60, hr60, hf⟩ := bd_some hf
      refine v_callV hG (st := []) 0 9 (ct_X9_endSmall l g ad w58  r60 hr60) iw_X9_endSmall wk_1216 rfl rfl ⟨rfl, rfl, Nat.le_of_ble_eq_true rfl, Nat.le_of_ble_eq_true rfl⟩ ⟨Nat.le_of_ble_eq_true rfl, Nat.le_of_ble_eq_true rfl⟩ rfl rfl (Nat.le_of_ble_eq_true rfl) (mcells_fst _ _ _ _) dX9_term_60 ?_
      refine (show V p l e (k2_rm 2 46) s m args below meth c (inW (mcells g ad w)) (EN below args s g (mcells g ad w) (mcells g ad rr) none) g 4 (mcells g ad r60) 0 0 63 [(0, .ref (ad 0)), (1, .int a0), (2, .int a1), (3, .int a2)] [] from ?_)
      cases hf
      exact v_vret hG hr dX9_term_63
  have j22 : ∀ (j22_0 : MW) (j22_1 : Int32), X9_term_J22 a0 a1 a2 j22_0 j22_1 = some rr → V p l e (k2_rm 2 46) s m args below meth c (inW (mcells g ad w)) (EN below args s g (mcells g ad w) (mcells g ad rr) none) g 4 (mcells g ad j22_0) 0 0 22 [(0, .ref (ad 0)), (1, .int a0), (2, .int a1), (3, .int a2)] [.int j22_1, .ref (ad 0)] := by
    intro j22_0 j22_1 hf
    unfold X9_term_J22 at hf
    refine v_iload_n hG 3 rfl rfl dX9_term_22 ?_
    refine v_i2l hG dX9_term_23 ?_
    refine v_ldc2 hG wk_1210 dX9_term_24 ?_
    refine v_ldc2 hG wk_1211 dX9_term_27 ?_
    obtain ⟨r30, hr30, hf⟩ := bd_some hf
    refine v_callP hG (st := [.int j22_1, .ref (ad 0)]) (ct_X9_within l g a2.toInt64 (-1000) 1000 r30 hr30) sw_X9_within wk_1207 ⟨rfl, rfl, Nat.le_of_ble_eq_true rfl, Nat.le_of_ble_eq_true rfl⟩ ⟨Nat.le_of_ble_eq_true rfl, Nat.le_of_ble_eq_true rfl⟩ rfl rfl (Nat.le_of_ble_eq_true rfl) dX9_term_30 ?_
    refine (show V p l e (k2_rm 2 46) s m args below meth c (inW (mcells g ad w)) (EN below args s g (mcells g ad w) (mcells g ad rr) none) g 4 (mcells g ad j22_0) 0 0 33 [(0, .ref (ad 0)), (1, .int a0), (2, .int a1), (3, .int a2)] [.int r30, .int j22_1, .ref (ad 0)] from ?_)
    refine v_if_ne hG 40 dX9_term_33 rfl hf (fun hf => ?_) (fun hf => ?_)
    · refine v_iconst hG (v := 0) (by decide) dX9_term_40 ?_
      exact j41 j22_0 j22_1 0 hf
    · refine v_iconst hG (v := 1) (by decide) dX9_term_36 ?_
      refine v_goto hG 41 dX9_term_37 rfl ?_
      exact j41 j22_0 j22_1 1 hf
  have j17 : ∀ (j17_0 : MW), X9_term_J17 a0 a1 a2 j17_0 = some rr → V p l e (k2_rm 2 46) s m args below meth c (inW (mcells g ad w)) (EN below args s g (mcells g ad w) (mcells g ad rr) none) g 4 (mcells g ad j17_0) 0 0 17 [(0, .ref (ad 0)), (1, .int a0), (2, .int a1), (3, .int a2)] [.ref (ad 0)] := by
    intro j17_0 hf
    unfold X9_term_J17 at hf
    refine v_iconst hG (v := 1) (by decide) dX9_term_17 ?_
    refine v_goto hG 22 dX9_term_18 rfl ?_
    exact j22 j17_0 1 hf
  refine v_aload_n hG 0 rfl rfl dX9_term_0 ?_
  refine v_aload_n hG 0 rfl rfl dX9_term_1 ?_
  refine v_iload_n hG 1 rfl rfl dX9_term_2 ?_
  obtain ⟨r3, hr3, hf⟩ := bd_some hf
  refine v_callV hG (st := [.ref (ad 0)]) 0 9 (ct_X9_isRow l g ad w a0 r3 hr3) iw_X9_isRow wk_1234 rfl rfl ⟨rfl, rfl, Nat.le_of_ble_eq_true rfl, Nat.le_of_ble_eq_true rfl⟩ ⟨Nat.le_of_ble_eq_true rfl, Nat.le_of_ble_eq_true rfl⟩ rfl rfl (Nat.le_of_ble_eq_true rfl) (mcells_fst _ _ _ _) dX9_term_3 ?_
  refine (show V p l e (k2_rm 2 46) s m args below meth c (inW (mcells g ad w)) (EN below args s g (mcells g ad w) (mcells g ad rr) none) g 4 (mcells g ad w) 0 0 6 [(0, .ref (ad 0)), (1, .int a0), (2, .int a1), (3, .int a2)] [.int r3, .ref (ad 0)] from ?_)
  refine v_if_eq hG 17 dX9_term_6 rfl hf (fun hf => ?_) (fun hf => ?_)
  · exact j17 w hf
  · refine v_aload_n hG 0 rfl rfl dX9_term_9 ?_
    refine v_iload_n hG 2 rfl rfl dX9_term_10 ?_
    obtain ⟨r11, hr11, hf⟩ := bd_some hf
    refine v_callV hG (st := [.ref (ad 0)]) 0 9 (ct_X9_isColumn l g ad w a1 r11 hr11) iw_X9_isColumn wk_1238 rfl rfl ⟨rfl, rfl, Nat.le_of_ble_eq_true rfl, Nat.le_of_ble_eq_true rfl⟩ ⟨Nat.le_of_ble_eq_true rfl, Nat.le_of_ble_eq_true rfl⟩ rfl rfl (Nat.le_of_ble_eq_true rfl) (mcells_fst _ _ _ _) dX9_term_11 ?_
    refine (show V p l e (k2_rm 2 46) s m args below meth c (inW (mcells g ad w)) (EN below args s g (mcells g ad w) (mcells g ad rr) none) g 4 (mcells g ad w) 0 0 14 [(0, .ref (ad 0)), (1, .int a0), (2, .int a1), (3, .int a2)] [.int r11, .ref (ad 0)] from ?_)
    refine v_if_ne hG 21 dX9_term_14 rfl hf (fun hf => ?_) (fun hf => ?_)
    · refine v_iconst hG (v := 0) (by decide) dX9_term_21 ?_
      exact j22 w 0 hf
    · exact j17 w hf
def X9_clear (w : MW) : Option (Int32 × MW) := (bnd (sM_thrown w 0) (fun w2 : MW => (bnd (sM_columns w2 0) (fun w12 : MW => (bnd (sM_rows w12 0) (fun w17 : MW => ((X9_endSmall w17).bind (fun r21 : MW => (some ((gM_columns w2), r21))))))))))
set_option maxRecDepth 100000 in
set_option maxHeartbeats 4000000 in
theorem ct_X9_clear (l : Launch) (g : wG) (ad : Nat → Nat) (w : MW)  (rr : Int32 × MW) (hf : X9_clear w = some rr) : MetN l g yX9_clear cX9_clear 2 (some .int) (k2_rm 2 41) [.ref (ad 0)] (mcells g ad w) (mcells g ad rr.2) (some (.int rr.1)) := by
  refine MetN.of2 [(0, .ref (ad 0))] rfl (by decide +kernel) (Nat.le_of_ble_eq_true rfl) ?_
  intro p e s m args below meth c hG hr
  unfold X9_clear at hf
  refine v_aload_n hG 0 rfl rfl dX9_clear_0 ?_
  refine v_iconst hG (v := 0) (by decide) dX9_clear_1 ?_
  refine m_p_0_0 hG wk_1066 dX9_clear_2 hf (fun w2 hf => ?_)
  refine v_aload_n hG 0 rfl rfl dX9_clear_5 ?_
  refine m_g_0_1 hG wk_1067 dX9_clear_6 ?_
  refine v_istore_n hG [(1, _), (0, _)] dX9_clear_9 rfl (by decide) rfl ?_
  refine v_aload_n hG 1 rfl rfl dX9_clear_10 ?_
  refine v_iconst hG (v := 0) (by decide) dX9_clear_11 ?_
  refine m_p_0_1 hG wk_1067 dX9_clear_12 hf (fun w12 hf => ?_)
  refine v_aload_n hG 1 rfl rfl dX9_clear_15 ?_
  refine v_iconst hG (v := 0) (by decide) dX9_clear_16 ?_
  refine m_p_0_2 hG wk_1068 dX9_clear_17 hf (fun w17 hf => ?_)
  refine v_aload_n hG 1 rfl rfl dX9_clear_20 ?_
  obtain ⟨r21, hr21, hf⟩ := bd_some hf
  refine v_callV hG (st := []) 0 9 (ct_X9_endSmall l g ad w17  r21 hr21) iw_X9_endSmall wk_1216 rfl rfl ⟨rfl, rfl, Nat.le_of_ble_eq_true rfl, Nat.le_of_ble_eq_true rfl⟩ ⟨Nat.le_of_ble_eq_true rfl, Nat.le_of_ble_eq_true rfl⟩ rfl rfl (Nat.le_of_ble_eq_true rfl) (mcells_fst _ _ _ _) dX9_clear_21 ?_
  refine (show V p l e (k2_rm 2 41) s m args below meth c (inW (mcells g ad w)) (EN below args s g (mcells g ad w) (mcells g ad rr.2) (some (.int rr.1))) g 2 (mcells g ad r21) 0 0 24 [(1, .int (gM_columns w2)), (0, .ref (ad 0))] [] from ?_)
  refine v_iload_n hG 0 rfl rfl dX9_clear_24 ?_
  cases hf
  exact v_iret hG hr dX9_clear_25
def X9_isTerm (w : MW) (a0 : Int32) (a1 : Int32) : Option (Int32) := (if inR a1 12 = true then (if ((gM_state w) a1.toNatClampNeg) = 0 then (if inR ((12 * a0) + a1) 144 = true then (if ((gM_coef w) ((12 * a0) + a1).toNatClampNeg) = 0 then (some 0) else (some 1)) else none) else (some 0)) else none)
set_option maxRecDepth 100000 in
set_option maxHeartbeats 4000000 in
theorem ct_X9_isTerm (l : Launch) (g : wG) (ad : Nat → Nat) (w : MW) (a0 : Int32) (a1 : Int32) (rr : Int32) (hf : X9_isTerm w a0 a1 = some rr) : MetN l g yX9_isTerm cX9_isTerm 3 (some .boolean) (k2_rm 0 0) [.ref (ad 0), .int a0, .int a1] (mcells g ad w) (mcells g ad w) (some (.int rr)) := by
  refine MetN.of2 [(0, .ref (ad 0)), (1, .int a0), (2, .int a1)] rfl (by decide +kernel) (Nat.le_of_ble_eq_true rfl) ?_
  intro p e s m args below meth c hG hr
  unfold X9_isTerm at hf
  refine v_aload_n hG 0 rfl rfl dX9_isTerm_0 ?_
  refine m_g_0_10 hG wk_1076 dX9_isTerm_1 ?_
  refine v_iload_n hG 2 rfl rfl dX9_isTerm_4 ?_
  refine m_l_7 hG dX9_isTerm_5 hf (fun hf => ?_)
  refine v_if_ne hG 29 dX9_isTerm_6 rfl hf (fun hf => ?_) (fun hf => ?_)
  · refine v_iconst hG (v := 0) (by decide) dX9_isTerm_29 ?_
    cases hf
    exact v_zret (x := 0) hG hr rfl dX9_isTerm_30
  · refine v_aload_n hG 0 rfl rfl dX9_isTerm_9 ?_
    refine m_g_0_20 hG wk_1086 dX9_isTerm_10 ?_
    refine v_bipush hG (v := 12) (by decide) dX9_isTerm_13 ?_
    refine v_iload_n hG 1 rfl rfl dX9_isTerm_15 ?_
    refine v_imul hG dX9_isTerm_16 ?_
    refine v_iload_n hG 2 rfl rfl dX9_isTerm_17 ?_
    refine v_iadd hG dX9_isTerm_18 ?_
    refine m_l_17 hG dX9_isTerm_19 hf (fun hf => ?_)
    refine v_lconst hG (v := 0) (by decide) dX9_isTerm_20 ?_
    refine v_lcmp_eq hG 29 dX9_isTerm_21 dX9_isTerm_22 rfl hf (fun hf => ?_) (fun hf => ?_)
    · refine v_iconst hG (v := 0) (by decide) dX9_isTerm_29 ?_
      cases hf
      exact v_zret (x := 0) hG hr rfl dX9_isTerm_30
    · refine v_iconst hG (v := 1) (by decide) dX9_isTerm_25 ?_
      refine v_goto hG 30 dX9_isTerm_26 rfl ?_
      cases hf
      exact v_zret (x := 1) hG hr rfl dX9_isTerm_30
def X9_terms_J27  (j27_0 : Int32) (j27_1 : Int32) (j27_2 : Int32) : Option ((Int32 × Int32) ⊕ ((Int32))) := (some (.inl ((j27_1 + j27_2), (j27_0 + 1))))
def X9_terms_L4 (w : MW) (a0 : Int32) (s4 : Int32 × Int32) : Option ((Int32 × Int32) ⊕ ((Int32))) := (if (gM_columns w) ≤ s4.2 then (some (.inr s4.1)) else ((X9_isTerm w a0 s4.2).bind (fun r16 : Int32 => (if r16 = 0 then (X9_terms_J27 s4.2 s4.1 0) else (X9_terms_J27 s4.2 s4.1 1)))))
def X9_terms (w : MW) (a0 : Int32) : Option (Int32) := ((iter (X9_terms_L4 w a0) 5000 (0, 0)).bind (fun z4 : (Int32) => (some z4)))
set_option maxRecDepth 100000 in
set_option maxHeartbeats 4000000 in
theorem ct_X9_terms (l : Launch) (g : wG) (ad : Nat → Nat) (w : MW) (a0 : Int32) (rr : Int32) (hf : X9_terms w a0 = some rr) : MetN l g yX9_terms cX9_terms 4 (some .int) (k2_rm 1 22) [.ref (ad 0), .int a0] (mcells g ad w) (mcells g ad w) (some (.int rr)) := by
  refine MetN.of2 [(0, .ref (ad 0)), (1, .int a0)] rfl (by decide +kernel) (Nat.le_of_ble_eq_true rfl) ?_
  intro p e s m args below meth c hG hr
  unfold X9_terms at hf
  refine v_iconst hG (v := 0) (by decide) dX9_terms_0 ?_
  refine v_istore_n hG [(2, _), (0, _), (1, _)] dX9_terms_1 rfl (by decide) rfl ?_
  refine v_iconst hG (v := 0) (by decide) dX9_terms_2 ?_
  refine v_istore_n hG [(3, _), (2, _), (0, _), (1, _)] dX9_terms_3 rfl (by decide) rfl ?_
  refine v_sub [(0, _), (1, _), (2, _), (3, _)] [2, 3, 1, 0] rfl ?_
  obtain ⟨z4, hlz4, hf⟩ := bd_some hf
  refine loop_v (step := X9_terms_L4 w a0) (fun s4 : Int32 × Int32 => V p l e (k2_rm 1 22) s m args below meth c (inW (mcells g ad w)) (EN below args s g (mcells g ad w) (mcells g ad w) (some (.int rr))) g 4 (mcells g ad w) 0 0 4 [(0, .ref (ad 0)), (1, .int a0), (2, .int s4.1), (3, .int s4.2)] []) (fun z4_q : (Int32) => V p l e (k2_rm 1 22) s m args below meth c (inW (mcells g ad w)) (EN below args s g (mcells g ad w) (mcells g ad w) (some (.int rr))) g 4 (mcells g ad w) 0 0 35 [(2, .int z4_q)] []) ?_ 5000 (0, 0) z4 hlz4 ?_
  · intro s4 rL hf hin hout
    unfold X9_terms_L4 at hf
    have j27 : ∀ (j27_0 : Int32) (j27_1 : Int32) (j27_2 : Int32), X9_terms_J27 j27_0 j27_1 j27_2 = some rL → V p l e (k2_rm 1 22) s m args below meth c (inW (mcells g ad w)) (EN below args s g (mcells g ad w) (mcells g ad w) (some (.int rr))) g 4 (mcells g ad w) 0 0 27 [(0, .ref (ad 0)), (1, .int a0), (3, .int j27_0)] [.int j27_2, .int j27_1] := by
      intro j27_0 j27_1 j27_2 hf
      unfold X9_terms_J27 at hf
      refine v_iadd hG dX9_terms_27 ?_
      refine v_istore_n hG [(2, _), (0, _), (1, _), (3, _)] dX9_terms_28 rfl (by decide) rfl ?_
      refine v_iinc hG 3 (v := j27_0 + 1) [(3, _), (2, _), (0, _), (1, _)] dX9_terms_29 rfl rfl (by decide) rfl ?_
      refine v_goto hG 4 dX9_terms_32 rfl ?_
      refine v_sub [(0, _), (1, _), (2, _), (3, _)] [2, 3, 1, 0] rfl ?_
      exact hin _ (Option.some.inj hf).symm
    refine v_iload_n hG 3 rfl rfl dX9_terms_4 ?_
    refine v_aload_n hG 0 rfl rfl dX9_terms_5 ?_
    refine m_g_0_1 hG wk_1067 dX9_terms_6 ?_
    refine v_icmp_ge hG 35 dX9_terms_9 rfl hf (fun hf => ?_) (fun hf => ?_)
    · refine v_sub [(2, _)] [2] rfl ?_
      exact hout _ (Option.some.inj hf).symm
    · refine v_iload_n hG 2 rfl rfl dX9_terms_12 ?_
      refine v_aload_n hG 0 rfl rfl dX9_terms_13 ?_
      refine v_iload_n hG 1 rfl rfl dX9_terms_14 ?_
      refine v_iload_n hG 3 rfl rfl dX9_terms_15 ?_
      obtain ⟨r16, hr16, hf⟩ := bd_some hf
      refine v_callV hG (st := [.int s4.1]) 0 9 (ct_X9_isTerm l g ad w a0 s4.2 r16 hr16) iw_X9_isTerm wk_1276 rfl rfl ⟨rfl, rfl, Nat.le_of_ble_eq_true rfl, Nat.le_of_ble_eq_true rfl⟩ ⟨Nat.le_of_ble_eq_true rfl, Nat.le_of_ble_eq_true rfl⟩ rfl rfl (Nat.le_of_ble_eq_true rfl) (mcells_fst _ _ _ _) dX9_terms_16 ?_
      refine (show V p l e (k2_rm 1 22) s m args below meth c (inW (mcells g ad w)) (EN below args s g (mcells g ad w) (mcells g ad w) (some (.int rr))) g 4 (mcells g ad w) 0 0 19 [(0, .ref (ad 0)), (1, .int a0), (2, .int s4.1), (3, .int s4.2)] [.int r16, .int s4.1] from ?_)
      refine v_if_eq hG 26 dX9_terms_19 rfl hf (fun hf => ?_) (fun hf => ?_)
      · refine v_iconst hG (v := 0) (by decide) dX9_terms_26 ?_
        refine v_sub [(0, _), (1, _), (3, _)] [0, 1, 3] rfl ?_
        exact j27 s4.2 s4.1 0 hf
      · refine v_iconst hG (v := 1) (by decide) dX9_terms_22 ?_
        refine v_goto hG 27 dX9_terms_23 rfl ?_
        refine v_sub [(0, _), (1, _), (3, _)] [0, 1, 3] rfl ?_
        exact j27 s4.2 s4.1 1 hf
  · show V p l e (k2_rm 1 22) s m args below meth c (inW (mcells g ad w)) (EN below args s g (mcells g ad w) (mcells g ad w) (some (.int rr))) g 4 (mcells g ad w) 0 0 35 [(2, .int z4)] []
    refine v_iload_n hG 0 rfl rfl dX9_terms_35 ?_
    cases hf
    exact v_iret hG hr dX9_terms_36
def X9_end_J87  (j87_0 : Int64) (j87_1 : Int32) : Option ((Int64 × Int32) ⊕ ((Int64))) := (some (.inl (j87_0, (j87_1 + 1))))
def X9_end_J82  (j82_0 : Int32) (j82_1 : Int64) (j82_2 : Int64) (j82_3 : Int32) : Option ((Int64 × Int32) ⊕ ((Int64))) := (X9_end_J87 (j82_1 + (j82_2 * j82_3.toInt64)) j82_0)
def X9_end_J61 (w : MW) (a2 : Int32) (j61_0 : Int32) (j61_1 : Int64) (j61_2 : Int64) (j61_3 : Int32) : Option ((Int64 × Int32) ⊕ ((Int64))) := (if j61_3 = a2 then (if inR j61_0 12 = true then (X9_end_J82 j61_0 j61_1 j61_2 ((gM_high w) j61_0.toNatClampNeg)) else none) else (if inR j61_0 12 = true then (X9_end_J82 j61_0 j61_1 j61_2 ((gM_low w) j61_0.toNatClampNeg)) else none))
def X9_end_L6 (w : MW) (a0 : Int32) (a1 : Int32) (a2 : Int32) (s6 : Int64 × Int32) : Option ((Int64 × Int32) ⊕ ((Int64))) := (if (gM_columns w) ≤ s6.2 then (some (.inr s6.1)) else (if s6.2 = a1 then (X9_end_J87 s6.1 s6.2) else ((X9_isTerm w a0 s6.2).bind (fun r25 : Int32 => (if r25 = 0 then (X9_end_J87 s6.1 s6.2) else (if inR ((12 * a0) + s6.2) 144 = true then (if ((gM_coef w) ((12 * a0) + s6.2).toNatClampNeg) ≤ 0 then (X9_end_J61 w a2 s6.2 s6.1 ((gM_coef w) ((12 * a0) + s6.2).toNatClampNeg) 0) else (X9_end_J61 w a2 s6.2 s6.1 ((gM_coef w) ((12 * a0) + s6.2).toNatClampNeg) 1)) else none))))))
def X9_end (w : MW) (a0 : Int32) (a1 : Int32) (a2 : Int32) : Option (Int64) := ((iter (X9_end_L6 w a0 a1 a2) 5000 (0, 0)).bind (fun z6 : (Int64) => (some z6)))
set_option maxRecDepth 100000 in
set_option maxHeartbeats 4000000 in
theorem ct_X9_end (l : Launch) (g : wG) (ad : Nat → Nat) (w : MW) (a0 : Int32) (a1 : Int32) (a2 : Int32) (rr : Int64) (hf : X9_end w a0 a1 a2 = some rr) : MetN l g yX9_end cX9_end 9 (some .long) (k2_rm 1 22) [.ref (ad 0), .int a0, .int a1, .int a2] (mcells g ad w) (mcells g ad w) (some (.long rr)) := by
  refine MetN.of2 [(0, .ref (ad 0)), (1, .int a0), (2, .int a1), (3, .int a2)] rfl (by decide +kernel) (Nat.le_of_ble_eq_true rfl) ?_
  intro p e s m args below meth c hG hr
  unfold X9_end at hf
  refine v_lconst hG (v := 0) (by decide) dX9_end_0 ?_
  refine v_lstore hG [(4, _), (0, _), (1, _), (2, _), (3, _)] dX9_end_1 (by decide) rfl ?_
  refine v_iconst hG (v := 0) (by decide) dX9_end_3 ?_
  refine v_istore hG [(6, _), (4, _), (0, _), (1, _), (2, _), (3, _)] dX9_end_4 (by decide) rfl ?_
  refine v_sub [(0, _), (1, _), (2, _), (3, _), (4, _), (6, _)] [2, 3, 4, 5, 1, 0] rfl ?_
  obtain ⟨z6, hlz6, hf⟩ := bd_some hf
  refine loop_v (step := X9_end_L6 w a0 a1 a2) (fun s6 : Int64 × Int32 => V p l e (k2_rm 1 22) s m args below meth c (inW (mcells g ad w)) (EN below args s g (mcells g ad w) (mcells g ad w) (some (.long rr))) g 9 (mcells g ad w) 0 0 6 [(0, .ref (ad 0)), (1, .int a0), (2, .int a1), (3, .int a2), (4, .long s6.1), (6, .int s6.2)] []) (fun z6_q : (Int64) => V p l e (k2_rm 1 22) s m args below meth c (inW (mcells g ad w)) (EN below args s g (mcells g ad w) (mcells g ad w) (some (.long rr))) g 9 (mcells g ad w) 0 0 93 [(4, .long z6_q)] []) ?_ 5000 (0, 0) z6 hlz6 ?_
  · intro s6 rL hf hin hout
    unfold X9_end_L6 at hf
    have j87 : ∀ (j87_0 : Int64) (j87_1 : Int32), X9_end_J87 j87_0 j87_1 = some rL → V p l e (k2_rm 1 22) s m args below meth c (inW (mcells g ad w)) (EN below args s g (mcells g ad w) (mcells g ad w) (some (.long rr))) g 9 (mcells g ad w) 0 0 87 [(0, .ref (ad 0)), (1, .int a0), (2, .int a1), (3, .int a2), (4, .long j87_0), (6, .int j87_1)] [] := by
      intro j87_0 j87_1 hf
      unfold X9_end_J87 at hf
      refine v_iinc hG 5 (v := j87_1 + 1) [(6, _), (0, _), (1, _), (2, _), (3, _), (4, _)] dX9_end_87 rfl rfl (by decide) rfl ?_
      refine v_goto hG 6 dX9_end_90 rfl ?_
      refine v_sub [(0, _), (1, _), (2, _), (3, _), (4, _), (6, _)] [1, 2, 3, 4, 5, 0] rfl ?_
      exact hin _ (Option.some.inj hf).symm
    have j82 : ∀ (j82_0 : Int32) (j82_1 : Int64) (j82_2 : Int64) (j82_3 : Int32), X9_end_J82 j82_0 j82_1 j82_2 j82_3 = some rL → V p l e (k2_rm 1 22) s m args below meth c (inW (mcells g ad w)) (EN below args s g (mcells g ad w) (mcells g ad w) (some (.long rr))) g 9 (mcells g ad w) 0 0 82 [(0, .ref (ad 0)), (1, .int a0), (2, .int a1), (3, .int a2), (6, .int j82_0)] [.int j82_3, .long j82_2, .long j82_1] := by
      intro j82_0 j82_1 j82_2 j82_3 hf
      unfold X9_end_J82 at hf
      refine v_i2l hG dX9_end_82 ?_
      refine v_lmul hG dX9_end_83 ?_
      refine v_ladd hG dX9_end_84 ?_
      refine v_lstore hG [(4, _), (0, _), (1, _), (2, _), (3, _), (6, _)] dX9_end_85 (by decide) rfl ?_
      refine v_sub [(0, _), (1, _), (2, _), (3, _), (4, _), (6, _)] [1, 2, 3, 4, 0, 5] rfl ?_
      exact j87 (j82_1 + (j82_2 * j82_3.toInt64)) j82_0 hf
    have j61 : ∀ (j61_0 : Int32) (j61_1 : Int64) (j61_2 : Int64) (j61_3 : Int32), X9_end_J61 w a2 j61_0 j61_1 j61_2 j61_3 = some rL → V p l e (k2_rm 1 22) s m args below meth c (inW (mcells g ad w)) (EN below args s g (mcells g ad w) (mcells g ad w) (some (.long rr))) g 9 (mcells g ad w) 0 0 61 [(0, .ref (ad 0)), (1, .int a0), (2, .int a1), (3, .int a2), (6, .int j61_0)] [.int j61_3, .long j61_2, .long j61_1] := by
      intro j61_0 j61_1 j61_2 j61_3 hf
      unfold X9_end_J61 at hf
      refine v_iload_n hG 3 rfl rfl dX9_end_61 ?_
      refine v_icmp_ne hG 75 dX9_end_62 rfl hf (fun hf => ?_) (fun hf => ?_)
      · refine v_aload_n hG 0 rfl rfl dX9_end_75 ?_
        refine m_g_0_11 hG wk_1077 dX9_end_76 ?_
        refine v_iload hG 4 rfl dX9_end_79 ?_
        refine m_l_8 hG dX9_end_81 hf (fun hf => ?_)
        exact j82 j61_0 j61_1 j61_2 ((gM_low w) j61_0.toNatClampNeg) hf
      · refine v_aload_n hG 0 rfl rfl dX9_end_65 ?_
        refine m_g_0_12 hG wk_1078 dX9_end_66 ?_
        refine v_iload hG 4 rfl dX9_end_69 ?_
        refine m_l_9 hG dX9_end_71 hf (fun hf => ?_)
        refine v_goto hG 82 dX9_end_72 rfl ?_
        exact j82 j61_0 j61_1 j61_2 ((gM_high w) j61_0.toNatClampNeg) hf
    refine v_iload hG 5 rfl dX9_end_6 ?_
    refine v_aload_n hG 0 rfl rfl dX9_end_8 ?_
    refine m_g_0_1 hG wk_1067 dX9_end_9 ?_
    refine v_icmp_ge hG 93 dX9_end_12 rfl hf (fun hf => ?_) (fun hf => ?_)
    · refine v_sub [(4, _)] [4] rfl ?_
      exact hout _ (Option.some.inj hf).symm
    · refine v_iload hG 5 rfl dX9_end_15 ?_
      refine v_iload_n hG 2 rfl rfl dX9_end_17 ?_
      refine v_icmp_eq hG 87 dX9_end_18 rfl hf (fun hf => ?_) (fun hf => ?_)
      · exact j87 s6.1 s6.2 hf
      · refine v_aload_n hG 0 rfl rfl dX9_end_21 ?_
        refine v_iload_n hG 1 rfl rfl dX9_end_22 ?_
        refine v_iload hG 5 rfl dX9_end_23 ?_
        obtain ⟨r25, hr25, hf⟩ := bd_some hf
        refine v_callV hG (st := []) 0 9 (ct_X9_isTerm l g ad w a0 s6.2 r25 hr25) iw_X9_isTerm wk_1276 rfl rfl ⟨rfl, rfl, Nat.le_of_ble_eq_true rfl, Nat.le_of_ble_eq_true rfl⟩ ⟨Nat.le_of_ble_eq_true rfl, Nat.le_of_ble_eq_true rfl⟩ rfl rfl (Nat.le_of_ble_eq_true rfl) (mcells_fst _ _ _ _) dX9_end_25 ?_
        refine (show V p l e (k2_rm 1 22) s m args below meth c (inW (mcells g ad w)) (EN below args s g (mcells g ad w) (mcells g ad w) (some (.long rr))) g 9 (mcells g ad w) 0 0 28 [(0, .ref (ad 0)), (1, .int a0), (2, .int a1), (3, .int a2), (4, .long s6.1), (6, .int s6.2)] [.int r25] from ?_)
        refine v_if_eq hG 87 dX9_end_28 rfl hf (fun hf => ?_) (fun hf => ?_)
        · exact j87 s6.1 s6.2 hf
        · refine v_aload_n hG 0 rfl rfl dX9_end_31 ?_
          refine m_g_0_20 hG wk_1086 dX9_end_32 ?_
          refine v_bipush hG (v := 12) (by decide) dX9_end_35 ?_
          refine v_iload_n hG 1 rfl rfl dX9_end_37 ?_
          refine v_imul hG dX9_end_38 ?_
          refine v_iload hG 5 rfl dX9_end_39 ?_
          refine v_iadd hG dX9_end_41 ?_
          refine m_l_17 hG dX9_end_42 hf (fun hf => ?_)
          refine v_lstore hG [(7, _), (0, _), (1, _), (2, _), (3, _), (4, _), (6, _)] dX9_end_43 (by decide) rfl ?_
          refine v_lload hG 5 rfl dX9_end_45 ?_
          refine v_lload hG 0 rfl dX9_end_47 ?_
          refine v_lload hG 0 rfl dX9_end_49 ?_
          refine v_lconst hG (v := 0) (by decide) dX9_end_51 ?_
          refine v_lcmp_le hG 60 dX9_end_52 dX9_end_53 rfl hf (fun hf => ?_) (fun hf => ?_)
          · refine v_iconst hG (v := 0) (by decide) dX9_end_60 ?_
            refine v_sub [(0, _), (1, _), (2, _), (3, _), (6, _)] [1, 2, 3, 4, 6] rfl ?_
            exact j61 s6.2 s6.1 ((gM_coef w) ((12 * a0) + s6.2).toNatClampNeg) 0 hf
          · refine v_iconst hG (v := 1) (by decide) dX9_end_56 ?_
            refine v_goto hG 61 dX9_end_57 rfl ?_
            refine v_sub [(0, _), (1, _), (2, _), (3, _), (6, _)] [1, 2, 3, 4, 6] rfl ?_
            exact j61 s6.2 s6.1 ((gM_coef w) ((12 * a0) + s6.2).toNatClampNeg) 1 hf
  · show V p l e (k2_rm 1 22) s m args below meth c (inW (mcells g ad w)) (EN below args s g (mcells g ad w) (mcells g ad w) (some (.long rr))) g 9 (mcells g ad w) 0 0 93 [(4, .long z6)] []
    refine v_lload hG 0 rfl dX9_end_93 ?_
    cases hf
    exact v_lret hG hr dX9_end_95
def X9_from_J79  (j79_0 : Int32) (j79_1 : Int32) : Option ((Int32 × Int32) ⊕ ((Int32))) := (some (.inl (j79_0, (j79_1 + 1))))
def X9_from_J76  (j76_0 : Int32) (j76_1 : Int32) (j76_2 : Int32) : Option ((Int32 × Int32) ⊕ ((Int32))) := (X9_from_J79 (j76_1 ||| j76_2) j76_0)
def X9_from_J55 (w : MW) (a2 : Int32) (j55_0 : Int32) (j55_1 : Int32) (j55_2 : Int32) : Option ((Int32 × Int32) ⊕ ((Int32))) := (if j55_2 = a2 then (if inR j55_0 12 = true then (X9_from_J76 j55_0 j55_1 ((gM_highRest w) j55_0.toNatClampNeg)) else none) else (if inR j55_0 12 = true then (X9_from_J76 j55_0 j55_1 ((gM_lowRest w) j55_0.toNatClampNeg)) else none))
def X9_from_L6 (w : MW) (a0 : Int32) (a1 : Int32) (a2 : Int32) (s6 : Int32 × Int32) : Option ((Int32 × Int32) ⊕ ((Int32))) := (if (gM_columns w) ≤ s6.2 then (some (.inr s6.1)) else (if s6.2 = a1 then (X9_from_J79 s6.1 s6.2) else ((X9_isTerm w a0 s6.2).bind (fun r25 : Int32 => (if r25 = 0 then (X9_from_J79 s6.1 s6.2) else (if inR ((12 * a0) + s6.2) 144 = true then (if ((gM_coef w) ((12 * a0) + s6.2).toNatClampNeg) ≤ 0 then (X9_from_J55 w a2 s6.2 s6.1 0) else (X9_from_J55 w a2 s6.2 s6.1 1)) else none))))))
def X9_from (w : MW) (a0 : Int32) (a1 : Int32) (a2 : Int32) : Option (Int32) := ((iter (X9_from_L6 w a0 a1 a2) 5000 (0, 0)).bind (fun z6 : (Int32) => (some z6)))
set_option maxRecDepth 100000 in
set_option maxHeartbeats 4000000 in
theorem ct_X9_from (l : Launch) (g : wG) (ad : Nat → Nat) (w : MW) (a0 : Int32) (a1 : Int32) (a2 : Int32) (rr : Int32) (hf : X9_from w a0 a1 a2 = some rr) : MetN l g yX9_from cX9_from 6 (some .int) (k2_rm 1 22) [.ref (ad 0), .int a0, .int a1, .int a2] (mcells g ad w) (mcells g ad w) (some (.int rr)) := by
  refine MetN.of2 [(0, .ref (ad 0)), (1, .int a0), (2, .int a1), (3, .int a2)] rfl (by decide +kernel) (Nat.le_of_ble_eq_true rfl) ?_
  intro p e s m args below meth c hG hr
  unfold X9_from at hf
  refine v_iconst hG (v := 0) (by decide) dX9_from_0 ?_
  refine v_istore hG [(4, _), (0, _), (1, _), (2, _), (3, _)] dX9_from_1 (by decide) rfl ?_
  refine v_iconst hG (v := 0) (by decide) dX9_from_3 ?_
  refine v_istore hG [(5, _), (4, _), (0, _), (1, _), (2, _), (3, _)] dX9_from_4 (by decide) rfl ?_
  refine v_sub [(0, _), (1, _), (2, _), (3, _), (4, _), (5, _)] [2, 3, 4, 5, 1, 0] rfl ?_
  obtain ⟨z6, hlz6, hf⟩ := bd_some hf
  refine loop_v (step := X9_from_L6 w a0 a1 a2) (fun s6 : Int32 × Int32 => V p l e (k2_rm 1 22) s m args below meth c (inW (mcells g ad w)) (EN below args s g (mcells g ad w) (mcells g ad w) (some (.int rr))) g 6 (mcells g ad w) 0 0 6 [(0, .ref (ad 0)), (1, .int a0), (2, .int a1), (3, .int a2), (4, .int s6.1), (5, .int s6.2)] []) (fun z6_q : (Int32) => V p l e (k2_rm 1 22) s m args below meth c (inW (mcells g ad w)) (EN below args s g (mcells g ad w) (mcells g ad w) (some (.int rr))) g 6 (mcells g ad w) 0 0 85 [(4, .int z6_q)] []) ?_ 5000 (0, 0) z6 hlz6 ?_
  · intro s6 rL hf hin hout
    unfold X9_from_L6 at hf
    have j79 : ∀ (j79_0 : Int32) (j79_1 : Int32), X9_from_J79 j79_0 j79_1 = some rL → V p l e (k2_rm 1 22) s m args below meth c (inW (mcells g ad w)) (EN below args s g (mcells g ad w) (mcells g ad w) (some (.int rr))) g 6 (mcells g ad w) 0 0 79 [(0, .ref (ad 0)), (1, .int a0), (2, .int a1), (3, .int a2), (4, .int j79_0), (5, .int j79_1)] [] := by
      intro j79_0 j79_1 hf
      unfold X9_from_J79 at hf
      refine v_iinc hG 5 (v := j79_1 + 1) [(5, _), (0, _), (1, _), (2, _), (3, _), (4, _)] dX9_from_79 rfl rfl (by decide) rfl ?_
      refine v_goto hG 6 dX9_from_82 rfl ?_
      refine v_sub [(0, _), (1, _), (2, _), (3, _), (4, _), (5, _)] [1, 2, 3, 4, 5, 0] rfl ?_
      exact hin _ (Option.some.inj hf).symm
    have j76 : ∀ (j76_0 : Int32) (j76_1 : Int32) (j76_2 : Int32), X9_from_J76 j76_0 j76_1 j76_2 = some rL → V p l e (k2_rm 1 22) s m args below meth c (inW (mcells g ad w)) (EN below args s g (mcells g ad w) (mcells g ad w) (some (.int rr))) g 6 (mcells g ad w) 0 0 76 [(0, .ref (ad 0)), (1, .int a0), (2, .int a1), (3, .int a2), (5, .int j76_0)] [.int j76_2, .int j76_1] := by
      intro j76_0 j76_1 j76_2 hf
      unfold X9_from_J76 at hf
      refine v_ior hG dX9_from_76 ?_
      refine v_istore hG [(4, _), (0, _), (1, _), (2, _), (3, _), (5, _)] dX9_from_77 (by decide) rfl ?_
      refine v_sub [(0, _), (1, _), (2, _), (3, _), (4, _), (5, _)] [1, 2, 3, 4, 0, 5] rfl ?_
      exact j79 (j76_1 ||| j76_2) j76_0 hf
    have j55 : ∀ (j55_0 : Int32) (j55_1 : Int32) (j55_2 : Int32), X9_from_J55 w a2 j55_0 j55_1 j55_2 = some rL → V p l e (k2_rm 1 22) s m args below meth c (inW (mcells g ad w)) (EN below args s g (mcells g ad w) (mcells g ad w) (some (.int rr))) g 6 (mcells g ad w) 0 0 55 [(0, .ref (ad 0)), (1, .int a0), (2, .int a1), (3, .int a2), (5, .int j55_0)] [.int j55_2, .int j55_1] := by
      intro j55_0 j55_1 j55_2 hf
      unfold X9_from_J55 at hf
      refine v_iload_n hG 3 rfl rfl dX9_from_55 ?_
      refine v_icmp_ne hG 69 dX9_from_56 rfl hf (fun hf => ?_) (fun hf => ?_)
      · refine v_aload_n hG 0 rfl rfl dX9_from_69 ?_
        refine m_g_0_13 hG wk_1079 dX9_from_70 ?_
        refine v_iload hG 4 rfl dX9_from_73 ?_
        refine m_l_10 hG dX9_from_75 hf (fun hf => ?_)
        exact j76 j55_0 j55_1 ((gM_lowRest w) j55_0.toNatClampNeg) hf
      · refine v_aload_n hG 0 rfl rfl dX9_from_59 ?_
        refine m_g_0_14 hG wk_1080 dX9_from_60 ?_
        refine v_iload hG 4 rfl dX9_from_63 ?_
        refine m_l_11 hG dX9_from_65 hf (fun hf => ?_)
        refine v_goto hG 76 dX9_from_66 rfl ?_
        exact j76 j55_0 j55_1 ((gM_highRest w) j55_0.toNatClampNeg) hf
    refine v_iload hG 5 rfl dX9_from_6 ?_
    refine v_aload_n hG 0 rfl rfl dX9_from_8 ?_
    refine m_g_0_1 hG wk_1067 dX9_from_9 ?_
    refine v_icmp_ge hG 85 dX9_from_12 rfl hf (fun hf => ?_) (fun hf => ?_)
    · refine v_sub [(4, _)] [4] rfl ?_
      exact hout _ (Option.some.inj hf).symm
    · refine v_iload hG 5 rfl dX9_from_15 ?_
      refine v_iload_n hG 2 rfl rfl dX9_from_17 ?_
      refine v_icmp_eq hG 79 dX9_from_18 rfl hf (fun hf => ?_) (fun hf => ?_)
      · exact j79 s6.1 s6.2 hf
      · refine v_aload_n hG 0 rfl rfl dX9_from_21 ?_
        refine v_iload_n hG 1 rfl rfl dX9_from_22 ?_
        refine v_iload hG 5 rfl dX9_from_23 ?_
        obtain ⟨r25, hr25, hf⟩ := bd_some hf
        refine v_callV hG (st := []) 0 9 (ct_X9_isTerm l g ad w a0 s6.2 r25 hr25) iw_X9_isTerm wk_1276 rfl rfl ⟨rfl, rfl, Nat.le_of_ble_eq_true rfl, Nat.le_of_ble_eq_true rfl⟩ ⟨Nat.le_of_ble_eq_true rfl, Nat.le_of_ble_eq_true rfl⟩ rfl rfl (Nat.le_of_ble_eq_true rfl) (mcells_fst _ _ _ _) dX9_from_25 ?_
        refine (show V p l e (k2_rm 1 22) s m args below meth c (inW (mcells g ad w)) (EN below args s g (mcells g ad w) (mcells g ad w) (some (.int rr))) g 6 (mcells g ad w) 0 0 28 [(0, .ref (ad 0)), (1, .int a0), (2, .int a1), (3, .int a2), (4, .int s6.1), (5, .int s6.2)] [.int r25] from ?_)
        refine v_if_eq hG 79 dX9_from_28 rfl hf (fun hf => ?_) (fun hf => ?_)
        · exact j79 s6.1 s6.2 hf
        · refine v_iload hG 4 rfl dX9_from_31 ?_
          refine v_aload_n hG 0 rfl rfl dX9_from_33 ?_
          refine m_g_0_20 hG wk_1086 dX9_from_34 ?_
          refine v_bipush hG (v := 12) (by decide) dX9_from_37 ?_
          refine v_iload_n hG 1 rfl rfl dX9_from_39 ?_
          refine v_imul hG dX9_from_40 ?_
          refine v_iload hG 5 rfl dX9_from_41 ?_
          refine v_iadd hG dX9_from_43 ?_
          refine m_l_17 hG dX9_from_44 hf (fun hf => ?_)
          refine v_lconst hG (v := 0) (by decide) dX9_from_45 ?_
          refine v_lcmp_le hG 54 dX9_from_46 dX9_from_47 rfl hf (fun hf => ?_) (fun hf => ?_)
          · refine v_iconst hG (v := 0) (by decide) dX9_from_54 ?_
            refine v_sub [(0, _), (1, _), (2, _), (3, _), (5, _)] [0, 1, 2, 3, 5] rfl ?_
            exact j55 s6.2 s6.1 0 hf
          · refine v_iconst hG (v := 1) (by decide) dX9_from_50 ?_
            refine v_goto hG 55 dX9_from_51 rfl ?_
            refine v_sub [(0, _), (1, _), (2, _), (3, _), (5, _)] [0, 1, 2, 3, 5] rfl ?_
            exact j55 s6.2 s6.1 1 hf
  · show V p l e (k2_rm 1 22) s m args below meth c (inW (mcells g ad w)) (EN below args s g (mcells g ad w) (mcells g ad w) (some (.int rr))) g 6 (mcells g ad w) 0 0 85 [(4, .int z6)] []
    refine v_iload hG 0 rfl dX9_from_85 ?_
    cases hf
    exact v_iret hG hr dX9_from_87
def X9_act_J62  (j62_0 : MW) : Option (MW) := (bnd (sM_acts j62_0 ((gM_acts j62_0) + 1)) (fun w69 : MW => (some w69)))
def X9_act (w : MW) (a0 : Int32) (a1 : Int32) (a2 : Int32) (a3 : Int32) (a4 : Int64) : Option (MW) := (if 400 ≤ (gM_acts w) then (X9_act_J62 w) else (if inR (gM_acts w) 400 = true then (bnd (sM_actRule w (upd (gM_actRule w) (gM_acts w).toNatClampNeg a0)) (fun w19 : MW => (if inR (gM_acts w19) 400 = true then (bnd (sM_actRow w19 (upd (gM_actRow w19) (gM_acts w19).toNatClampNeg a1)) (fun w29 : MW => (if inR (gM_acts w29) 400 = true then (bnd (sM_actColumn w29 (upd (gM_actColumn w29) (gM_acts w29).toNatClampNeg a2)) (fun w39 : MW => (if inR (gM_acts w39) 400 = true then (bnd (sM_actWhat w39 (upd (gM_actWhat w39) (gM_acts w39).toNatClampNeg a3)) (fun w50 : MW => (if inR (gM_acts w50) 400 = true then (bnd (sM_actValue w50 (vp_updL (gM_actValue w50) (gM_acts w50).toNatClampNeg a4)) (fun w61 : MW => (X9_act_J62 w61))) else none))) else none))) else none))) else none))) else none))
set_option maxRecDepth 100000 in
set_option maxHeartbeats 4000000 in
theorem ct_X9_act (l : Launch) (g : wG) (ad : Nat → Nat) (w : MW) (a0 : Int32) (a1 : Int32) (a2 : Int32) (a3 : Int32) (a4 : Int64) (rr : MW) (hf : X9_act w a0 a1 a2 a3 a4 = some rr) : MetN l g yX9_act cX9_act 7 none (k2_rm 0 0) [.ref (ad 0), .int a0, .int a1, .int a2, .int a3, .long a4] (mcells g ad w) (mcells g ad rr) none := by
  refine MetN.of2 [(0, .ref (ad 0)), (1, .int a0), (2, .int a1), (3, .int a2), (4, .int a3), (5, .long a4)] rfl (by decide +kernel) (Nat.le_of_ble_eq_true rfl) ?_
  intro p e s m args below meth c hG hr
  unfold X9_act at hf
  have j62 : ∀ (j62_0 : MW), X9_act_J62 j62_0 = some rr → V p l e (k2_rm 0 0) s m args below meth c (inW (mcells g ad w)) (EN below args s g (mcells g ad w) (mcells g ad rr) none) g 7 (mcells g ad j62_0) 0 0 62 [(0, .ref (ad 0))] [] := by
    intro j62_0 hf
    unfold X9_act_J62 at hf
    refine v_aload_n hG 0 rfl rfl dX9_act_62 ?_
    refine v_dup hG rfl dX9_act_63 ?_
    refine m_g_0_23 hG wk_1089 dX9_act_64 ?_
    refine v_iconst hG (v := 1) (by decide) dX9_act_67 ?_
    refine v_iadd hG dX9_act_68 ?_
    refine m_p_0_23 hG wk_1089 dX9_act_69 hf (fun w69 hf => ?_)
    cases hf
    exact v_vret hG hr dX9_act_72
  refine v_aload_n hG 0 rfl rfl dX9_act_0 ?_
  refine m_g_0_23 hG wk_1089 dX9_act_1 ?_
  refine v_sipush hG (v := 400) (by decide) dX9_act_4 ?_
  refine v_icmp_ge hG 62 dX9_act_7 rfl hf (fun hf => ?_) (fun hf => ?_)
  · refine v_sub [(0, _)] [0] rfl ?_
    exact j62 w hf
  · refine v_aload_n hG 0 rfl rfl dX9_act_10 ?_
    refine m_g_0_24 hG wk_1090 dX9_act_11 ?_
    refine v_aload_n hG 0 rfl rfl dX9_act_14 ?_
    refine m_g_0_23 hG wk_1089 dX9_act_15 ?_
    refine v_iload_n hG 1 rfl rfl dX9_act_18 ?_
    refine m_s_18 hG dX9_act_19 hf (fun w19 hf => ?_)
    refine v_aload_n hG 0 rfl rfl dX9_act_20 ?_
    refine m_g_0_25 hG wk_1091 dX9_act_21 ?_
    refine v_aload_n hG 0 rfl rfl dX9_act_24 ?_
    refine m_g_0_23 hG wk_1089 dX9_act_25 ?_
    refine v_iload_n hG 2 rfl rfl dX9_act_28 ?_
    refine m_s_19 hG dX9_act_29 hf (fun w29 hf => ?_)
    refine v_aload_n hG 0 rfl rfl dX9_act_30 ?_
    refine m_g_0_26 hG wk_1092 dX9_act_31 ?_
    refine v_aload_n hG 0 rfl rfl dX9_act_34 ?_
    refine m_g_0_23 hG wk_1089 dX9_act_35 ?_
    refine v_iload_n hG 3 rfl rfl dX9_act_38 ?_
    refine m_s_20 hG dX9_act_39 hf (fun w39 hf => ?_)
    refine v_aload_n hG 0 rfl rfl dX9_act_40 ?_
    refine m_g_0_27 hG wk_1093 dX9_act_41 ?_
    refine v_aload_n hG 0 rfl rfl dX9_act_44 ?_
    refine m_g_0_23 hG wk_1089 dX9_act_45 ?_
    refine v_iload hG 4 rfl dX9_act_48 ?_
    refine m_s_21 hG dX9_act_50 hf (fun w50 hf => ?_)
    refine v_aload_n hG 0 rfl rfl dX9_act_51 ?_
    refine m_g_0_28 hG wk_1094 dX9_act_52 ?_
    refine v_aload_n hG 0 rfl rfl dX9_act_55 ?_
    refine m_g_0_23 hG wk_1089 dX9_act_56 ?_
    refine v_lload hG 5 rfl dX9_act_59 ?_
    refine m_s_22 hG dX9_act_61 hf (fun w61 hf => ?_)
    refine v_sub [(0, _)] [0] rfl ?_
    exact j62 w61 hf
def X9_impossible_J17  (j17_0 : MW) (j17_1 : Int32) : Option (MW) := (bnd (sM_certificate j17_0 j17_1) (fun w17 : MW => (some w17)))
def X9_impossible (w : MW) (a0 : Int32) : Option (MW) := (if (gM_certificate w) = (-1) then (X9_impossible_J17 w a0) else (X9_impossible_J17 w (gM_certificate w)))
set_option maxRecDepth 100000 in
set_option maxHeartbeats 4000000 in
theorem ct_X9_impossible (l : Launch) (g : wG) (ad : Nat → Nat) (w : MW) (a0 : Int32) (rr : MW) (hf : X9_impossible w a0 = some rr) : MetN l g yX9_impossible cX9_impossible 2 none (k2_rm 0 0) [.ref (ad 0), .int a0] (mcells g ad w) (mcells g ad rr) none := by
  refine MetN.of2 [(0, .ref (ad 0)), (1, .int a0)] rfl (by decide +kernel) (Nat.le_of_ble_eq_true rfl) ?_
  intro p e s m args below meth c hG hr
  unfold X9_impossible at hf
  have j17 : ∀ (j17_0 : MW) (j17_1 : Int32), X9_impossible_J17 j17_0 j17_1 = some rr → V p l e (k2_rm 0 0) s m args below meth c (inW (mcells g ad w)) (EN below args s g (mcells g ad w) (mcells g ad rr) none) g 2 (mcells g ad j17_0) 0 0 17 [] [.int j17_1, .ref (ad 0)] := by
    intro j17_0 j17_1 hf
    unfold X9_impossible_J17 at hf
    refine m_p_0_22 hG wk_1088 dX9_impossible_17 hf (fun w17 hf => ?_)
    cases hf
    exact v_vret hG hr dX9_impossible_20
  refine v_aload_n hG 0 rfl rfl dX9_impossible_0 ?_
  refine v_aload_n hG 0 rfl rfl dX9_impossible_1 ?_
  refine m_g_0_22 hG wk_1088 dX9_impossible_2 ?_
  refine v_iconst hG (v := -1) (by decide) dX9_impossible_5 ?_
  refine v_icmp_ne hG 13 dX9_impossible_6 rfl hf (fun hf => ?_) (fun hf => ?_)
  · refine v_aload_n hG 0 rfl rfl dX9_impossible_13 ?_
    refine m_g_0_22 hG wk_1088 dX9_impossible_14 ?_
    refine v_sub [] [] rfl ?_
    exact j17 w (gM_certificate w) hf
  · refine v_iload_n hG 1 rfl rfl dX9_impossible_9 ?_
    refine v_goto hG 17 dX9_impossible_10 rfl ?_
    refine v_sub [] [] rfl ?_
    exact j17 w a0 hf
def X9_goesOn (w : MW) : Option (Int32) := (if (gM_certificate w) = (-1) then (some 1) else (some 0))
set_option maxRecDepth 100000 in
set_option maxHeartbeats 4000000 in
theorem ct_X9_goesOn (l : Launch) (g : wG) (ad : Nat → Nat) (w : MW)  (rr : Int32) (hf : X9_goesOn w = some rr) : MetN l g yX9_goesOn cX9_goesOn 1 (some .boolean) (k2_rm 0 0) [.ref (ad 0)] (mcells g ad w) (mcells g ad w) (some (.int rr)) := by
  refine MetN.of2 [(0, .ref (ad 0))] rfl (by decide +kernel) (Nat.le_of_ble_eq_true rfl) ?_
  intro p e s m args below meth c hG hr
  unfold X9_goesOn at hf
  refine v_aload_n hG 0 rfl rfl dX9_goesOn_0 ?_
  refine m_g_0_22 hG wk_1088 dX9_goesOn_1 ?_
  refine v_iconst hG (v := -1) (by decide) dX9_goesOn_4 ?_
  refine v_icmp_ne hG 12 dX9_goesOn_5 rfl hf (fun hf => ?_) (fun hf => ?_)
  · refine v_iconst hG (v := 0) (by decide) dX9_goesOn_12 ?_
    cases hf
    exact v_zret (x := 0) hG hr rfl dX9_goesOn_13
  · refine v_iconst hG (v := 1) (by decide) dX9_goesOn_8 ?_
    refine v_goto hG 13 dX9_goesOn_9 rfl ?_
    cases hf
    exact v_zret (x := 1) hG hr rfl dX9_goesOn_13
def X9_narrowLow (w : MW) (a0 : Int32) (a1 : Int32) (a2 : Int32) (a3 : Int64) (a4 : Int32) : Option (MW) := ((X9_goesOn w).bind (fun r1 : Int32 => (if r1 = 0 then (some w) else (if inR a2 12 = true then (if (((gM_low w) a2.toNatClampNeg).toInt64) < a3 then (if inR a2 12 = true then (if a3 ≤ (((gM_high w) a2.toNatClampNeg).toInt64) then (if inR a2 12 = true then (bnd (sM_low w (upd (gM_low w) a2.toNatClampNeg a3.toInt32)) (fun w56 : MW => (if inR a2 12 = true then (bnd (sM_lowRest w56 (upd (gM_lowRest w56) a2.toNatClampNeg a4)) (fun w64 : MW => ((X9_act w64 a0 a1 a2 1 a3).bind (fun r72 : MW => (some r72))))) else none))) else none) else (if inR a2 12 = true then ((X9_impossible w (a4 ||| ((gM_highRest w) a2.toNatClampNeg))).bind (fun r44 : MW => (some r44))) else none)) else none) else (some w)) else none))))
set_option maxRecDepth 100000 in
set_option maxHeartbeats 4000000 in
theorem ct_X9_narrowLow (l : Launch) (g : wG) (ad : Nat → Nat) (w : MW) (a0 : Int32) (a1 : Int32) (a2 : Int32) (a3 : Int64) (a4 : Int32) (rr : MW) (hf : X9_narrowLow w a0 a1 a2 a3 a4 = some rr) : MetN l g yX9_narrowLow cX9_narrowLow 7 none (k2_rm 1 26) [.ref (ad 0), .int a0, .int a1, .int a2, .long a3, .int a4] (mcells g ad w) (mcells g ad rr) none := by
  refine MetN.of2 [(0, .ref (ad 0)), (1, .int a0), (2, .int a1), (3, .int a2), (4, .long a3), (6, .int a4)] rfl (by decide +kernel) (Nat.le_of_ble_eq_true rfl) ?_
  intro p e s m args below meth c hG hr
  unfold X9_narrowLow at hf
  refine v_aload_n hG 0 rfl rfl dX9_narrowLow_0 ?_
  obtain ⟨r1, hr1, hf⟩ := bd_some hf
  refine v_callV hG (st := []) 0 9 (ct_X9_goesOn l g ad w  r1 hr1) iw_X9_goesOn wk_1256 rfl rfl ⟨rfl, rfl, Nat.le_of_ble_eq_true rfl, Nat.le_of_ble_eq_true rfl⟩ ⟨Nat.le_of_ble_eq_true rfl, Nat.le_of_ble_eq_true rfl⟩ rfl rfl (Nat.le_of_ble_eq_true rfl) (mcells_fst _ _ _ _) dX9_narrowLow_1 ?_
  refine (show V p l e (k2_rm 1 26) s m args below meth c (inW (mcells g ad w)) (EN below args s g (mcells g ad w) (mcells g ad rr) none) g 7 (mcells g ad w) 0 0 4 [(0, .ref (ad 0)), (1, .int a0), (2, .int a1), (3, .int a2), (4, .long a3), (6, .int a4)] [.int r1] from ?_)
  refine v_if_eq hG 20 dX9_narrowLow_4 rfl hf (fun hf => ?_) (fun hf => ?_)
  · cases hf
    exact v_vret hG hr dX9_narrowLow_20
  · refine v_lload hG 4 rfl dX9_narrowLow_7 ?_
    refine v_aload_n hG 0 rfl rfl dX9_narrowLow_9 ?_
    refine m_g_0_11 hG wk_1077 dX9_narrowLow_10 ?_
    refine v_iload_n hG 3 rfl rfl dX9_narrowLow_13 ?_
    refine m_l_8 hG dX9_narrowLow_14 hf (fun hf => ?_)
    refine v_i2l hG dX9_narrowLow_15 ?_
    refine v_lcmp_gt hG 21 dX9_narrowLow_16 dX9_narrowLow_17 rfl hf (fun hf => ?_) (fun hf => ?_)
    · refine v_lload hG 4 rfl dX9_narrowLow_21 ?_
      refine v_aload_n hG 0 rfl rfl dX9_narrowLow_23 ?_
      refine m_g_0_12 hG wk_1078 dX9_narrowLow_24 ?_
      refine v_iload_n hG 3 rfl rfl dX9_narrowLow_27 ?_
      refine m_l_9 hG dX9_narrowLow_28 hf (fun hf => ?_)
      refine v_i2l hG dX9_narrowLow_29 ?_
      refine v_lcmp_le hG 48 dX9_narrowLow_30 dX9_narrowLow_31 rfl hf (fun hf => ?_) (fun hf => ?_)
      · refine v_aload_n hG 0 rfl rfl dX9_narrowLow_48 ?_
        refine m_g_0_11 hG wk_1077 dX9_narrowLow_49 ?_
        refine v_iload_n hG 3 rfl rfl dX9_narrowLow_52 ?_
        refine v_lload hG 4 rfl dX9_narrowLow_53 ?_
        refine v_l2i hG dX9_narrowLow_55 ?_
        refine m_s_8 hG dX9_narrowLow_56 hf (fun w56 hf => ?_)
        refine v_aload_n hG 0 rfl rfl dX9_narrowLow_57 ?_
        refine m_g_0_13 hG wk_1079 dX9_narrowLow_58 ?_
        refine v_iload_n hG 3 rfl rfl dX9_narrowLow_61 ?_
        refine v_iload hG 5 rfl dX9_narrowLow_62 ?_
        refine m_s_10 hG dX9_narrowLow_64 hf (fun w64 hf => ?_)
        refine v_aload_n hG 0 rfl rfl dX9_narrowLow_65 ?_
        refine v_iload_n hG 1 rfl rfl dX9_narrowLow_66 ?_
        refine v_iload_n hG 2 rfl rfl dX9_narrowLow_67 ?_
        refine v_iload_n hG 3 rfl rfl dX9_narrowLow_68 ?_
        refine v_iconst hG (v := 1) (by decide) dX9_narrowLow_69 ?_
        refine v_lload hG 4 rfl dX9_narrowLow_70 ?_
        obtain ⟨r72, hr72, hf⟩ := bd_some hf
        refine v_callV hG (st := []) 0 9 (ct_X9_act l g ad w64 a0 a1 a2 1 a3 r72 hr72) iw_X9_act wk_1284 rfl rfl ⟨rfl, rfl, Nat.le_of_ble_eq_true rfl, Nat.le_of_ble_eq_true rfl⟩ ⟨Nat.le_of_ble_eq_true rfl, Nat.le_of_ble_eq_true rfl⟩ rfl rfl (Nat.le_of_ble_eq_true rfl) (mcells_fst _ _ _ _) dX9_narrowLow_72 ?_
        refine (show V p l e (k2_rm 1 26) s m args below meth c (inW (mcells g ad w)) (EN below args s g (mcells g ad w) (mcells g ad rr) none) g 7 (mcells g ad r72) 0 0 75 [(0, .ref (ad 0)), (1, .int a0), (2, .int a1), (3, .int a2), (4, .long a3), (6, .int a4)] [] from ?_)
        cases hf
        exact v_vret hG hr dX9_narrowLow_75
      · refine v_aload_n hG 0 rfl rfl dX9_narrowLow_34 ?_
        refine v_iload hG 5 rfl dX9_narrowLow_35 ?_
        refine v_aload_n hG 0 rfl rfl dX9_narrowLow_37 ?_
        refine m_g_0_14 hG wk_1080 dX9_narrowLow_38 ?_
        refine v_iload_n hG 3 rfl rfl dX9_narrowLow_41 ?_
        refine m_l_11 hG dX9_narrowLow_42 hf (fun hf => ?_)
        refine v_ior hG dX9_narrowLow_43 ?_
        obtain ⟨r44, hr44, hf⟩ := bd_some hf
        refine v_callV hG (st := []) 0 9 (ct_X9_impossible l g ad w (a4 ||| ((gM_highRest w) a2.toNatClampNeg)) r44 hr44) iw_X9_impossible wk_1288 rfl rfl ⟨rfl, rfl, Nat.le_of_ble_eq_true rfl, Nat.le_of_ble_eq_true rfl⟩ ⟨Nat.le_of_ble_eq_true rfl, Nat.le_of_ble_eq_true rfl⟩ rfl rfl (Nat.le_of_ble_eq_true rfl) (mcells_fst _ _ _ _) dX9_narrowLow_44 ?_
        refine (show V p l e (k2_rm 1 26) s m args below meth c (inW (mcells g ad w)) (EN below args s g (mcells g ad w) (mcells g ad rr) none) g 7 (mcells g ad r44) 0 0 47 [(0, .ref (ad 0)), (1, .int a0), (2, .int a1), (3, .int a2), (4, .long a3), (6, .int a4)] [] from ?_)
        cases hf
        exact v_vret hG hr dX9_narrowLow_47
    · cases hf
      exact v_vret hG hr dX9_narrowLow_20
def X9_narrowHigh (w : MW) (a0 : Int32) (a1 : Int32) (a2 : Int32) (a3 : Int64) (a4 : Int32) : Option (MW) := ((X9_goesOn w).bind (fun r1 : Int32 => (if r1 = 0 then (some w) else (if inR a2 12 = true then (if a3 < (((gM_high w) a2.toNatClampNeg).toInt64) then (if inR a2 12 = true then (if (((gM_low w) a2.toNatClampNeg).toInt64) ≤ a3 then (if inR a2 12 = true then (bnd (sM_high w (upd (gM_high w) a2.toNatClampNeg a3.toInt32)) (fun w56 : MW => (if inR a2 12 = true then (bnd (sM_highRest w56 (upd (gM_highRest w56) a2.toNatClampNeg a4)) (fun w64 : MW => ((X9_act w64 a0 a1 a2 2 a3).bind (fun r72 : MW => (some r72))))) else none))) else none) else (if inR a2 12 = true then ((X9_impossible w (a4 ||| ((gM_lowRest w) a2.toNatClampNeg))).bind (fun r44 : MW => (some r44))) else none)) else none) else (some w)) else none))))
set_option maxRecDepth 100000 in
set_option maxHeartbeats 4000000 in
theorem ct_X9_narrowHigh (l : Launch) (g : wG) (ad : Nat → Nat) (w : MW) (a0 : Int32) (a1 : Int32) (a2 : Int32) (a3 : Int64) (a4 : Int32) (rr : MW) (hf : X9_narrowHigh w a0 a1 a2 a3 a4 = some rr) : MetN l g yX9_narrowHigh cX9_narrowHigh 7 none (k2_rm 1 26) [.ref (ad 0), .int a0, .int a1, .int a2, .long a3, .int a4] (mcells g ad w) (mcells g ad rr) none := by
  refine MetN.of2 [(0, .ref (ad 0)), (1, .int a0), (2, .int a1), (3, .int a2), (4, .long a3), (6, .int a4)] rfl (by decide +kernel) (Nat.le_of_ble_eq_true rfl) ?_
  intro p e s m args below meth c hG hr
  unfold X9_narrowHigh at hf
  refine v_aload_n hG 0 rfl rfl dX9_narrowHigh_0 ?_
  obtain ⟨r1, hr1, hf⟩ := bd_some hf
  refine v_callV hG (st := []) 0 9 (ct_X9_goesOn l g ad w  r1 hr1) iw_X9_goesOn wk_1256 rfl rfl ⟨rfl, rfl, Nat.le_of_ble_eq_true rfl, Nat.le_of_ble_eq_true rfl⟩ ⟨Nat.le_of_ble_eq_true rfl, Nat.le_of_ble_eq_true rfl⟩ rfl rfl (Nat.le_of_ble_eq_true rfl) (mcells_fst _ _ _ _) dX9_narrowHigh_1 ?_
  refine (show V p l e (k2_rm 1 26) s m args below meth c (inW (mcells g ad w)) (EN below args s g (mcells g ad w) (mcells g ad rr) none) g 7 (mcells g ad w) 0 0 4 [(0, .ref (ad 0)), (1, .int a0), (2, .int a1), (3, .int a2), (4, .long a3), (6, .int a4)] [.int r1] from ?_)
  refine v_if_eq hG 20 dX9_narrowHigh_4 rfl hf (fun hf => ?_) (fun hf => ?_)
  · cases hf
    exact v_vret hG hr dX9_narrowHigh_20
  · refine v_lload hG 4 rfl dX9_narrowHigh_7 ?_
    refine v_aload_n hG 0 rfl rfl dX9_narrowHigh_9 ?_
    refine m_g_0_12 hG wk_1078 dX9_narrowHigh_10 ?_
    refine v_iload_n hG 3 rfl rfl dX9_narrowHigh_13 ?_
    refine m_l_9 hG dX9_narrowHigh_14 hf (fun hf => ?_)
    refine v_i2l hG dX9_narrowHigh_15 ?_
    refine v_lcmp_lt hG 21 dX9_narrowHigh_16 dX9_narrowHigh_17 rfl hf (fun hf => ?_) (fun hf => ?_)
    · refine v_lload hG 4 rfl dX9_narrowHigh_21 ?_
      refine v_aload_n hG 0 rfl rfl dX9_narrowHigh_23 ?_
      refine m_g_0_11 hG wk_1077 dX9_narrowHigh_24 ?_
      refine v_iload_n hG 3 rfl rfl dX9_narrowHigh_27 ?_
      refine m_l_8 hG dX9_narrowHigh_28 hf (fun hf => ?_)
      refine v_i2l hG dX9_narrowHigh_29 ?_
      refine v_lcmp_ge hG 48 dX9_narrowHigh_30 dX9_narrowHigh_31 rfl hf (fun hf => ?_) (fun hf => ?_)
      · refine v_aload_n hG 0 rfl rfl dX9_narrowHigh_48 ?_
        refine m_g_0_12 hG wk_1078 dX9_narrowHigh_49 ?_
        refine v_iload_n hG 3 rfl rfl dX9_narrowHigh_52 ?_
        refine v_lload hG 4 rfl dX9_narrowHigh_53 ?_
        refine v_l2i hG dX9_narrowHigh_55 ?_
        refine m_s_9 hG dX9_narrowHigh_56 hf (fun w56 hf => ?_)
        refine v_aload_n hG 0 rfl rfl dX9_narrowHigh_57 ?_
        refine m_g_0_14 hG wk_1080 dX9_narrowHigh_58 ?_
        refine v_iload_n hG 3 rfl rfl dX9_narrowHigh_61 ?_
        refine v_iload hG 5 rfl dX9_narrowHigh_62 ?_
        refine m_s_11 hG dX9_narrowHigh_64 hf (fun w64 hf => ?_)
        refine v_aload_n hG 0 rfl rfl dX9_narrowHigh_65 ?_
        refine v_iload_n hG 1 rfl rfl dX9_narrowHigh_66 ?_
        refine v_iload_n hG 2 rfl rfl dX9_narrowHigh_67 ?_
        refine v_iload_n hG 3 rfl rfl dX9_narrowHigh_68 ?_
        refine v_iconst hG (v := 2) (by decide) dX9_narrowHigh_69 ?_
        refine v_lload hG 4 rfl dX9_narrowHigh_70 ?_
        obtain ⟨r72, hr72, hf⟩ := bd_some hf
        refine v_callV hG (st := []) 0 9 (ct_X9_act l g ad w64 a0 a1 a2 2 a3 r72 hr72) iw_X9_act wk_1284 rfl rfl ⟨rfl, rfl, Nat.le_of_ble_eq_true rfl, Nat.le_of_ble_eq_true rfl⟩ ⟨Nat.le_of_ble_eq_true rfl, Nat.le_of_ble_eq_true rfl⟩ rfl rfl (Nat.le_of_ble_eq_true rfl) (mcells_fst _ _ _ _) dX9_narrowHigh_72 ?_
        refine (show V p l e (k2_rm 1 26) s m args below meth c (inW (mcells g ad w)) (EN below args s g (mcells g ad w) (mcells g ad rr) none) g 7 (mcells g ad r72) 0 0 75 [(0, .ref (ad 0)), (1, .int a0), (2, .int a1), (3, .int a2), (4, .long a3), (6, .int a4)] [] from ?_)
        cases hf
        exact v_vret hG hr dX9_narrowHigh_75
      · refine v_aload_n hG 0 rfl rfl dX9_narrowHigh_34 ?_
        refine v_iload hG 5 rfl dX9_narrowHigh_35 ?_
        refine v_aload_n hG 0 rfl rfl dX9_narrowHigh_37 ?_
        refine m_g_0_13 hG wk_1079 dX9_narrowHigh_38 ?_
        refine v_iload_n hG 3 rfl rfl dX9_narrowHigh_41 ?_
        refine m_l_10 hG dX9_narrowHigh_42 hf (fun hf => ?_)
        refine v_ior hG dX9_narrowHigh_43 ?_
        obtain ⟨r44, hr44, hf⟩ := bd_some hf
        refine v_callV hG (st := []) 0 9 (ct_X9_impossible l g ad w (a4 ||| ((gM_lowRest w) a2.toNatClampNeg)) r44 hr44) iw_X9_impossible wk_1288 rfl rfl ⟨rfl, rfl, Nat.le_of_ble_eq_true rfl, Nat.le_of_ble_eq_true rfl⟩ ⟨Nat.le_of_ble_eq_true rfl, Nat.le_of_ble_eq_true rfl⟩ rfl rfl (Nat.le_of_ble_eq_true rfl) (mcells_fst _ _ _ _) dX9_narrowHigh_44 ?_
        refine (show V p l e (k2_rm 1 26) s m args below meth c (inW (mcells g ad w)) (EN below args s g (mcells g ad w) (mcells g ad rr) none) g 7 (mcells g ad r44) 0 0 47 [(0, .ref (ad 0)), (1, .int a0), (2, .int a1), (3, .int a2), (4, .long a3), (6, .int a4)] [] from ?_)
        cases hf
        exact v_vret hG hr dX9_narrowHigh_47
    · cases hf
      exact v_vret hG hr dX9_narrowHigh_20
def X9_leave (w : MW) (a0 : Int32) (a1 : Int32) : Option (MW) := ((X9_goesOn w).bind (fun r1 : Int32 => (if r1 = 0 then (some w) else (if inR a1 12 = true then (bnd (sM_gone w (upd (gM_gone w) a1.toNatClampNeg (vp_nar .boolean 1))) (fun w13 : MW => (if inR a1 12 = true then ((X9_act w13 a0 a1 (-1) 0 ((gM_right w13) a1.toNatClampNeg)).bind (fun r25 : MW => (some r25))) else none))) else none))))
set_option maxRecDepth 100000 in
set_option maxHeartbeats 4000000 in
theorem ct_X9_leave (l : Launch) (g : wG) (ad : Nat → Nat) (w : MW) (a0 : Int32) (a1 : Int32) (rr : MW) (hf : X9_leave w a0 a1 = some rr) : MetN l g yX9_leave cX9_leave 3 none (k2_rm 1 26) [.ref (ad 0), .int a0, .int a1] (mcells g ad w) (mcells g ad rr) none := by
  refine MetN.of2 [(0, .ref (ad 0)), (1, .int a0), (2, .int a1)] rfl (by decide +kernel) (Nat.le_of_ble_eq_true rfl) ?_
  intro p e s m args below meth c hG hr
  unfold X9_leave at hf
  refine v_aload_n hG 0 rfl rfl dX9_leave_0 ?_
  obtain ⟨r1, hr1, hf⟩ := bd_some hf
  refine v_callV hG (st := []) 0 9 (ct_X9_goesOn l g ad w  r1 hr1) iw_X9_goesOn wk_1256 rfl rfl ⟨rfl, rfl, Nat.le_of_ble_eq_true rfl, Nat.le_of_ble_eq_true rfl⟩ ⟨Nat.le_of_ble_eq_true rfl, Nat.le_of_ble_eq_true rfl⟩ rfl rfl (Nat.le_of_ble_eq_true rfl) (mcells_fst _ _ _ _) dX9_leave_1 ?_
  refine (show V p l e (k2_rm 1 26) s m args below meth c (inW (mcells g ad w)) (EN below args s g (mcells g ad w) (mcells g ad rr) none) g 3 (mcells g ad w) 0 0 4 [(0, .ref (ad 0)), (1, .int a0), (2, .int a1)] [.int r1] from ?_)
  refine v_if_eq hG 28 dX9_leave_4 rfl hf (fun hf => ?_) (fun hf => ?_)
  · cases hf
    exact v_vret hG hr dX9_leave_28
  · refine v_aload_n hG 0 rfl rfl dX9_leave_7 ?_
    refine m_g_0_17 hG wk_1083 dX9_leave_8 ?_
    refine v_iload_n hG 2 rfl rfl dX9_leave_11 ?_
    refine v_iconst hG (v := 1) (by decide) dX9_leave_12 ?_
    refine m_s_14 hG dX9_leave_13 hf (fun w13 hf => ?_)
    refine v_aload_n hG 0 rfl rfl dX9_leave_14 ?_
    refine v_iload_n hG 1 rfl rfl dX9_leave_15 ?_
    refine v_iload_n hG 2 rfl rfl dX9_leave_16 ?_
    refine v_iconst hG (v := -1) (by decide) dX9_leave_17 ?_
    refine v_iconst hG (v := 0) (by decide) dX9_leave_18 ?_
    refine v_aload_n hG 0 rfl rfl dX9_leave_19 ?_
    refine m_g_0_18 hG wk_1084 dX9_leave_20 ?_
    refine v_iload_n hG 2 rfl rfl dX9_leave_23 ?_
    refine m_l_15 hG dX9_leave_24 hf (fun hf => ?_)
    obtain ⟨r25, hr25, hf⟩ := bd_some hf
    refine v_callV hG (st := []) 0 9 (ct_X9_act l g ad w13 a0 a1 (-1) 0 ((gM_right w13) a1.toNatClampNeg) r25 hr25) iw_X9_act wk_1284 rfl rfl ⟨rfl, rfl, Nat.le_of_ble_eq_true rfl, Nat.le_of_ble_eq_true rfl⟩ ⟨Nat.le_of_ble_eq_true rfl, Nat.le_of_ble_eq_true rfl⟩ rfl rfl (Nat.le_of_ble_eq_true rfl) (mcells_fst _ _ _ _) dX9_leave_25 ?_
    refine (show V p l e (k2_rm 1 26) s m args below meth c (inW (mcells g ad w)) (EN below args s g (mcells g ad w) (mcells g ad rr) none) g 3 (mcells g ad r25) 0 0 28 [(0, .ref (ad 0)), (1, .int a0), (2, .int a1)] [] from ?_)
    cases hf
    exact v_vret hG hr dX9_leave_28
def X9_empty_J52 (a0 : Int32) (j52_0 : MW) : Option (MW) := (if inR a0 12 = true then ((X9_impossible j52_0 ((gM_rest j52_0) a0.toNatClampNeg)).bind (fun r59 : MW => (some r59))) else none)
def X9_empty_J43 (a0 : Int32) (j43_0 : MW) : Option (MW) := ((X9_leave j43_0 1 a0).bind (fun r46 : MW => (some r46)))
def X9_empty (w : MW) (a0 : Int32) : Option (MW) := ((X9_terms w a0).bind (fun r2 : Int32 => (if r2 ≤ 0 then (if inR a0 12 = true then (if ((gM_kind w) a0.toNatClampNeg) = 0 then (if inR a0 12 = true then (if ((gM_right w) a0.toNatClampNeg) < 0 then (X9_empty_J52 a0 w) else (X9_empty_J43 a0 w)) else none) else (if inR a0 12 = true then (if ((gM_right w) a0.toNatClampNeg) = 0 then (X9_empty_J43 a0 w) else (X9_empty_J52 a0 w)) else none)) else none) else (some w))))
set_option maxRecDepth 100000 in
set_option maxHeartbeats 4000000 in
theorem ct_X9_empty (l : Launch) (g : wG) (ad : Nat → Nat) (w : MW) (a0 : Int32) (rr : MW) (hf : X9_empty w a0 = some rr) : MetN l g yX9_empty cX9_empty 2 none (k2_rm 2 48) [.ref (ad 0), .int a0] (mcells g ad w) (mcells g ad rr) none := by
  refine MetN.of2 [(0, .ref (ad 0)), (1, .int a0)] rfl (by decide +kernel) (Nat.le_of_ble_eq_true rfl) ?_
  intro p e s m args below meth c hG hr
  unfold X9_empty at hf
  have j52 : ∀ (j52_0 : MW), X9_empty_J52 a0 j52_0 = some rr → V p l e (k2_rm 2 48) s m args below meth c (inW (mcells g ad w)) (EN below args s g (mcells g ad w) (mcells g ad rr) none) g 2 (mcells g ad j52_0) 0 0 52 [(0, .ref (ad 0)), (1, .int a0)] [] := by
    intro j52_0 hf
    unfold X9_empty_J52 at hf
    refine v_aload_n hG 0 rfl rfl dX9_empty_52 ?_
    refine v_aload_n hG 0 rfl rfl dX9_empty_53 ?_
    refine m_g_0_19 hG wk_1085 dX9_empty_54 ?_
    refine v_iload_n hG 1 rfl rfl dX9_empty_57 ?_
    refine m_l_16 hG dX9_empty_58 hf (fun hf => ?_)
    obtain ⟨r59, hr59, hf⟩ := bd_some hf
    refine v_callV hG (st := []) 0 9 (ct_X9_impossible l g ad j52_0 ((gM_rest j52_0) a0.toNatClampNeg) r59 hr59) iw_X9_impossible wk_1288 rfl rfl ⟨rfl, rfl, Nat.le_of_ble_eq_true rfl, Nat.le_of_ble_eq_true rfl⟩ ⟨Nat.le_of_ble_eq_true rfl, Nat.le_of_ble_eq_true rfl⟩ rfl rfl (Nat.le_of_ble_eq_true rfl) (mcells_fst _ _ _ _) dX9_empty_59 ?_
    refine (show V p l e (k2_rm 2 48) s m args below meth c (inW (mcells g ad w)) (EN below args s g (mcells g ad w) (mcells g ad rr) none) g 2 (mcells g ad r59) 0 0 62 [(0, .ref (ad 0)), (1, .int a0)] [] from ?_)
    cases hf
    exact v_vret hG hr dX9_empty_62
  have j43 : ∀ (j43_0 : MW), X9_empty_J43 a0 j43_0 = some rr → V p l e (k2_rm 2 48) s m args below meth c (inW (mcells g ad w)) (EN below args s g (mcells g ad w) (mcells g ad rr) none) g 2 (mcells g ad j43_0) 0 0 43 [(0, .ref (ad 0)), (1, .int a0)] [] := by
    intro j43_0 hf
    unfold X9_empty_J43 at hf
    refine v_aload_n hG 0 rfl rfl dX9_empty_43 ?_
    refine v_iconst hG (v := 1) (by decide) dX9_empty_44 ?_
    refine v_iload_n hG 1 rfl rfl dX9_empty_45 ?_
    obtain ⟨r46, hr46, hf⟩ := bd_some hf
    refine v_callV hG (st := []) 0 9 (ct_X9_leave l g ad j43_0 1 a0 r46 hr46) iw_X9_leave wk_1280 rfl rfl ⟨rfl, rfl, Nat.le_of_ble_eq_true rfl, Nat.le_of_ble_eq_true rfl⟩ ⟨Nat.le_of_ble_eq_true rfl, Nat.le_of_ble_eq_true rfl⟩ rfl rfl (Nat.le_of_ble_eq_true rfl) (mcells_fst _ _ _ _) dX9_empty_46 ?_
    refine (show V p l e (k2_rm 2 48) s m args below meth c (inW (mcells g ad w)) (EN below args s g (mcells g ad w) (mcells g ad rr) none) g 2 (mcells g ad r46) 0 0 49 [(0, .ref (ad 0)), (1, .int a0)] [] from ?_)
    refine v_goto hG 62 dX9_empty_49 rfl ?_
    cases hf
    exact v_vret hG hr dX9_empty_62
  refine v_aload_n hG 0 rfl rfl dX9_empty_0 ?_
  refine v_iload_n hG 1 rfl rfl dX9_empty_1 ?_
  obtain ⟨r2, hr2, hf⟩ := bd_some hf
  refine v_callV hG (st := []) 0 9 (ct_X9_terms l g ad w a0 r2 hr2) iw_X9_terms wk_1272 rfl rfl ⟨rfl, rfl, Nat.le_of_ble_eq_true rfl, Nat.le_of_ble_eq_true rfl⟩ ⟨Nat.le_of_ble_eq_true rfl, Nat.le_of_ble_eq_true rfl⟩ rfl rfl (Nat.le_of_ble_eq_true rfl) (mcells_fst _ _ _ _) dX9_empty_2 ?_
  refine (show V p l e (k2_rm 2 48) s m args below meth c (inW (mcells g ad w)) (EN below args s g (mcells g ad w) (mcells g ad rr) none) g 2 (mcells g ad w) 0 0 5 [(0, .ref (ad 0)), (1, .int a0)] [.int r2] from ?_)
  refine v_if_le hG 9 dX9_empty_5 rfl hf (fun hf => ?_) (fun hf => ?_)
  · refine v_aload_n hG 0 rfl rfl dX9_empty_9 ?_
    refine m_g_0_16 hG wk_1082 dX9_empty_10 ?_
    refine v_iload_n hG 1 rfl rfl dX9_empty_13 ?_
    refine m_l_13 hG dX9_empty_14 hf (fun hf => ?_)
    refine v_if_ne hG 32 dX9_empty_15 rfl hf (fun hf => ?_) (fun hf => ?_)
    · refine v_aload_n hG 0 rfl rfl dX9_empty_32 ?_
      refine m_g_0_18 hG wk_1084 dX9_empty_33 ?_
      refine v_iload_n hG 1 rfl rfl dX9_empty_36 ?_
      refine m_l_15 hG dX9_empty_37 hf (fun hf => ?_)
      refine v_lconst hG (v := 0) (by decide) dX9_empty_38 ?_
      refine v_lcmp_ne hG 52 dX9_empty_39 dX9_empty_40 rfl hf (fun hf => ?_) (fun hf => ?_)
      · exact j52 w hf
      · exact j43 w hf
    · refine v_aload_n hG 0 rfl rfl dX9_empty_18 ?_
      refine m_g_0_18 hG wk_1084 dX9_empty_19 ?_
      refine v_iload_n hG 1 rfl rfl dX9_empty_22 ?_
      refine m_l_15 hG dX9_empty_23 hf (fun hf => ?_)
      refine v_lconst hG (v := 0) (by decide) dX9_empty_24 ?_
      refine v_lcmp_lt hG 52 dX9_empty_25 dX9_empty_26 rfl hf (fun hf => ?_) (fun hf => ?_)
      · exact j52 w hf
      · refine v_goto hG 43 dX9_empty_29 rfl ?_
        exact j43 w hf
  · cases hf
    exact v_vret hG hr dX9_empty_8
def X9_divisor_L9  (s9 : Int64 × Int64 × Int32) : Option ((Int64 × Int64 × Int32) ⊕ ((Int64))) := (if 200 ≤ s9.2.2 then (some (.inr s9.1)) else (if s9.2.1 = 0 then (some (.inr s9.1)) else (if s9.2.1 = 0 then none else (some (.inl (s9.2.1, (s9.1 - s9.1 / s9.2.1 * s9.2.1), (s9.2.2 + 1)))))))
def X9_divisor (a0 : Int64) (a1 : Int64) : Option (Int64) := ((iter (X9_divisor_L9) 5000 (a0, a1, 0)).bind (fun z9 : (Int64) => (some z9)))
set_option maxRecDepth 100000 in
set_option maxHeartbeats 4000000 in
theorem ct_X9_divisor (l : Launch) (g : wG) (a0 : Int64) (a1 : Int64) (rr : Int64) (hf : X9_divisor a0 a1 = some rr) : MetN l g yX9_divisor cX9_divisor 11 (some .long) (k2_rm 0 0) [.long a0, .long a1] [] [] (some (.long rr)) := by
  refine MetN.of2 [(0, .long a0), (2, .long a1)] rfl (by decide +kernel) (Nat.le_of_ble_eq_true rfl) ?_
  intro p e s m args below meth c hG hr
  unfold X9_divisor at hf
  refine v_lload_n hG 0 rfl rfl dX9_divisor_0 ?_
  refine v_lstore hG [(4, _), (0, _), (2, _)] dX9_divisor_1 (by decide) rfl ?_
  refine v_lload_n hG 2 rfl rfl dX9_divisor_3 ?_
  refine v_lstore hG [(6, _), (4, _), (0, _), (2, _)] dX9_divisor_4 (by decide) rfl ?_
  refine v_iconst hG (v := 0) (by decide) dX9_divisor_6 ?_
  refine v_istore hG [(8, _), (6, _), (4, _), (0, _), (2, _)] dX9_divisor_7 (by decide) rfl ?_
  refine v_sub [(4, _), (6, _), (8, _)] [2, 1, 0] rfl ?_
  obtain ⟨z9, hlz9, hf⟩ := bd_some hf
  refine loop_v (step := X9_divisor_L9) (fun s9 : Int64 × Int64 × Int32 => V p l e (k2_rm 0 0) s m args below meth c (inW []) (EN below args s g [] [] (some (.long rr))) g 11 [] 0 0 9 [(4, .long s9.1), (6, .long s9.2.1), (8, .int s9.2.2)] []) (fun z9_q : (Int64) => V p l e (k2_rm 0 0) s m args below meth c (inW []) (EN below args s g [] [] (some (.long rr))) g 11 [] 0 0 45 [(4, .long z9_q)] []) ?_ 5000 (a0, a1, 0) z9 hlz9 ?_
  · intro s9 rL hf hin hout
    unfold X9_divisor_L9 at hf
    refine v_iload hG 2 rfl dX9_divisor_9 ?_
    refine v_sipush hG (v := 200) (by decide) dX9_divisor_11 ?_
    refine v_icmp_ge hG 45 dX9_divisor_14 rfl hf (fun hf => ?_) (fun hf => ?_)
    · refine v_sub [(4, _)] [0] rfl ?_
      exact hout _ (Option.some.inj hf).symm
    · refine v_lload hG 1 rfl dX9_divisor_17 ?_
      refine v_lconst hG (v := 0) (by decide) dX9_divisor_19 ?_
      refine v_lcmp_eq hG 45 dX9_divisor_20 dX9_divisor_21 rfl hf (fun hf => ?_) (fun hf => ?_)
      · refine v_sub [(4, _)] [0] rfl ?_
        exact hout _ (Option.some.inj hf).symm
      · refine v_lload hG 0 rfl dX9_divisor_24 ?_
        refine v_lload hG 1 rfl dX9_divisor_26 ?_
        refine v_lrem hG dX9_divisor_28 hf (fun hf => ?_)
        refine v_lstore hG [(9, _), (4, _), (6, _), (8, _)] dX9_divisor_29 (by decide) rfl ?_
        refine v_lload hG 2 rfl dX9_divisor_31 ?_
        refine v_lstore hG [(4, _), (9, _), (6, _), (8, _)] dX9_divisor_33 (by decide) rfl ?_
        refine v_lload hG 1 rfl dX9_divisor_35 ?_
        refine v_lstore hG [(6, _), (4, _), (9, _), (8, _)] dX9_divisor_37 (by decide) rfl ?_
        refine v_iinc hG 3 (v := s9.2.2 + 1) [(8, _), (6, _), (4, _), (9, _)] dX9_divisor_39 rfl rfl (by decide) rfl ?_
        refine v_goto hG 9 dX9_divisor_42 rfl ?_
        refine v_sub [(4, _), (6, _), (8, _)] [2, 1, 0] rfl ?_
        exact hin _ (Option.some.inj hf).symm
  · show V p l e (k2_rm 0 0) s m args below meth c (inW []) (EN below args s g [] [] (some (.long rr))) g 11 [] 0 0 45 [(4, .long z9)] []
    refine v_lload hG 0 rfl dX9_divisor_45 ?_
    cases hf
    exact v_lret hG hr dX9_divisor_47
def X9_shared_J66  (j66_0 : Int64) (j66_1 : Int32) (j66_2 : Int32) : Option ((Int64 × Int32 × Int32) ⊕ ((Int64 × Int32))) := (some (.inl (j66_0, j66_1, (j66_2 + (-1)))))
def X9_shared_J57  (j57_0 : Int64) (j57_1 : Int32) (j57_2 : Int64) : Option ((Int64 × Int32 × Int32) ⊕ ((Int64 × Int32))) := ((X9_divisor j57_2 j57_0).bind (fun r58 : Int64 => (X9_shared_J66 r58 j57_1 j57_1)))
def X9_shared_L13 (w : MW) (a0 : Int32) (s13 : Int64 × Int32 × Int32) : Option ((Int64 × Int32 × Int32) ⊕ ((Int64 × Int32))) := (if s13.2.2 < 0 then (some (.inr (s13.1, s13.2.1))) else ((X9_isTerm w a0 s13.2.2).bind (fun r22 : Int32 => (if r22 = 0 then (X9_shared_J66 s13.1 s13.2.1 s13.2.2) else (if inR ((12 * a0) + s13.2.2) 144 = true then (if 0 ≤ ((gM_coef w) ((12 * a0) + s13.2.2).toNatClampNeg) then (X9_shared_J57 s13.1 s13.2.2 ((gM_coef w) ((12 * a0) + s13.2.2).toNatClampNeg)) else (X9_shared_J57 s13.1 s13.2.2 (-((gM_coef w) ((12 * a0) + s13.2.2).toNatClampNeg)))) else none)))))
def X9_shared_J224  (j224_0 : MW) (j224_1 : Int32) : Option ((MW × Int32) ⊕ ((MW))) := (some (.inl (j224_0, (j224_1 + 1))))
def X9_shared_L176 (a0 : Int32) (j171_1 : Int64) (j171_2 : Int64) (s176 : MW × Int32) : Option ((MW × Int32) ⊕ ((MW))) := (if (gM_columns s176.1) ≤ s176.2 then (some (.inr s176.1)) else ((X9_isTerm s176.1 a0 s176.2).bind (fun r189 : Int32 => (if r189 = 0 then (X9_shared_J224 s176.1 s176.2) else (if inR ((12 * a0) + s176.2) 144 = true then (if j171_1 = 0 then none else (if inR ((12 * a0) + s176.2) 144 = true then (bnd (sM_coef s176.1 (vp_updL (gM_coef s176.1) ((12 * a0) + s176.2).toNatClampNeg (j171_2 * (((gM_coef s176.1) ((12 * a0) + s176.2).toNatClampNeg) / j171_1)))) (fun w223 : MW => (X9_shared_J224 w223 s176.2))) else none)) else none)))))
def X9_shared_J171 (a0 : Int32) (j171_0 : MW) (j171_1 : Int64) (j171_2 : Int64) : Option (MW) := ((iter (X9_shared_L176 a0 j171_1 j171_2) 5000 (j171_0, 0)).bind (fun z176 : (MW) => (if inR a0 12 = true then ((X9_down ((gM_right z176) a0.toNatClampNeg) j171_1).bind (fun r244 : Int64 => (if inR a0 12 = true then (bnd (sM_right z176 (vp_updL (gM_right z176) a0.toNatClampNeg (j171_2 * r244))) (fun w248 : MW => (if inR a0 12 = true then ((X9_act w248 2 a0 (-1) 3 ((gM_right w248) a0.toNatClampNeg)).bind (fun r260 : MW => (some r260))) else none))) else none))) else none)))
def X9_shared_J159 (a0 : Int32) (j159_0 : MW) (j159_1 : Int64) (j159_2 : Int32) : Option (MW) := (if j159_2 = 0 then (X9_shared_J171 a0 j159_0 j159_1 1) else (X9_shared_J171 a0 j159_0 j159_1 (-1)))
def X9_shared_J145 (a0 : Int32) (j145_0 : MW) (j145_1 : Int64) (j145_2 : Int32) : Option (MW) := (if j145_1 = 1 then (if j145_2 = 0 then (some j145_0) else (X9_shared_J159 a0 j145_0 j145_1 j145_2)) else (X9_shared_J159 a0 j145_0 j145_1 j145_2))
def X9_shared_J144 (a0 : Int32) (j144_0 : MW) (j144_1 : Int64) : Option (MW) := (X9_shared_J145 a0 j144_0 j144_1 0)
def X9_shared_J113 (a0 : Int32) (j113_0 : MW) (j113_1 : Int64) (j113_2 : Int32) : Option (MW) := (if inR a0 12 = true then (if ((gM_kind j113_0) a0.toNatClampNeg) = 1 then (if inR ((12 * a0) + j113_2) 144 = true then (if 0 ≤ ((gM_coef j113_0) ((12 * a0) + j113_2).toNatClampNeg) then (X9_shared_J144 a0 j113_0 j113_1) else (X9_shared_J145 a0 j113_0 j113_1 1)) else none) else (X9_shared_J144 a0 j113_0 j113_1)) else none)
def X9_shared (w : MW) (a0 : Int32) : Option (MW) := ((iter (X9_shared_L13 w a0) 5000 (0, (-1), ((gM_columns w) - 1))).bind (fun z13 : (Int64 × Int32) => (if z13.2 = (-1) then (some w) else (if inR a0 12 = true then (if ((gM_kind w) a0.toNatClampNeg) = 1 then (if inR a0 12 = true then (if z13.1 = 0 then none else (if (((gM_right w) a0.toNatClampNeg) - ((gM_right w) a0.toNatClampNeg) / z13.1 * z13.1) = 0 then (X9_shared_J113 a0 w z13.1 z13.2) else (if inR a0 12 = true then ((X9_impossible w ((gM_rest w) a0.toNatClampNeg)).bind (fun r109 : MW => (some r109))) else none))) else none) else (X9_shared_J113 a0 w z13.1 z13.2)) else none))))
set_option maxRecDepth 100000 in
set_option maxHeartbeats 4000000 in
theorem ct_X9_shared (l : Launch) (g : wG) (ad : Nat → Nat) (w : MW) (a0 : Int32) (rr : MW) (hf : X9_shared w a0 = some rr) : MetN l g yX9_shared cX9_shared 9 none (k2_rm 1 30) [.ref (ad 0), .int a0] (mcells g ad w) (mcells g ad rr) none := by
  refine MetN.of2 [(0, .ref (ad 0)), (1, .int a0)] rfl (by decide +kernel) (Nat.le_of_ble_eq_true rfl) ?_
  intro p e s m args below meth c hG hr
  unfold X9_shared at hf
  have j171 : ∀ (j171_0 : MW) (j171_1 : Int64) (j171_2 : Int64), X9_shared_J171 a0 j171_0 j171_1 j171_2 = some rr → V p l e (k2_rm 1 30) s m args below meth c (inW (mcells g ad w)) (EN below args s g (mcells g ad w) (mcells g ad rr) none) g 9 (mcells g ad j171_0) 0 0 171 [(0, .ref (ad 0)), (1, .int a0), (2, .long j171_1)] [.long j171_2] := by
    intro j171_0 j171_1 j171_2 hf
    unfold X9_shared_J171 at hf
    refine v_lstore hG [(6, _), (0, _), (1, _), (2, _)] dX9_shared_171 (by decide) rfl ?_
    refine v_iconst hG (v := 0) (by decide) dX9_shared_173 ?_
    refine v_istore hG [(8, _), (6, _), (0, _), (1, _), (2, _)] dX9_shared_174 (by decide) rfl ?_
    refine v_sub [(0, _), (1, _), (2, _), (6, _), (8, _)] [2, 3, 4, 1, 0] rfl ?_
    obtain ⟨z176, hlz176, hf⟩ := bd_some hf
    refine loop_v (step := X9_shared_L176 a0 j171_1 j171_2) (fun s176 : MW × Int32 => V p l e (k2_rm 1 30) s m args below meth c (inW (mcells g ad w)) (EN below args s g (mcells g ad w) (mcells g ad rr) none) g 9 (mcells g ad s176.1) 0 0 176 [(0, .ref (ad 0)), (1, .int a0), (2, .long j171_1), (6, .long j171_2), (8, .int s176.2)] []) (fun z176_q : (MW) => V p l e (k2_rm 1 30) s m args below meth c (inW (mcells g ad w)) (EN below args s g (mcells g ad w) (mcells g ad rr) none) g 9 (mcells g ad z176_q) 0 0 230 [(0, .ref (ad 0)), (1, .int a0), (2, .long j171_1), (6, .long j171_2)] []) ?_ 5000 (j171_0, 0) z176 hlz176 ?_
    · intro s176 rL hf hin hout
      unfold X9_shared_L176 at hf
      have j224 : ∀ (j224_0 : MW) (j224_1 : Int32), X9_shared_J224 j224_0 j224_1 = some rL → V p l e (k2_rm 1 30) s m args below meth c (inW (mcells g ad w)) (EN below args s g (mcells g ad w) (mcells g ad rr) none) g 9 (mcells g ad j224_0) 0 0 224 [(0, .ref (ad 0)), (1, .int a0), (2, .long j171_1), (6, .long j171_2), (8, .int j224_1)] [] := by
        intro j224_0 j224_1 hf
        unfold X9_shared_J224 at hf
        refine v_iinc hG 4 (v := j224_1 + 1) [(8, _), (0, _), (1, _), (2, _), (6, _)] dX9_shared_224 rfl rfl (by decide) rfl ?_
        refine v_goto hG 176 dX9_shared_227 rfl ?_
        refine v_sub [(0, _), (1, _), (2, _), (6, _), (8, _)] [1, 2, 3, 4, 0] rfl ?_
        exact hin _ (Option.some.inj hf).symm
      refine v_iload hG 4 rfl dX9_shared_176 ?_
      refine v_aload_n hG 0 rfl rfl dX9_shared_178 ?_
      refine m_g_0_1 hG wk_1067 dX9_shared_179 ?_
      refine v_icmp_ge hG 230 dX9_shared_182 rfl hf (fun hf => ?_) (fun hf => ?_)
      · refine v_sub [(0, _), (1, _), (2, _), (6, _)] [0, 1, 2, 3] rfl ?_
        exact hout _ (Option.some.inj hf).symm
      · refine v_aload_n hG 0 rfl rfl dX9_shared_185 ?_
        refine v_iload_n hG 1 rfl rfl dX9_shared_186 ?_
        refine v_iload hG 4 rfl dX9_shared_187 ?_
        obtain ⟨r189, hr189, hf⟩ := bd_some hf
        refine v_callV hG (st := []) 0 9 (ct_X9_isTerm l g ad s176.1 a0 s176.2 r189 hr189) iw_X9_isTerm wk_1276 rfl rfl ⟨rfl, rfl, Nat.le_of_ble_eq_true rfl, Nat.le_of_ble_eq_true rfl⟩ ⟨Nat.le_of_ble_eq_true rfl, Nat.le_of_ble_eq_true rfl⟩ rfl rfl (Nat.le_of_ble_eq_true rfl) (mcells_fst _ _ _ _) dX9_shared_189 ?_
        refine (show V p l e (k2_rm 1 30) s m args below meth c (inW (mcells g ad w)) (EN below args s g (mcells g ad w) (mcells g ad rr) none) g 9 (mcells g ad s176.1) 0 0 192 [(0, .ref (ad 0)), (1, .int a0), (2, .long j171_1), (6, .long j171_2), (8, .int s176.2)] [.int r189] from ?_)
        refine v_if_eq hG 224 dX9_shared_192 rfl hf (fun hf => ?_) (fun hf => ?_)
        · exact j224 s176.1 s176.2 hf
        · refine v_aload_n hG 0 rfl rfl dX9_shared_195 ?_
          refine m_g_0_20 hG wk_1086 dX9_shared_196 ?_
          refine v_bipush hG (v := 12) (by decide) dX9_shared_199 ?_
          refine v_iload_n hG 1 rfl rfl dX9_shared_201 ?_
          refine v_imul hG dX9_shared_202 ?_
          refine v_iload hG 4 rfl dX9_shared_203 ?_
          refine v_iadd hG dX9_shared_205 ?_
          refine v_lload hG 3 rfl dX9_shared_206 ?_
          refine v_aload_n hG 0 rfl rfl dX9_shared_208 ?_
          refine m_g_0_20 hG wk_1086 dX9_shared_209 ?_
          refine v_bipush hG (v := 12) (by decide) dX9_shared_212 ?_
          refine v_iload_n hG 1 rfl rfl dX9_shared_214 ?_
          refine v_imul hG dX9_shared_215 ?_
          refine v_iload hG 4 rfl dX9_shared_216 ?_
          refine v_iadd hG dX9_shared_218 ?_
          refine m_l_17 hG dX9_shared_219 hf (fun hf => ?_)
          refine v_lload_n hG 2 rfl rfl dX9_shared_220 ?_
          refine v_ldiv hG dX9_shared_221 hf (fun hf => ?_)
          refine v_lmul hG dX9_shared_222 ?_
          refine m_s_17 hG dX9_shared_223 hf (fun w223 hf => ?_)
          exact j224 w223 s176.2 hf
    · show V p l e (k2_rm 1 30) s m args below meth c (inW (mcells g ad w)) (EN below args s g (mcells g ad w) (mcells g ad rr) none) g 9 (mcells g ad z176) 0 0 230 [(0, .ref (ad 0)), (1, .int a0), (2, .long j171_1), (6, .long j171_2)] []
      refine v_aload_n hG 0 rfl rfl dX9_shared_230 ?_
      refine m_g_0_18 hG wk_1084 dX9_shared_231 ?_
      refine v_iload_n hG 1 rfl rfl dX9_shared_234 ?_
      refine v_lload hG 3 rfl dX9_shared_235 ?_
      refine v_aload_n hG 0 rfl rfl dX9_shared_237 ?_
      refine m_g_0_18 hG wk_1084 dX9_shared_238 ?_
      refine v_iload_n hG 1 rfl rfl dX9_shared_241 ?_
      refine m_l_15 hG dX9_shared_242 hf (fun hf => ?_)
      refine v_lload_n hG 2 rfl rfl dX9_shared_243 ?_
      obtain ⟨r244, hr244, hf⟩ := bd_some hf
      refine v_callP hG (st := [.long j171_2, .int a0, .ref (ad 15)]) (ct_X9_down l g ((gM_right z176) a0.toNatClampNeg) j171_1 r244 hr244) sw_X9_down wk_1300 ⟨rfl, rfl, Nat.le_of_ble_eq_true rfl, Nat.le_of_ble_eq_true rfl⟩ ⟨Nat.le_of_ble_eq_true rfl, Nat.le_of_ble_eq_true rfl⟩ rfl rfl (Nat.le_of_ble_eq_true rfl) dX9_shared_244 ?_
      refine (show V p l e (k2_rm 1 30) s m args below meth c (inW (mcells g ad w)) (EN below args s g (mcells g ad w) (mcells g ad rr) none) g 9 (mcells g ad z176) 0 0 247 [(0, .ref (ad 0)), (1, .int a0), (2, .long j171_1), (6, .long j171_2)] [.long r244, .long j171_2, .int a0, .ref (ad 15)] from ?_)
      refine v_lmul hG dX9_shared_247 ?_
      refine m_s_15 hG dX9_shared_248 hf (fun w248 hf => ?_)
      refine v_aload_n hG 0 rfl rfl dX9_shared_249 ?_
      refine v_iconst hG (v := 2) (by decide) dX9_shared_250 ?_
      refine v_iload_n hG 1 rfl rfl dX9_shared_251 ?_
      refine v_iconst hG (v := -1) (by decide) dX9_shared_252 ?_
      refine v_iconst hG (v := 3) (by decide) dX9_shared_253 ?_
      refine v_aload_n hG 0 rfl rfl dX9_shared_254 ?_
      refine m_g_0_18 hG wk_1084 dX9_shared_255 ?_
      refine v_iload_n hG 1 rfl rfl dX9_shared_258 ?_
      refine m_l_15 hG dX9_shared_259 hf (fun hf => ?_)
      obtain ⟨r260, hr260, hf⟩ := bd_some hf
      refine v_callV hG (st := []) 0 9 (ct_X9_act l g ad w248 2 a0 (-1) 3 ((gM_right w248) a0.toNatClampNeg) r260 hr260) iw_X9_act wk_1284 rfl rfl ⟨rfl, rfl, Nat.le_of_ble_eq_true rfl, Nat.le_of_ble_eq_true rfl⟩ ⟨Nat.le_of_ble_eq_true rfl, Nat.le_of_ble_eq_true rfl⟩ rfl rfl (Nat.le_of_ble_eq_true rfl) (mcells_fst _ _ _ _) dX9_shared_260 ?_
      refine (show V p l e (k2_rm 1 30) s m args below meth c (inW (mcells g ad w)) (EN below args s g (mcells g ad w) (mcells g ad rr) none) g 9 (mcells g ad r260) 0 0 263 [(0, .ref (ad 0)), (1, .int a0), (2, .long j171_1), (6, .long j171_2)] [] from ?_)
      cases hf
      exact v_vret hG hr dX9_shared_263
  have j159 : ∀ (j159_0 : MW) (j159_1 : Int64) (j159_2 : Int32), X9_shared_J159 a0 j159_0 j159_1 j159_2 = some rr → V p l e (k2_rm 1 30) s m args below meth c (inW (mcells g ad w)) (EN below args s g (mcells g ad w) (mcells g ad rr) none) g 9 (mcells g ad j159_0) 0 0 159 [(0, .ref (ad 0)), (1, .int a0), (2, .long j159_1), (5, .int j159_2)] [] := by
    intro j159_0 j159_1 j159_2 hf
    unfold X9_shared_J159 at hf
    refine v_iload hG 3 rfl dX9_shared_159 ?_
    refine v_if_eq hG 170 dX9_shared_161 rfl hf (fun hf => ?_) (fun hf => ?_)
    · refine v_lconst hG (v := 1) (by decide) dX9_shared_170 ?_
      refine v_sub [(0, _), (1, _), (2, _)] [0, 1, 2] rfl ?_
      exact j171 j159_0 j159_1 1 hf
    · refine v_ldc2 hG wk_1299 dX9_shared_164 ?_
      refine v_goto hG 171 dX9_shared_167 rfl ?_
      refine v_sub [(0, _), (1, _), (2, _)] [0, 1, 2] rfl ?_
      exact j171 j159_0 j159_1 (-1) hf
  have j145 : ∀ (j145_0 : MW) (j145_1 : Int64) (j145_2 : Int32), X9_shared_J145 a0 j145_0 j145_1 j145_2 = some rr → V p l e (k2_rm 1 30) s m args below meth c (inW (mcells g ad w)) (EN below args s g (mcells g ad w) (mcells g ad rr) none) g 9 (mcells g ad j145_0) 0 0 145 [(0, .ref (ad 0)), (1, .int a0), (2, .long j145_1)] [.int j145_2] := by
    intro j145_0 j145_1 j145_2 hf
    unfold X9_shared_J145 at hf
    refine v_istore hG [(5, _), (0, _), (1, _), (2, _)] dX9_shared_145 (by decide) rfl ?_
    refine v_lload_n hG 3 rfl rfl dX9_shared_147 ?_
    refine v_lconst hG (v := 1) (by decide) dX9_shared_148 ?_
    refine v_lcmp_ne hG 159 dX9_shared_149 dX9_shared_150 rfl hf (fun hf => ?_) (fun hf => ?_)
    · refine v_sub [(0, _), (1, _), (2, _), (5, _)] [1, 2, 3, 0] rfl ?_
      exact j159 j145_0 j145_1 j145_2 hf
    · refine v_iload hG 0 rfl dX9_shared_153 ?_
      refine v_if_ne hG 159 dX9_shared_155 rfl hf (fun hf => ?_) (fun hf => ?_)
      · refine v_sub [(0, _), (1, _), (2, _), (5, _)] [1, 2, 3, 0] rfl ?_
        exact j159 j145_0 j145_1 j145_2 hf
      · cases hf
        exact v_vret hG hr dX9_shared_158
  have j144 : ∀ (j144_0 : MW) (j144_1 : Int64), X9_shared_J144 a0 j144_0 j144_1 = some rr → V p l e (k2_rm 1 30) s m args below meth c (inW (mcells g ad w)) (EN below args s g (mcells g ad w) (mcells g ad rr) none) g 9 (mcells g ad j144_0) 0 0 144 [(0, .ref (ad 0)), (1, .int a0), (2, .long j144_1)] [] := by
    intro j144_0 j144_1 hf
    unfold X9_shared_J144 at hf
    refine v_iconst hG (v := 0) (by decide) dX9_shared_144 ?_
    exact j145 j144_0 j144_1 0 hf
  have j113 : ∀ (j113_0 : MW) (j113_1 : Int64) (j113_2 : Int32), X9_shared_J113 a0 j113_0 j113_1 j113_2 = some rr → V p l e (k2_rm 1 30) s m args below meth c (inW (mcells g ad w)) (EN below args s g (mcells g ad w) (mcells g ad rr) none) g 9 (mcells g ad j113_0) 0 0 113 [(0, .ref (ad 0)), (1, .int a0), (2, .long j113_1), (4, .int j113_2)] [] := by
    intro j113_0 j113_1 j113_2 hf
    unfold X9_shared_J113 at hf
    refine v_aload_n hG 0 rfl rfl dX9_shared_113 ?_
    refine m_g_0_16 hG wk_1082 dX9_shared_114 ?_
    refine v_iload_n hG 1 rfl rfl dX9_shared_117 ?_
    refine m_l_13 hG dX9_shared_118 hf (fun hf => ?_)
    refine v_iconst hG (v := 1) (by decide) dX9_shared_119 ?_
    refine v_icmp_ne hG 144 dX9_shared_120 rfl hf (fun hf => ?_) (fun hf => ?_)
    · refine v_sub [(0, _), (1, _), (2, _)] [0, 1, 2] rfl ?_
      exact j144 j113_0 j113_1 hf
    · refine v_aload_n hG 0 rfl rfl dX9_shared_123 ?_
      refine m_g_0_20 hG wk_1086 dX9_shared_124 ?_
      refine v_bipush hG (v := 12) (by decide) dX9_shared_127 ?_
      refine v_iload_n hG 1 rfl rfl dX9_shared_129 ?_
      refine v_imul hG dX9_shared_130 ?_
      refine v_iload hG 3 rfl dX9_shared_131 ?_
      refine v_iadd hG dX9_shared_133 ?_
      refine m_l_17 hG dX9_shared_134 hf (fun hf => ?_)
      refine v_lconst hG (v := 0) (by decide) dX9_shared_135 ?_
      refine v_lcmp_ge hG 144 dX9_shared_136 dX9_shared_137 rfl hf (fun hf => ?_) (fun hf => ?_)
      · refine v_sub [(0, _), (1, _), (2, _)] [0, 1, 2] rfl ?_
        exact j144 j113_0 j113_1 hf
      · refine v_iconst hG (v := 1) (by decide) dX9_shared_140 ?_
        refine v_goto hG 145 dX9_shared_141 rfl ?_
        refine v_sub [(0, _), (1, _), (2, _)] [0, 1, 2] rfl ?_
        exact j145 j113_0 j113_1 1 hf
  refine v_lconst hG (v := 0) (by decide) dX9_shared_0 ?_
  refine v_lstore_n hG [(2, _), (0, _), (1, _)] dX9_shared_1 rfl (by decide) rfl ?_
  refine v_iconst hG (v := -1) (by decide) dX9_shared_2 ?_
  refine v_istore hG [(4, _), (2, _), (0, _), (1, _)] dX9_shared_3 (by decide) rfl ?_
  refine v_aload_n hG 2 rfl rfl dX9_shared_5 ?_
  refine m_g_0_1 hG wk_1067 dX9_shared_6 ?_
  refine v_iconst hG (v := 1) (by decide) dX9_shared_9 ?_
  refine v_isub hG dX9_shared_10 ?_
  refine v_istore hG [(5, _), (4, _), (2, _), (0, _), (1, _)] dX9_shared_11 (by decide) rfl ?_
  refine v_sub [(0, _), (1, _), (2, _), (4, _), (5, _)] [3, 4, 2, 1, 0] rfl ?_
  obtain ⟨z13, hlz13, hf⟩ := bd_some hf
  refine loop_v (step := X9_shared_L13 w a0) (fun s13 : Int64 × Int32 × Int32 => V p l e (k2_rm 1 30) s m args below meth c (inW (mcells g ad w)) (EN below args s g (mcells g ad w) (mcells g ad rr) none) g 9 (mcells g ad w) 0 0 13 [(0, .ref (ad 0)), (1, .int a0), (2, .long s13.1), (4, .int s13.2.1), (5, .int s13.2.2)] []) (fun z13_q : (Int64 × Int32) => V p l e (k2_rm 1 30) s m args below meth c (inW (mcells g ad w)) (EN below args s g (mcells g ad w) (mcells g ad rr) none) g 9 (mcells g ad w) 0 0 72 [(0, .ref (ad 0)), (1, .int a0), (2, .long z13_q.1), (4, .int z13_q.2)] []) ?_ 5000 (0, (-1), ((gM_columns w) - 1)) z13 hlz13 ?_
  · intro s13 rL hf hin hout
    unfold X9_shared_L13 at hf
    have j66 : ∀ (j66_0 : Int64) (j66_1 : Int32) (j66_2 : Int32), X9_shared_J66 j66_0 j66_1 j66_2 = some rL → V p l e (k2_rm 1 30) s m args below meth c (inW (mcells g ad w)) (EN below args s g (mcells g ad w) (mcells g ad rr) none) g 9 (mcells g ad w) 0 0 66 [(0, .ref (ad 0)), (1, .int a0), (2, .long j66_0), (4, .int j66_1), (5, .int j66_2)] [] := by
      intro j66_0 j66_1 j66_2 hf
      unfold X9_shared_J66 at hf
      refine v_iinc hG 4 (v := j66_2 + (-1)) [(5, _), (0, _), (1, _), (2, _), (4, _)] dX9_shared_66 rfl rfl (by decide) rfl ?_
      refine v_goto hG 13 dX9_shared_69 rfl ?_
      refine v_sub [(0, _), (1, _), (2, _), (4, _), (5, _)] [1, 2, 3, 4, 0] rfl ?_
      exact hin _ (Option.some.inj hf).symm
    have j57 : ∀ (j57_0 : Int64) (j57_1 : Int32) (j57_2 : Int64), X9_shared_J57 j57_0 j57_1 j57_2 = some rL → V p l e (k2_rm 1 30) s m args below meth c (inW (mcells g ad w)) (EN below args s g (mcells g ad w) (mcells g ad rr) none) g 9 (mcells g ad w) 0 0 57 [(0, .ref (ad 0)), (1, .int a0), (2, .long j57_0), (5, .int j57_1)] [.long j57_2] := by
      intro j57_0 j57_1 j57_2 hf
      unfold X9_shared_J57 at hf
      refine v_lload_n hG 2 rfl rfl dX9_shared_57 ?_
      obtain ⟨r58, hr58, hf⟩ := bd_some hf
      refine v_callP hG (st := []) (ct_X9_divisor l g j57_2 j57_0 r58 hr58) sw_X9_divisor wk_1296 ⟨rfl, rfl, Nat.le_of_ble_eq_true rfl, Nat.le_of_ble_eq_true rfl⟩ ⟨Nat.le_of_ble_eq_true rfl, Nat.le_of_ble_eq_true rfl⟩ rfl rfl (Nat.le_of_ble_eq_true rfl) dX9_shared_58 ?_
      refine (show V p l e (k2_rm 1 30) s m args below meth c (inW (mcells g ad w)) (EN below args s g (mcells g ad w) (mcells g ad rr) none) g 9 (mcells g ad w) 0 0 61 [(0, .ref (ad 0)), (1, .int a0), (2, .long j57_0), (5, .int j57_1)] [.long r58] from ?_)
      refine v_lstore_n hG [(2, _), (0, _), (1, _), (5, _)] dX9_shared_61 rfl (by decide) rfl ?_
      refine v_iload hG 3 rfl dX9_shared_62 ?_
      refine v_istore hG [(4, _), (2, _), (0, _), (1, _), (5, _)] dX9_shared_64 (by decide) rfl ?_
      refine v_sub [(0, _), (1, _), (2, _), (4, _), (5, _)] [2, 3, 1, 0, 4] rfl ?_
      exact j66 r58 j57_1 j57_1 hf
    refine v_iload hG 4 rfl dX9_shared_13 ?_
    refine v_if_lt hG 72 dX9_shared_15 rfl hf (fun hf => ?_) (fun hf => ?_)
    · refine v_sub [(0, _), (1, _), (2, _), (4, _)] [0, 1, 2, 3] rfl ?_
      exact hout _ (Option.some.inj hf).symm
    · refine v_aload_n hG 0 rfl rfl dX9_shared_18 ?_
      refine v_iload_n hG 1 rfl rfl dX9_shared_19 ?_
      refine v_iload hG 4 rfl dX9_shared_20 ?_
      obtain ⟨r22, hr22, hf⟩ := bd_some hf
      refine v_callV hG (st := []) 0 9 (ct_X9_isTerm l g ad w a0 s13.2.2 r22 hr22) iw_X9_isTerm wk_1276 rfl rfl ⟨rfl, rfl, Nat.le_of_ble_eq_true rfl, Nat.le_of_ble_eq_true rfl⟩ ⟨Nat.le_of_ble_eq_true rfl, Nat.le_of_ble_eq_true rfl⟩ rfl rfl (Nat.le_of_ble_eq_true rfl) (mcells_fst _ _ _ _) dX9_shared_22 ?_
      refine (show V p l e (k2_rm 1 30) s m args below meth c (inW (mcells g ad w)) (EN below args s g (mcells g ad w) (mcells g ad rr) none) g 9 (mcells g ad w) 0 0 25 [(0, .ref (ad 0)), (1, .int a0), (2, .long s13.1), (4, .int s13.2.1), (5, .int s13.2.2)] [.int r22] from ?_)
      refine v_if_eq hG 66 dX9_shared_25 rfl hf (fun hf => ?_) (fun hf => ?_)
      · exact j66 s13.1 s13.2.1 s13.2.2 hf
      · refine v_aload_n hG 0 rfl rfl dX9_shared_28 ?_
        refine m_g_0_20 hG wk_1086 dX9_shared_29 ?_
        refine v_bipush hG (v := 12) (by decide) dX9_shared_32 ?_
        refine v_iload_n hG 1 rfl rfl dX9_shared_34 ?_
        refine v_imul hG dX9_shared_35 ?_
        refine v_iload hG 4 rfl dX9_shared_36 ?_
        refine v_iadd hG dX9_shared_38 ?_
        refine m_l_17 hG dX9_shared_39 hf (fun hf => ?_)
        refine v_lstore hG [(6, _), (0, _), (1, _), (2, _), (4, _), (5, _)] dX9_shared_40 (by decide) rfl ?_
        refine v_lload hG 0 rfl dX9_shared_42 ?_
        refine v_lconst hG (v := 0) (by decide) dX9_shared_44 ?_
        refine v_lcmp_ge hG 55 dX9_shared_45 dX9_shared_46 rfl hf (fun hf => ?_) (fun hf => ?_)
        · refine v_lload hG 0 rfl dX9_shared_55 ?_
          refine v_sub [(0, _), (1, _), (2, _), (5, _)] [1, 2, 3, 5] rfl ?_
          exact j57 s13.1 s13.2.2 ((gM_coef w) ((12 * a0) + s13.2.2).toNatClampNeg) hf
        · refine v_lload hG 0 rfl dX9_shared_49 ?_
          refine v_lneg hG dX9_shared_51 ?_
          refine v_goto hG 57 dX9_shared_52 rfl ?_
          refine v_sub [(0, _), (1, _), (2, _), (5, _)] [1, 2, 3, 5] rfl ?_
          exact j57 s13.1 s13.2.2 (-((gM_coef w) ((12 * a0) + s13.2.2).toNatClampNeg)) hf
  · show V p l e (k2_rm 1 30) s m args below meth c (inW (mcells g ad w)) (EN below args s g (mcells g ad w) (mcells g ad rr) none) g 9 (mcells g ad w) 0 0 72 [(0, .ref (ad 0)), (1, .int a0), (2, .long z13.1), (4, .int z13.2)] []
    refine v_iload hG 3 rfl dX9_shared_72 ?_
    refine v_iconst hG (v := -1) (by decide) dX9_shared_74 ?_
    refine v_icmp_ne hG 79 dX9_shared_75 rfl hf (fun hf => ?_) (fun hf => ?_)
    · refine v_aload_n hG 0 rfl rfl dX9_shared_79 ?_
      refine m_g_0_16 hG wk_1082 dX9_shared_80 ?_
      refine v_iload_n hG 1 rfl rfl dX9_shared_83 ?_
      refine m_l_13 hG dX9_shared_84 hf (fun hf => ?_)
      refine v_iconst hG (v := 1) (by decide) dX9_shared_85 ?_
      refine v_icmp_ne hG 113 dX9_shared_86 rfl hf (fun hf => ?_) (fun hf => ?_)
      · exact j113 w z13.1 z13.2 hf
      · refine v_aload_n hG 0 rfl rfl dX9_shared_89 ?_
        refine m_g_0_18 hG wk_1084 dX9_shared_90 ?_
        refine v_iload_n hG 1 rfl rfl dX9_shared_93 ?_
        refine m_l_15 hG dX9_shared_94 hf (fun hf => ?_)
        refine v_lload_n hG 2 rfl rfl dX9_shared_95 ?_
        refine v_lrem hG dX9_shared_96 hf (fun hf => ?_)
        refine v_lconst hG (v := 0) (by decide) dX9_shared_97 ?_
        refine v_lcmp_eq hG 113 dX9_shared_98 dX9_shared_99 rfl hf (fun hf => ?_) (fun hf => ?_)
        · exact j113 w z13.1 z13.2 hf
        · refine v_aload_n hG 0 rfl rfl dX9_shared_102 ?_
          refine v_aload_n hG 0 rfl rfl dX9_shared_103 ?_
          refine m_g_0_19 hG wk_1085 dX9_shared_104 ?_
          refine v_iload_n hG 1 rfl rfl dX9_shared_107 ?_
          refine m_l_16 hG dX9_shared_108 hf (fun hf => ?_)
          obtain ⟨r109, hr109, hf⟩ := bd_some hf
          refine v_callV hG (st := []) 0 9 (ct_X9_impossible l g ad w ((gM_rest w) a0.toNatClampNeg) r109 hr109) iw_X9_impossible wk_1288 rfl rfl ⟨rfl, rfl, Nat.le_of_ble_eq_true rfl, Nat.le_of_ble_eq_true rfl⟩ ⟨Nat.le_of_ble_eq_true rfl, Nat.le_of_ble_eq_true rfl⟩ rfl rfl (Nat.le_of_ble_eq_true rfl) (mcells_fst _ _ _ _) dX9_shared_109 ?_
          refine (show V p l e (k2_rm 1 30) s m args below meth c (inW (mcells g ad w)) (EN below args s g (mcells g ad w) (mcells g ad rr) none) g 9 (mcells g ad r109) 0 0 112 [(0, .ref (ad 0)), (1, .int a0), (2, .long z13.1), (4, .int z13.2)] [] from ?_)
          cases hf
          exact v_vret hG hr dX9_shared_112
    · cases hf
      exact v_vret hG hr dX9_shared_78
def X9_single_L12 (w : MW) (a0 : Int32) (s12 : Int32) : Option ((Int32) ⊕ ((Int32))) := ((X9_isTerm w a0 s12).bind (fun r15 : Int32 => (if r15 = 0 then (some (.inl (s12 + 1))) else (some (.inr s12)))))
def X9_single_J153 (a0 : Int32) (j153_0 : MW) : Option (MW) := ((X9_leave j153_0 3 a0).bind (fun r156 : MW => (some r156)))
def X9_single_J134 (a0 : Int32) (j134_0 : MW) (j134_1 : Int32) (j134_2 : Int64) (j134_3 : Int32) : Option (MW) := (if inR a0 12 = true then ((X9_down ((gM_right j134_0) a0.toNatClampNeg) j134_2).bind (fun r145 : Int64 => ((X9_narrowHigh j134_0 3 a0 j134_1 r145 j134_3).bind (fun r150 : MW => (X9_single_J153 a0 r150))))) else none)
def X9_single_J123 (a0 : Int32) (j123_0 : MW) (j123_1 : Int32) (j123_2 : Int64) (j123_3 : Int32) (j123_4 : Int32) : Option (MW) := (if j123_3 = 0 then (if j123_2 ≤ 0 then (X9_single_J153 a0 j123_0) else (X9_single_J134 a0 j123_0 j123_1 j123_2 j123_4)) else (X9_single_J134 a0 j123_0 j123_1 j123_2 j123_4))
def X9_single_J104 (a0 : Int32) (j104_0 : MW) (j104_1 : Int32) (j104_2 : Int64) (j104_3 : Int32) (j104_4 : Int32) : Option (MW) := (if inR a0 12 = true then ((X9_up ((gM_right j104_0) a0.toNatClampNeg) j104_2).bind (fun r115 : Int64 => ((X9_narrowLow j104_0 3 a0 j104_1 r115 j104_4).bind (fun r120 : MW => (X9_single_J123 a0 r120 j104_1 j104_2 j104_3 j104_4))))) else none)
def X9_single_J85 (a0 : Int32) (j85_0 : MW) (j85_1 : Int32) (j85_2 : Int64) (j85_3 : Int32) : Option (MW) := (if inR a0 12 = true then (if j85_3 = 0 then (if 0 ≤ j85_2 then (X9_single_J123 a0 j85_0 j85_1 j85_2 j85_3 ((gM_rest j85_0) a0.toNatClampNeg)) else (X9_single_J104 a0 j85_0 j85_1 j85_2 j85_3 ((gM_rest j85_0) a0.toNatClampNeg))) else (X9_single_J104 a0 j85_0 j85_1 j85_2 j85_3 ((gM_rest j85_0) a0.toNatClampNeg))) else none)
def X9_single_J54 (a0 : Int32) (j54_0 : MW) (j54_1 : Int32) (j54_2 : Int64) (j54_3 : Int32) : Option (MW) := (if j54_3 = 0 then (X9_single_J85 a0 j54_0 j54_1 j54_2 j54_3) else (if inR a0 12 = true then (if j54_2 = 0 then none else (if (((gM_right j54_0) a0.toNatClampNeg) - ((gM_right j54_0) a0.toNatClampNeg) / j54_2 * j54_2) = 0 then (X9_single_J85 a0 j54_0 j54_1 j54_2 j54_3) else (if inR a0 12 = true then ((X9_impossible j54_0 ((gM_rest j54_0) a0.toNatClampNeg)).bind (fun r81 : MW => (some r81))) else none))) else none))
def X9_single (w : MW) (a0 : Int32) : Option (MW) := ((X9_terms w a0).bind (fun r2 : Int32 => (if r2 = 1 then ((iter (X9_single_L12 w a0) 5000 0).bind (fun z12 : (Int32) => (if inR ((12 * a0) + z12) 144 = true then (if inR a0 12 = true then (if ((gM_kind w) a0.toNatClampNeg) = 1 then (X9_single_J54 a0 w z12 ((gM_coef w) ((12 * a0) + z12).toNatClampNeg) 1) else (X9_single_J54 a0 w z12 ((gM_coef w) ((12 * a0) + z12).toNatClampNeg) 0)) else none) else none))) else (some w))))
set_option maxRecDepth 100000 in
set_option maxHeartbeats 4000000 in
theorem ct_X9_single (l : Launch) (g : wG) (ad : Nat → Nat) (w : MW) (a0 : Int32) (rr : MW) (hf : X9_single w a0 = some rr) : MetN l g yX9_single cX9_single 7 none (k2_rm 2 52) [.ref (ad 0), .int a0] (mcells g ad w) (mcells g ad rr) none := by
  refine MetN.of2 [(0, .ref (ad 0)), (1, .int a0)] rfl (by decide +kernel) (Nat.le_of_ble_eq_true rfl) ?_
  intro p e s m args below meth c hG hr
  unfold X9_single at hf
  have j153 : ∀ (j153_0 : MW), X9_single_J153 a0 j153_0 = some rr → V p l e (k2_rm 2 52) s m args below meth c (inW (mcells g ad w)) (EN below args s g (mcells g ad w) (mcells g ad rr) none) g 7 (mcells g ad j153_0) 0 0 153 [(0, .ref (ad 0)), (1, .int a0)] [] := by
    intro j153_0 hf
    unfold X9_single_J153 at hf
    refine v_aload_n hG 0 rfl rfl dX9_single_153 ?_
    refine v_iconst hG (v := 3) (by decide) dX9_single_154 ?_
    refine v_iload_n hG 1 rfl rfl dX9_single_155 ?_
    obtain ⟨r156, hr156, hf⟩ := bd_some hf
    refine v_callV hG (st := []) 0 9 (ct_X9_leave l g ad j153_0 3 a0 r156 hr156) iw_X9_leave wk_1280 rfl rfl ⟨rfl, rfl, Nat.le_of_ble_eq_true rfl, Nat.le_of_ble_eq_true rfl⟩ ⟨Nat.le_of_ble_eq_true rfl, Nat.le_of_ble_eq_true rfl⟩ rfl rfl (Nat.le_of_ble_eq_true rfl) (mcells_fst _ _ _ _) dX9_single_156 ?_
    refine (show V p l e (k2_rm 2 52) s m args below meth c (inW (mcells g ad w)) (EN below args s g (mcells g ad w) (mcells g ad rr) none) g 7 (mcells g ad r156) 0 0 159 [(0, .ref (ad 0)), (1, .int a0)] [] from ?_)
    cases hf
    exact v_vret hG hr dX9_single_159
  have j134 : ∀ (j134_0 : MW) (j134_1 : Int32) (j134_2 : Int64) (j134_3 : Int32), X9_single_J134 a0 j134_0 j134_1 j134_2 j134_3 = some rr → V p l e (k2_rm 2 52) s m args below meth c (inW (mcells g ad w)) (EN below args s g (mcells g ad w) (mcells g ad rr) none) g 7 (mcells g ad j134_0) 0 0 134 [(0, .ref (ad 0)), (1, .int a0), (2, .int j134_1), (3, .long j134_2), (6, .int j134_3)] [] := by
    intro j134_0 j134_1 j134_2 j134_3 hf
    unfold X9_single_J134 at hf
    refine v_aload_n hG 0 rfl rfl dX9_single_134 ?_
    refine v_iconst hG (v := 3) (by decide) dX9_single_135 ?_
    refine v_iload_n hG 1 rfl rfl dX9_single_136 ?_
    refine v_iload_n hG 2 rfl rfl dX9_single_137 ?_
    refine v_aload_n hG 0 rfl rfl dX9_single_138 ?_
    refine m_g_0_18 hG wk_1084 dX9_single_139 ?_
    refine v_iload_n hG 1 rfl rfl dX9_single_142 ?_
    refine m_l_15 hG dX9_single_143 hf (fun hf => ?_)
    refine v_lload_n hG 3 rfl rfl dX9_single_144 ?_
    obtain ⟨r145, hr145, hf⟩ := bd_some hf
    refine v_callP hG (st := [.int j134_1, .int a0, .int 3, .ref (ad 0)]) (ct_X9_down l g ((gM_right j134_0) a0.toNatClampNeg) j134_2 r145 hr145) sw_X9_down wk_1300 ⟨rfl, rfl, Nat.le_of_ble_eq_true rfl, Nat.le_of_ble_eq_true rfl⟩ ⟨Nat.le_of_ble_eq_true rfl, Nat.le_of_ble_eq_true rfl⟩ rfl rfl (Nat.le_of_ble_eq_true rfl) dX9_single_145 ?_
    refine (show V p l e (k2_rm 2 52) s m args below meth c (inW (mcells g ad w)) (EN below args s g (mcells g ad w) (mcells g ad rr) none) g 7 (mcells g ad j134_0) 0 0 148 [(0, .ref (ad 0)), (1, .int a0), (2, .int j134_1), (3, .long j134_2), (6, .int j134_3)] [.long r145, .int j134_1, .int a0, .int 3, .ref (ad 0)] from ?_)
    refine v_iload hG 4 rfl dX9_single_148 ?_
    obtain ⟨r150, hr150, hf⟩ := bd_some hf
    refine v_callV hG (st := []) 0 9 (ct_X9_narrowHigh l g ad j134_0 3 a0 j134_1 r145 j134_3 r150 hr150) iw_X9_narrowHigh wk_1314 rfl rfl ⟨rfl, rfl, Nat.le_of_ble_eq_true rfl, Nat.le_of_ble_eq_true rfl⟩ ⟨Nat.le_of_ble_eq_true rfl, Nat.le_of_ble_eq_true rfl⟩ rfl rfl (Nat.le_of_ble_eq_true rfl) (mcells_fst _ _ _ _) dX9_single_150 ?_
    refine (show V p l e (k2_rm 2 52) s m args below meth c (inW (mcells g ad w)) (EN below args s g (mcells g ad w) (mcells g ad rr) none) g 7 (mcells g ad r150) 0 0 153 [(0, .ref (ad 0)), (1, .int a0), (2, .int j134_1), (3, .long j134_2), (6, .int j134_3)] [] from ?_)
    refine v_sub [(0, _), (1, _)] [0, 1] rfl ?_
    exact j153 r150 hf
  have j123 : ∀ (j123_0 : MW) (j123_1 : Int32) (j123_2 : Int64) (j123_3 : Int32) (j123_4 : Int32), X9_single_J123 a0 j123_0 j123_1 j123_2 j123_3 j123_4 = some rr → V p l e (k2_rm 2 52) s m args below meth c (inW (mcells g ad w)) (EN below args s g (mcells g ad w) (mcells g ad rr) none) g 7 (mcells g ad j123_0) 0 0 123 [(0, .ref (ad 0)), (1, .int a0), (2, .int j123_1), (3, .long j123_2), (5, .int j123_3), (6, .int j123_4)] [] := by
    intro j123_0 j123_1 j123_2 j123_3 j123_4 hf
    unfold X9_single_J123 at hf
    refine v_iload hG 4 rfl dX9_single_123 ?_
    refine v_if_ne hG 134 dX9_single_125 rfl hf (fun hf => ?_) (fun hf => ?_)
    · refine v_sub [(0, _), (1, _), (2, _), (3, _), (6, _)] [0, 1, 2, 3, 5] rfl ?_
      exact j134 j123_0 j123_1 j123_2 j123_4 hf
    · refine v_lload_n hG 3 rfl rfl dX9_single_128 ?_
      refine v_lconst hG (v := 0) (by decide) dX9_single_129 ?_
      refine v_lcmp_le hG 153 dX9_single_130 dX9_single_131 rfl hf (fun hf => ?_) (fun hf => ?_)
      · refine v_sub [(0, _), (1, _)] [0, 1] rfl ?_
        exact j153 j123_0 hf
      · refine v_sub [(0, _), (1, _), (2, _), (3, _), (6, _)] [0, 1, 2, 3, 5] rfl ?_
        exact j134 j123_0 j123_1 j123_2 j123_4 hf
  have j104 : ∀ (j104_0 : MW) (j104_1 : Int32) (j104_2 : Int64) (j104_3 : Int32) (j104_4 : Int32), X9_single_J104 a0 j104_0 j104_1 j104_2 j104_3 j104_4 = some rr → V p l e (k2_rm 2 52) s m args below meth c (inW (mcells g ad w)) (EN below args s g (mcells g ad w) (mcells g ad rr) none) g 7 (mcells g ad j104_0) 0 0 104 [(0, .ref (ad 0)), (1, .int a0), (2, .int j104_1), (3, .long j104_2), (5, .int j104_3), (6, .int j104_4)] [] := by
    intro j104_0 j104_1 j104_2 j104_3 j104_4 hf
    unfold X9_single_J104 at hf
    refine v_aload_n hG 0 rfl rfl dX9_single_104 ?_
    refine v_iconst hG (v := 3) (by decide) dX9_single_105 ?_
    refine v_iload_n hG 1 rfl rfl dX9_single_106 ?_
    refine v_iload_n hG 2 rfl rfl dX9_single_107 ?_
    refine v_aload_n hG 0 rfl rfl dX9_single_108 ?_
    refine m_g_0_18 hG wk_1084 dX9_single_109 ?_
    refine v_iload_n hG 1 rfl rfl dX9_single_112 ?_
    refine m_l_15 hG dX9_single_113 hf (fun hf => ?_)
    refine v_lload_n hG 3 rfl rfl dX9_single_114 ?_
    obtain ⟨r115, hr115, hf⟩ := bd_some hf
    refine v_callP hG (st := [.int j104_1, .int a0, .int 3, .ref (ad 0)]) (ct_X9_up l g ((gM_right j104_0) a0.toNatClampNeg) j104_2 r115 hr115) sw_X9_up wk_1307 ⟨rfl, rfl, Nat.le_of_ble_eq_true rfl, Nat.le_of_ble_eq_true rfl⟩ ⟨Nat.le_of_ble_eq_true rfl, Nat.le_of_ble_eq_true rfl⟩ rfl rfl (Nat.le_of_ble_eq_true rfl) dX9_single_115 ?_
    refine (show V p l e (k2_rm 2 52) s m args below meth c (inW (mcells g ad w)) (EN below args s g (mcells g ad w) (mcells g ad rr) none) g 7 (mcells g ad j104_0) 0 0 118 [(0, .ref (ad 0)), (1, .int a0), (2, .int j104_1), (3, .long j104_2), (5, .int j104_3), (6, .int j104_4)] [.long r115, .int j104_1, .int a0, .int 3, .ref (ad 0)] from ?_)
    refine v_iload hG 5 rfl dX9_single_118 ?_
    obtain ⟨r120, hr120, hf⟩ := bd_some hf
    refine v_callV hG (st := []) 0 9 (ct_X9_narrowLow l g ad j104_0 3 a0 j104_1 r115 j104_4 r120 hr120) iw_X9_narrowLow wk_1310 rfl rfl ⟨rfl, rfl, Nat.le_of_ble_eq_true rfl, Nat.le_of_ble_eq_true rfl⟩ ⟨Nat.le_of_ble_eq_true rfl, Nat.le_of_ble_eq_true rfl⟩ rfl rfl (Nat.le_of_ble_eq_true rfl) (mcells_fst _ _ _ _) dX9_single_120 ?_
    refine (show V p l e (k2_rm 2 52) s m args below meth c (inW (mcells g ad w)) (EN below args s g (mcells g ad w) (mcells g ad rr) none) g 7 (mcells g ad r120) 0 0 123 [(0, .ref (ad 0)), (1, .int a0), (2, .int j104_1), (3, .long j104_2), (5, .int j104_3), (6, .int j104_4)] [] from ?_)
    exact j123 r120 j104_1 j104_2 j104_3 j104_4 hf
  have j85 : ∀ (j85_0 : MW) (j85_1 : Int32) (j85_2 : Int64) (j85_3 : Int32), X9_single_J85 a0 j85_0 j85_1 j85_2 j85_3 = some rr → V p l e (k2_rm 2 52) s m args below meth c (inW (mcells g ad w)) (EN below args s g (mcells g ad w) (mcells g ad rr) none) g 7 (mcells g ad j85_0) 0 0 85 [(0, .ref (ad 0)), (1, .int a0), (2, .int j85_1), (3, .long j85_2), (5, .int j85_3)] [] := by
    intro j85_0 j85_1 j85_2 j85_3 hf
    unfold X9_single_J85 at hf
    refine v_aload_n hG 0 rfl rfl dX9_single_85 ?_
    refine m_g_0_19 hG wk_1085 dX9_single_86 ?_
    refine v_iload_n hG 1 rfl rfl dX9_single_89 ?_
    refine m_l_16 hG dX9_single_90 hf (fun hf => ?_)
    refine v_istore hG [(6, _), (0, _), (1, _), (2, _), (3, _), (5, _)] dX9_single_91 (by decide) rfl ?_
    refine v_iload hG 5 rfl dX9_single_93 ?_
    refine v_if_ne hG 104 dX9_single_95 rfl hf (fun hf => ?_) (fun hf => ?_)
    · refine v_sub [(0, _), (1, _), (2, _), (3, _), (5, _), (6, _)] [1, 2, 3, 4, 5, 0] rfl ?_
      exact j104 j85_0 j85_1 j85_2 j85_3 ((gM_rest j85_0) a0.toNatClampNeg) hf
    · refine v_lload_n hG 4 rfl rfl dX9_single_98 ?_
      refine v_lconst hG (v := 0) (by decide) dX9_single_99 ?_
      refine v_lcmp_ge hG 123 dX9_single_100 dX9_single_101 rfl hf (fun hf => ?_) (fun hf => ?_)
      · refine v_sub [(0, _), (1, _), (2, _), (3, _), (5, _), (6, _)] [1, 2, 3, 4, 5, 0] rfl ?_
        exact j123 j85_0 j85_1 j85_2 j85_3 ((gM_rest j85_0) a0.toNatClampNeg) hf
      · refine v_sub [(0, _), (1, _), (2, _), (3, _), (5, _), (6, _)] [1, 2, 3, 4, 5, 0] rfl ?_
        exact j104 j85_0 j85_1 j85_2 j85_3 ((gM_rest j85_0) a0.toNatClampNeg) hf
  have j54 : ∀ (j54_0 : MW) (j54_1 : Int32) (j54_2 : Int64) (j54_3 : Int32), X9_single_J54 a0 j54_0 j54_1 j54_2 j54_3 = some rr → V p l e (k2_rm 2 52) s m args below meth c (inW (mcells g ad w)) (EN below args s g (mcells g ad w) (mcells g ad rr) none) g 7 (mcells g ad j54_0) 0 0 54 [(0, .ref (ad 0)), (1, .int a0), (2, .int j54_1), (3, .long j54_2)] [.int j54_3] := by
    intro j54_0 j54_1 j54_2 j54_3 hf
    unfold X9_single_J54 at hf
    refine v_istore hG [(5, _), (0, _), (1, _), (2, _), (3, _)] dX9_single_54 (by decide) rfl ?_
    refine v_iload hG 0 rfl dX9_single_56 ?_
    refine v_if_eq hG 85 dX9_single_58 rfl hf (fun hf => ?_) (fun hf => ?_)
    · refine v_sub [(0, _), (1, _), (2, _), (3, _), (5, _)] [1, 2, 3, 4, 0] rfl ?_
      exact j85 j54_0 j54_1 j54_2 j54_3 hf
    · refine v_aload_n hG 1 rfl rfl dX9_single_61 ?_
      refine m_g_0_18 hG wk_1084 dX9_single_62 ?_
      refine v_iload_n hG 2 rfl rfl dX9_single_65 ?_
      refine m_l_15 hG dX9_single_66 hf (fun hf => ?_)
      refine v_lload_n hG 4 rfl rfl dX9_single_67 ?_
      refine v_lrem hG dX9_single_68 hf (fun hf => ?_)
      refine v_lconst hG (v := 0) (by decide) dX9_single_69 ?_
      refine v_lcmp_eq hG 85 dX9_single_70 dX9_single_71 rfl hf (fun hf => ?_) (fun hf => ?_)
      · refine v_sub [(0, _), (1, _), (2, _), (3, _), (5, _)] [1, 2, 3, 4, 0] rfl ?_
        exact j85 j54_0 j54_1 j54_2 j54_3 hf
      · refine v_aload_n hG 1 rfl rfl dX9_single_74 ?_
        refine v_aload_n hG 1 rfl rfl dX9_single_75 ?_
        refine m_g_0_19 hG wk_1085 dX9_single_76 ?_
        refine v_iload_n hG 2 rfl rfl dX9_single_79 ?_
        refine m_l_16 hG dX9_single_80 hf (fun hf => ?_)
        obtain ⟨r81, hr81, hf⟩ := bd_some hf
        refine v_callV hG (st := []) 0 9 (ct_X9_impossible l g ad j54_0 ((gM_rest j54_0) a0.toNatClampNeg) r81 hr81) iw_X9_impossible wk_1288 rfl rfl ⟨rfl, rfl, Nat.le_of_ble_eq_true rfl, Nat.le_of_ble_eq_true rfl⟩ ⟨Nat.le_of_ble_eq_true rfl, Nat.le_of_ble_eq_true rfl⟩ rfl rfl (Nat.le_of_ble_eq_true rfl) (mcells_fst _ _ _ _) dX9_single_81 ?_
        refine (show V p l e (k2_rm 2 52) s m args below meth c (inW (mcells g ad w)) (EN below args s g (mcells g ad w) (mcells g ad rr) none) g 7 (mcells g ad r81) 0 0 84 [(5, .int j54_3), (0, .ref (ad 0)), (1, .int a0), (2, .int j54_1), (3, .long j54_2)] [] from ?_)
        cases hf
        exact v_vret hG hr dX9_single_84
  refine v_aload_n hG 0 rfl rfl dX9_single_0 ?_
  refine v_iload_n hG 1 rfl rfl dX9_single_1 ?_
  obtain ⟨r2, hr2, hf⟩ := bd_some hf
  refine v_callV hG (st := []) 0 9 (ct_X9_terms l g ad w a0 r2 hr2) iw_X9_terms wk_1272 rfl rfl ⟨rfl, rfl, Nat.le_of_ble_eq_true rfl, Nat.le_of_ble_eq_true rfl⟩ ⟨Nat.le_of_ble_eq_true rfl, Nat.le_of_ble_eq_true rfl⟩ rfl rfl (Nat.le_of_ble_eq_true rfl) (mcells_fst _ _ _ _) dX9_single_2 ?_
  refine (show V p l e (k2_rm 2 52) s m args below meth c (inW (mcells g ad w)) (EN below args s g (mcells g ad w) (mcells g ad rr) none) g 7 (mcells g ad w) 0 0 5 [(0, .ref (ad 0)), (1, .int a0)] [.int r2] from ?_)
  refine v_iconst hG (v := 1) (by decide) dX9_single_5 ?_
  refine v_icmp_eq hG 10 dX9_single_6 rfl hf (fun hf => ?_) (fun hf => ?_)
  · refine v_iconst hG (v := 0) (by decide) dX9_single_10 ?_
    refine v_istore_n hG [(2, _), (0, _), (1, _)] dX9_single_11 rfl (by decide) rfl ?_
    refine v_sub [(0, _), (1, _), (2, _)] [1, 2, 0] rfl ?_
    obtain ⟨z12, hlz12, hf⟩ := bd_some hf
    refine loop_v (step := X9_single_L12 w a0) (fun s12 : Int32 => V p l e (k2_rm 2 52) s m args below meth c (inW (mcells g ad w)) (EN below args s g (mcells g ad w) (mcells g ad rr) none) g 7 (mcells g ad w) 0 0 12 [(0, .ref (ad 0)), (1, .int a0), (2, .int s12)] []) (fun z12_q : (Int32) => V p l e (k2_rm 2 52) s m args below meth c (inW (mcells g ad w)) (EN below args s g (mcells g ad w) (mcells g ad rr) none) g 7 (mcells g ad w) 0 0 27 [(0, .ref (ad 0)), (1, .int a0), (2, .int z12_q)] []) ?_ 5000 0 z12 hlz12 ?_
    · intro s12 rL hf hin hout
      unfold X9_single_L12 at hf
      refine v_aload_n hG 0 rfl rfl dX9_single_12 ?_
      refine v_iload_n hG 1 rfl rfl dX9_single_13 ?_
      refine v_iload_n hG 2 rfl rfl dX9_single_14 ?_
      obtain ⟨r15, hr15, hf⟩ := bd_some hf
      refine v_callV hG (st := []) 0 9 (ct_X9_isTerm l g ad w a0 s12 r15 hr15) iw_X9_isTerm wk_1276 rfl rfl ⟨rfl, rfl, Nat.le_of_ble_eq_true rfl, Nat.le_of_ble_eq_true rfl⟩ ⟨Nat.le_of_ble_eq_true rfl, Nat.le_of_ble_eq_true rfl⟩ rfl rfl (Nat.le_of_ble_eq_true rfl) (mcells_fst _ _ _ _) dX9_single_15 ?_
      refine (show V p l e (k2_rm 2 52) s m args below meth c (inW (mcells g ad w)) (EN below args s g (mcells g ad w) (mcells g ad rr) none) g 7 (mcells g ad w) 0 0 18 [(0, .ref (ad 0)), (1, .int a0), (2, .int s12)] [.int r15] from ?_)
      refine v_if_ne hG 27 dX9_single_18 rfl hf (fun hf => ?_) (fun hf => ?_)
      · exact hout _ (Option.some.inj hf).symm
      · refine v_iinc hG 2 (v := s12 + 1) [(2, _), (0, _), (1, _)] dX9_single_21 rfl rfl (by decide) rfl ?_
        refine v_goto hG 12 dX9_single_24 rfl ?_
        refine v_sub [(0, _), (1, _), (2, _)] [1, 2, 0] rfl ?_
        exact hin _ (Option.some.inj hf).symm
    · show V p l e (k2_rm 2 52) s m args below meth c (inW (mcells g ad w)) (EN below args s g (mcells g ad w) (mcells g ad rr) none) g 7 (mcells g ad w) 0 0 27 [(0, .ref (ad 0)), (1, .int a0), (2, .int z12)] []
      refine v_aload_n hG 0 rfl rfl dX9_single_27 ?_
      refine m_g_0_20 hG wk_1086 dX9_single_28 ?_
      refine v_bipush hG (v := 12) (by decide) dX9_single_31 ?_
      refine v_iload_n hG 1 rfl rfl dX9_single_33 ?_
      refine v_imul hG dX9_single_34 ?_
      refine v_iload_n hG 2 rfl rfl dX9_single_35 ?_
      refine v_iadd hG dX9_single_36 ?_
      refine m_l_17 hG dX9_single_37 hf (fun hf => ?_)
      refine v_lstore_n hG [(3, _), (0, _), (1, _), (2, _)] dX9_single_38 rfl (by decide) rfl ?_
      refine v_aload_n hG 1 rfl rfl dX9_single_39 ?_
      refine m_g_0_16 hG wk_1082 dX9_single_40 ?_
      refine v_iload_n hG 2 rfl rfl dX9_single_43 ?_
      refine m_l_13 hG dX9_single_44 hf (fun hf => ?_)
      refine v_iconst hG (v := 1) (by decide) dX9_single_45 ?_
      refine v_icmp_ne hG 53 dX9_single_46 rfl hf (fun hf => ?_) (fun hf => ?_)
      · refine v_iconst hG (v := 0) (by decide) dX9_single_53 ?_
        refine v_sub [(0, _), (1, _), (2, _), (3, _)] [1, 2, 3, 0] rfl ?_
        exact j54 w z12 ((gM_coef w) ((12 * a0) + z12).toNatClampNeg) 0 hf
      · refine v_iconst hG (v := 1) (by decide) dX9_single_49 ?_
        refine v_goto hG 54 dX9_single_50 rfl ?_
        refine v_sub [(0, _), (1, _), (2, _), (3, _)] [1, 2, 3, 0] rfl ?_
        exact j54 w z12 ((gM_coef w) ((12 * a0) + z12).toNatClampNeg) 1 hf
  · cases hf
    exact v_vret hG hr dX9_single_9
def X9_toEnds_J100  (j100_0 : MW) (j100_1 : Int32) : Option ((MW × Int32) ⊕ ((MW))) := (some (.inl (j100_0, (j100_1 + 1))))
def X9_toEnds_J59 (w : MW) (a0 : Int32) (a1 : Int32) (r10 : Int32) (j59_0 : MW) (j59_1 : Int32) (j59_2 : Int32) : Option ((MW × Int32) ⊕ ((MW))) := (if j59_2 = a1 then (if inR j59_1 12 = true then ((X9_narrowLow j59_0 4 a0 j59_1 (((gM_high j59_0) j59_1.toNatClampNeg).toInt64) (((gM_rest w) a0.toNatClampNeg) ||| r10)).bind (fun r77 : MW => (X9_toEnds_J100 r77 j59_1))) else none) else (if inR j59_1 12 = true then ((X9_narrowHigh j59_0 4 a0 j59_1 (((gM_low j59_0) j59_1.toNatClampNeg).toInt64) (((gM_rest w) a0.toNatClampNeg) ||| r10)).bind (fun r97 : MW => (X9_toEnds_J100 r97 j59_1))) else none))
def X9_toEnds_L18 (w : MW) (a0 : Int32) (a1 : Int32) (r10 : Int32) (s18 : MW × Int32) : Option ((MW × Int32) ⊕ ((MW))) := (if (gM_columns s18.1) ≤ s18.2 then (some (.inr s18.1)) else ((X9_isTerm s18.1 a0 s18.2).bind (fun r31 : Int32 => (if r31 = 0 then (X9_toEnds_J100 s18.1 s18.2) else (if inR ((12 * a0) + s18.2) 144 = true then (if ((gM_coef s18.1) ((12 * a0) + s18.2).toNatClampNeg) ≤ 0 then (X9_toEnds_J59 w a0 a1 r10 s18.1 s18.2 0) else (X9_toEnds_J59 w a0 a1 r10 s18.1 s18.2 1)) else none)))))
def X9_toEnds (w : MW) (a0 : Int32) (a1 : Int32) : Option (MW) := (if inR a0 12 = true then ((X9_from w a0 (-1) a1).bind (fun r10 : Int32 => ((iter (X9_toEnds_L18 w a0 a1 r10) 5000 (w, 0)).bind (fun z18 : (MW) => ((X9_leave z18 4 a0).bind (fun r109 : MW => (some r109))))))) else none)
set_option maxRecDepth 100000 in
set_option maxHeartbeats 4000000 in
theorem ct_X9_toEnds (l : Launch) (g : wG) (ad : Nat → Nat) (w : MW) (a0 : Int32) (a1 : Int32) (rr : MW) (hf : X9_toEnds w a0 a1 = some rr) : MetN l g yX9_toEnds cX9_toEnds 5 none (k2_rm 2 52) [.ref (ad 0), .int a0, .int a1] (mcells g ad w) (mcells g ad rr) none := by
  refine MetN.of2 [(0, .ref (ad 0)), (1, .int a0), (2, .int a1)] rfl (by decide +kernel) (Nat.le_of_ble_eq_true rfl) ?_
  intro p e s m args below meth c hG hr
  unfold X9_toEnds at hf
  refine v_aload_n hG 0 rfl rfl dX9_toEnds_0 ?_
  refine m_g_0_19 hG wk_1085 dX9_toEnds_1 ?_
  refine v_iload_n hG 1 rfl rfl dX9_toEnds_4 ?_
  refine m_l_16 hG dX9_toEnds_5 hf (fun hf => ?_)
  refine v_aload_n hG 0 rfl rfl dX9_toEnds_6 ?_
  refine v_iload_n hG 1 rfl rfl dX9_toEnds_7 ?_
  refine v_iconst hG (v := -1) (by decide) dX9_toEnds_8 ?_
  refine v_iload_n hG 2 rfl rfl dX9_toEnds_9 ?_
  obtain ⟨r10, hr10, hf⟩ := bd_some hf
  refine v_callV hG (st := [.int ((gM_rest w) a0.toNatClampNeg)]) 0 9 (ct_X9_from l g ad w a0 (-1) a1 r10 hr10) iw_X9_from wk_1326 rfl rfl ⟨rfl, rfl, Nat.le_of_ble_eq_true rfl, Nat.le_of_ble_eq_true rfl⟩ ⟨Nat.le_of_ble_eq_true rfl, Nat.le_of_ble_eq_true rfl⟩ rfl rfl (Nat.le_of_ble_eq_true rfl) (mcells_fst _ _ _ _) dX9_toEnds_10 ?_
  refine (show V p l e (k2_rm 2 52) s m args below meth c (inW (mcells g ad w)) (EN below args s g (mcells g ad w) (mcells g ad rr) none) g 5 (mcells g ad w) 0 0 13 [(0, .ref (ad 0)), (1, .int a0), (2, .int a1)] [.int r10, .int ((gM_rest w) a0.toNatClampNeg)] from ?_)
  refine v_ior hG dX9_toEnds_13 ?_
  refine v_istore_n hG [(3, _), (0, _), (1, _), (2, _)] dX9_toEnds_14 rfl (by decide) rfl ?_
  refine v_iconst hG (v := 0) (by decide) dX9_toEnds_15 ?_
  refine v_istore hG [(4, _), (3, _), (0, _), (1, _), (2, _)] dX9_toEnds_16 (by decide) rfl ?_
  refine v_sub [(0, _), (1, _), (2, _), (3, _), (4, _)] [2, 3, 4, 1, 0] rfl ?_
  obtain ⟨z18, hlz18, hf⟩ := bd_some hf
  refine loop_v (step := X9_toEnds_L18 w a0 a1 r10) (fun s18 : MW × Int32 => V p l e (k2_rm 2 52) s m args below meth c (inW (mcells g ad w)) (EN below args s g (mcells g ad w) (mcells g ad rr) none) g 5 (mcells g ad s18.1) 0 0 18 [(0, .ref (ad 0)), (1, .int a0), (2, .int a1), (3, .int (((gM_rest w) a0.toNatClampNeg) ||| r10)), (4, .int s18.2)] []) (fun z18_q : (MW) => V p l e (k2_rm 2 52) s m args below meth c (inW (mcells g ad w)) (EN below args s g (mcells g ad w) (mcells g ad rr) none) g 5 (mcells g ad z18_q) 0 0 106 [(0, .ref (ad 0)), (1, .int a0)] []) ?_ 5000 (w, 0) z18 hlz18 ?_
  · intro s18 rL hf hin hout
    unfold X9_toEnds_L18 at hf
    have j100 : ∀ (j100_0 : MW) (j100_1 : Int32), X9_toEnds_J100 j100_0 j100_1 = some rL → V p l e (k2_rm 2 52) s m args below meth c (inW (mcells g ad w)) (EN below args s g (mcells g ad w) (mcells g ad rr) none) g 5 (mcells g ad j100_0) 0 0 100 [(0, .ref (ad 0)), (1, .int a0), (2, .int a1), (3, .int (((gM_rest w) a0.toNatClampNeg) ||| r10)), (4, .int j100_1)] [] := by
      intro j100_0 j100_1 hf
      unfold X9_toEnds_J100 at hf
      refine v_iinc hG 4 (v := j100_1 + 1) [(4, _), (0, _), (1, _), (2, _), (3, _)] dX9_toEnds_100 rfl rfl (by decide) rfl ?_
      refine v_goto hG 18 dX9_toEnds_103 rfl ?_
      refine v_sub [(0, _), (1, _), (2, _), (3, _), (4, _)] [1, 2, 3, 4, 0] rfl ?_
      exact hin _ (Option.some.inj hf).symm
    have j59 : ∀ (j59_0 : MW) (j59_1 : Int32) (j59_2 : Int32), X9_toEnds_J59 w a0 a1 r10 j59_0 j59_1 j59_2 = some rL → V p l e (k2_rm 2 52) s m args below meth c (inW (mcells g ad w)) (EN below args s g (mcells g ad w) (mcells g ad rr) none) g 5 (mcells g ad j59_0) 0 0 59 [(0, .ref (ad 0)), (1, .int a0), (2, .int a1), (3, .int (((gM_rest w) a0.toNatClampNeg) ||| r10)), (4, .int j59_1)] [.int j59_2] := by
      intro j59_0 j59_1 j59_2 hf
      unfold X9_toEnds_J59 at hf
      refine v_iload_n hG 2 rfl rfl dX9_toEnds_59 ?_
      refine v_icmp_ne hG 83 dX9_toEnds_60 rfl hf (fun hf => ?_) (fun hf => ?_)
      · refine v_aload_n hG 0 rfl rfl dX9_toEnds_83 ?_
        refine v_iconst hG (v := 4) (by decide) dX9_toEnds_84 ?_
        refine v_iload_n hG 1 rfl rfl dX9_toEnds_85 ?_
        refine v_iload hG 4 rfl dX9_toEnds_86 ?_
        refine v_aload_n hG 0 rfl rfl dX9_toEnds_88 ?_
        refine m_g_0_11 hG wk_1077 dX9_toEnds_89 ?_
        refine v_iload hG 4 rfl dX9_toEnds_92 ?_
        refine m_l_8 hG dX9_toEnds_94 hf (fun hf => ?_)
        refine v_i2l hG dX9_toEnds_95 ?_
        refine v_iload_n hG 3 rfl rfl dX9_toEnds_96 ?_
        obtain ⟨r97, hr97, hf⟩ := bd_some hf
        refine v_callV hG (st := []) 0 9 (ct_X9_narrowHigh l g ad j59_0 4 a0 j59_1 (((gM_low j59_0) j59_1.toNatClampNeg).toInt64) (((gM_rest w) a0.toNatClampNeg) ||| r10) r97 hr97) iw_X9_narrowHigh wk_1314 rfl rfl ⟨rfl, rfl, Nat.le_of_ble_eq_true rfl, Nat.le_of_ble_eq_true rfl⟩ ⟨Nat.le_of_ble_eq_true rfl, Nat.le_of_ble_eq_true rfl⟩ rfl rfl (Nat.le_of_ble_eq_true rfl) (mcells_fst _ _ _ _) dX9_toEnds_97 ?_
        refine (show V p l e (k2_rm 2 52) s m args below meth c (inW (mcells g ad w)) (EN below args s g (mcells g ad w) (mcells g ad rr) none) g 5 (mcells g ad r97) 0 0 100 [(0, .ref (ad 0)), (1, .int a0), (2, .int a1), (3, .int (((gM_rest w) a0.toNatClampNeg) ||| r10)), (4, .int j59_1)] [] from ?_)
        exact j100 r97 j59_1 hf
      · refine v_aload_n hG 0 rfl rfl dX9_toEnds_63 ?_
        refine v_iconst hG (v := 4) (by decide) dX9_toEnds_64 ?_
        refine v_iload_n hG 1 rfl rfl dX9_toEnds_65 ?_
        refine v_iload hG 4 rfl dX9_toEnds_66 ?_
        refine v_aload_n hG 0 rfl rfl dX9_toEnds_68 ?_
        refine m_g_0_12 hG wk_1078 dX9_toEnds_69 ?_
        refine v_iload hG 4 rfl dX9_toEnds_72 ?_
        refine m_l_9 hG dX9_toEnds_74 hf (fun hf => ?_)
        refine v_i2l hG dX9_toEnds_75 ?_
        refine v_iload_n hG 3 rfl rfl dX9_toEnds_76 ?_
        obtain ⟨r77, hr77, hf⟩ := bd_some hf
        refine v_callV hG (st := []) 0 9 (ct_X9_narrowLow l g ad j59_0 4 a0 j59_1 (((gM_high j59_0) j59_1.toNatClampNeg).toInt64) (((gM_rest w) a0.toNatClampNeg) ||| r10) r77 hr77) iw_X9_narrowLow wk_1310 rfl rfl ⟨rfl, rfl, Nat.le_of_ble_eq_true rfl, Nat.le_of_ble_eq_true rfl⟩ ⟨Nat.le_of_ble_eq_true rfl, Nat.le_of_ble_eq_true rfl⟩ rfl rfl (Nat.le_of_ble_eq_true rfl) (mcells_fst _ _ _ _) dX9_toEnds_77 ?_
        refine (show V p l e (k2_rm 2 52) s m args below meth c (inW (mcells g ad w)) (EN below args s g (mcells g ad w) (mcells g ad rr) none) g 5 (mcells g ad r77) 0 0 80 [(0, .ref (ad 0)), (1, .int a0), (2, .int a1), (3, .int (((gM_rest w) a0.toNatClampNeg) ||| r10)), (4, .int j59_1)] [] from ?_)
        refine v_goto hG 100 dX9_toEnds_80 rfl ?_
        exact j100 r77 j59_1 hf
    refine v_iload hG 4 rfl dX9_toEnds_18 ?_
    refine v_aload_n hG 0 rfl rfl dX9_toEnds_20 ?_
    refine m_g_0_1 hG wk_1067 dX9_toEnds_21 ?_
    refine v_icmp_ge hG 106 dX9_toEnds_24 rfl hf (fun hf => ?_) (fun hf => ?_)
    · refine v_sub [(0, _), (1, _)] [0, 1] rfl ?_
      exact hout _ (Option.some.inj hf).symm
    · refine v_aload_n hG 0 rfl rfl dX9_toEnds_27 ?_
      refine v_iload_n hG 1 rfl rfl dX9_toEnds_28 ?_
      refine v_iload hG 4 rfl dX9_toEnds_29 ?_
      obtain ⟨r31, hr31, hf⟩ := bd_some hf
      refine v_callV hG (st := []) 0 9 (ct_X9_isTerm l g ad s18.1 a0 s18.2 r31 hr31) iw_X9_isTerm wk_1276 rfl rfl ⟨rfl, rfl, Nat.le_of_ble_eq_true rfl, Nat.le_of_ble_eq_true rfl⟩ ⟨Nat.le_of_ble_eq_true rfl, Nat.le_of_ble_eq_true rfl⟩ rfl rfl (Nat.le_of_ble_eq_true rfl) (mcells_fst _ _ _ _) dX9_toEnds_31 ?_
      refine (show V p l e (k2_rm 2 52) s m args below meth c (inW (mcells g ad w)) (EN below args s g (mcells g ad w) (mcells g ad rr) none) g 5 (mcells g ad s18.1) 0 0 34 [(0, .ref (ad 0)), (1, .int a0), (2, .int a1), (3, .int (((gM_rest w) a0.toNatClampNeg) ||| r10)), (4, .int s18.2)] [.int r31] from ?_)
      refine v_if_eq hG 100 dX9_toEnds_34 rfl hf (fun hf => ?_) (fun hf => ?_)
      · exact j100 s18.1 s18.2 hf
      · refine v_aload_n hG 0 rfl rfl dX9_toEnds_37 ?_
        refine m_g_0_20 hG wk_1086 dX9_toEnds_38 ?_
        refine v_bipush hG (v := 12) (by decide) dX9_toEnds_41 ?_
        refine v_iload_n hG 1 rfl rfl dX9_toEnds_43 ?_
        refine v_imul hG dX9_toEnds_44 ?_
        refine v_iload hG 4 rfl dX9_toEnds_45 ?_
        refine v_iadd hG dX9_toEnds_47 ?_
        refine m_l_17 hG dX9_toEnds_48 hf (fun hf => ?_)
        refine v_lconst hG (v := 0) (by decide) dX9_toEnds_49 ?_
        refine v_lcmp_le hG 58 dX9_toEnds_50 dX9_toEnds_51 rfl hf (fun hf => ?_) (fun hf => ?_)
        · refine v_iconst hG (v := 0) (by decide) dX9_toEnds_58 ?_
          exact j59 s18.1 s18.2 0 hf
        · refine v_iconst hG (v := 1) (by decide) dX9_toEnds_54 ?_
          refine v_goto hG 59 dX9_toEnds_55 rfl ?_
          exact j59 s18.1 s18.2 1 hf
  · show V p l e (k2_rm 2 52) s m args below meth c (inW (mcells g ad w)) (EN below args s g (mcells g ad w) (mcells g ad rr) none) g 5 (mcells g ad z18) 0 0 106 [(0, .ref (ad 0)), (1, .int a0)] []
    refine v_aload_n hG 0 rfl rfl dX9_toEnds_106 ?_
    refine v_iconst hG (v := 4) (by decide) dX9_toEnds_107 ?_
    refine v_iload_n hG 1 rfl rfl dX9_toEnds_108 ?_
    obtain ⟨r109, hr109, hf⟩ := bd_some hf
    refine v_callV hG (st := []) 0 9 (ct_X9_leave l g ad z18 4 a0 r109 hr109) iw_X9_leave wk_1280 rfl rfl ⟨rfl, rfl, Nat.le_of_ble_eq_true rfl, Nat.le_of_ble_eq_true rfl⟩ ⟨Nat.le_of_ble_eq_true rfl, Nat.le_of_ble_eq_true rfl⟩ rfl rfl (Nat.le_of_ble_eq_true rfl) (mcells_fst _ _ _ _) dX9_toEnds_109 ?_
    refine (show V p l e (k2_rm 2 52) s m args below meth c (inW (mcells g ad w)) (EN below args s g (mcells g ad w) (mcells g ad rr) none) g 5 (mcells g ad r109) 0 0 112 [(0, .ref (ad 0)), (1, .int a0)] [] from ?_)
    cases hf
    exact v_vret hG hr dX9_toEnds_112
def X9_span_J122 (a0 : Int32) (j122_0 : MW) (j122_1 : Int64) (j122_2 : Int64) : Option (MW) := (if inR a0 12 = true then (if j122_1 = ((gM_right j122_0) a0.toNatClampNeg) then ((X9_toEnds j122_0 a0 0).bind (fun r136 : MW => (some r136))) else (if inR a0 12 = true then (if ((gM_kind j122_0) a0.toNatClampNeg) = 1 then (if inR a0 12 = true then (if j122_2 = ((gM_right j122_0) a0.toNatClampNeg) then ((X9_toEnds j122_0 a0 1).bind (fun r167 : MW => (some r167))) else (some j122_0)) else none) else (some j122_0)) else none)) else none)
def X9_span_J92 (a0 : Int32) (j92_0 : MW) (j92_1 : Int64) (j92_2 : Int64) : Option (MW) := (if inR a0 12 = true then (if ((gM_kind j92_0) a0.toNatClampNeg) = 0 then (if inR a0 12 = true then (if ((gM_right j92_0) a0.toNatClampNeg) < j92_2 then (X9_span_J122 a0 j92_0 j92_1 j92_2) else ((X9_leave j92_0 4 a0).bind (fun r116 : MW => (some r116)))) else none) else (X9_span_J122 a0 j92_0 j92_1 j92_2)) else none)
def X9_span (w : MW) (a0 : Int32) : Option (MW) := ((X9_end w a0 (-1) 0).bind (fun r4 : Int64 => ((X9_end w a0 (-1) 1).bind (fun r12 : Int64 => (if inR a0 12 = true then (if r4 ≤ ((gM_right w) a0.toNatClampNeg) then (if inR a0 12 = true then (if ((gM_kind w) a0.toNatClampNeg) = 1 then (if inR a0 12 = true then (if ((gM_right w) a0.toNatClampNeg) ≤ r12 then (X9_span_J92 a0 w r4 r12) else (if inR a0 12 = true then ((X9_from w a0 (-1) 1).bind (fun r82 : Int32 => ((X9_impossible w (((gM_rest w) a0.toNatClampNeg) ||| r82)).bind (fun r86 : MW => (some r86))))) else none)) else none) else (X9_span_J92 a0 w r4 r12)) else none) else (if inR a0 12 = true then ((X9_from w a0 (-1) 0).bind (fun r39 : Int32 => ((X9_impossible w (((gM_rest w) a0.toNatClampNeg) ||| r39)).bind (fun r43 : MW => (some r43))))) else none)) else none)))))
set_option maxRecDepth 100000 in
set_option maxHeartbeats 4000000 in
theorem ct_X9_span (l : Launch) (g : wG) (ad : Nat → Nat) (w : MW) (a0 : Int32) (rr : MW) (hf : X9_span w a0 = some rr) : MetN l g yX9_span cX9_span 6 none (k2_rm 3 76) [.ref (ad 0), .int a0] (mcells g ad w) (mcells g ad rr) none := by
  refine MetN.of2 [(0, .ref (ad 0)), (1, .int a0)] rfl (by decide +kernel) (Nat.le_of_ble_eq_true rfl) ?_
  intro p e s m args below meth c hG hr
  unfold X9_span at hf
  have j122 : ∀ (j122_0 : MW) (j122_1 : Int64) (j122_2 : Int64), X9_span_J122 a0 j122_0 j122_1 j122_2 = some rr → V p l e (k2_rm 3 76) s m args below meth c (inW (mcells g ad w)) (EN below args s g (mcells g ad w) (mcells g ad rr) none) g 6 (mcells g ad j122_0) 0 0 122 [(0, .ref (ad 0)), (1, .int a0), (2, .long j122_1), (4, .long j122_2)] [] := by
    intro j122_0 j122_1 j122_2 hf
    unfold X9_span_J122 at hf
    refine v_lload_n hG 2 rfl rfl dX9_span_122 ?_
    refine v_aload_n hG 0 rfl rfl dX9_span_123 ?_
    refine m_g_0_18 hG wk_1084 dX9_span_124 ?_
    refine v_iload_n hG 1 rfl rfl dX9_span_127 ?_
    refine m_l_15 hG dX9_span_128 hf (fun hf => ?_)
    refine v_lcmp_ne hG 142 dX9_span_129 dX9_span_130 rfl hf (fun hf => ?_) (fun hf => ?_)
    · refine v_aload_n hG 0 rfl rfl dX9_span_142 ?_
      refine m_g_0_16 hG wk_1082 dX9_span_143 ?_
      refine v_iload_n hG 1 rfl rfl dX9_span_146 ?_
      refine m_l_13 hG dX9_span_147 hf (fun hf => ?_)
      refine v_iconst hG (v := 1) (by decide) dX9_span_148 ?_
      refine v_icmp_ne hG 170 dX9_span_149 rfl hf (fun hf => ?_) (fun hf => ?_)
      · cases hf
        exact v_vret hG hr dX9_span_170
      · refine v_lload hG 3 rfl dX9_span_152 ?_
        refine v_aload_n hG 0 rfl rfl dX9_span_154 ?_
        refine m_g_0_18 hG wk_1084 dX9_span_155 ?_
        refine v_iload_n hG 1 rfl rfl dX9_span_158 ?_
        refine m_l_15 hG dX9_span_159 hf (fun hf => ?_)
        refine v_lcmp_ne hG 170 dX9_span_160 dX9_span_161 rfl hf (fun hf => ?_) (fun hf => ?_)
        · cases hf
          exact v_vret hG hr dX9_span_170
        · refine v_aload_n hG 0 rfl rfl dX9_span_164 ?_
          refine v_iload_n hG 1 rfl rfl dX9_span_165 ?_
          refine v_iconst hG (v := 1) (by decide) dX9_span_166 ?_
          obtain ⟨r167, hr167, hf⟩ := bd_some hf
          refine v_callV hG (st := []) 0 9 (ct_X9_toEnds l g ad j122_0 a0 1 r167 hr167) iw_X9_toEnds wk_1330 rfl rfl ⟨rfl, rfl, Nat.le_of_ble_eq_true rfl, Nat.le_of_ble_eq_true rfl⟩ ⟨Nat.le_of_ble_eq_true rfl, Nat.le_of_ble_eq_true rfl⟩ rfl rfl (Nat.le_of_ble_eq_true rfl) (mcells_fst _ _ _ _) dX9_span_167 ?_
          refine (show V p l e (k2_rm 3 76) s m args below meth c (inW (mcells g ad w)) (EN below args s g (mcells g ad w) (mcells g ad rr) none) g 6 (mcells g ad r167) 0 0 170 [(0, .ref (ad 0)), (1, .int a0), (2, .long j122_1), (4, .long j122_2)] [] from ?_)
          cases hf
          exact v_vret hG hr dX9_span_170
    · refine v_aload_n hG 0 rfl rfl dX9_span_133 ?_
      refine v_iload_n hG 1 rfl rfl dX9_span_134 ?_
      refine v_iconst hG (v := 0) (by decide) dX9_span_135 ?_
      obtain ⟨r136, hr136, hf⟩ := bd_some hf
      refine v_callV hG (st := []) 0 9 (ct_X9_toEnds l g ad j122_0 a0 0 r136 hr136) iw_X9_toEnds wk_1330 rfl rfl ⟨rfl, rfl, Nat.le_of_ble_eq_true rfl, Nat.le_of_ble_eq_true rfl⟩ ⟨Nat.le_of_ble_eq_true rfl, Nat.le_of_ble_eq_true rfl⟩ rfl rfl (Nat.le_of_ble_eq_true rfl) (mcells_fst _ _ _ _) dX9_span_136 ?_
      refine (show V p l e (k2_rm 3 76) s m args below meth c (inW (mcells g ad w)) (EN below args s g (mcells g ad w) (mcells g ad rr) none) g 6 (mcells g ad r136) 0 0 139 [(0, .ref (ad 0)), (1, .int a0), (2, .long j122_1), (4, .long j122_2)] [] from ?_)
      refine v_goto hG 170 dX9_span_139 rfl ?_
      cases hf
      exact v_vret hG hr dX9_span_170
  have j92 : ∀ (j92_0 : MW) (j92_1 : Int64) (j92_2 : Int64), X9_span_J92 a0 j92_0 j92_1 j92_2 = some rr → V p l e (k2_rm 3 76) s m args below meth c (inW (mcells g ad w)) (EN below args s g (mcells g ad w) (mcells g ad rr) none) g 6 (mcells g ad j92_0) 0 0 92 [(0, .ref (ad 0)), (1, .int a0), (2, .long j92_1), (4, .long j92_2)] [] := by
    intro j92_0 j92_1 j92_2 hf
    unfold X9_span_J92 at hf
    refine v_aload_n hG 0 rfl rfl dX9_span_92 ?_
    refine m_g_0_16 hG wk_1082 dX9_span_93 ?_
    refine v_iload_n hG 1 rfl rfl dX9_span_96 ?_
    refine m_l_13 hG dX9_span_97 hf (fun hf => ?_)
    refine v_if_ne hG 122 dX9_span_98 rfl hf (fun hf => ?_) (fun hf => ?_)
    · exact j122 j92_0 j92_1 j92_2 hf
    · refine v_lload hG 3 rfl dX9_span_101 ?_
      refine v_aload_n hG 0 rfl rfl dX9_span_103 ?_
      refine m_g_0_18 hG wk_1084 dX9_span_104 ?_
      refine v_iload_n hG 1 rfl rfl dX9_span_107 ?_
      refine m_l_15 hG dX9_span_108 hf (fun hf => ?_)
      refine v_lcmp_gt hG 122 dX9_span_109 dX9_span_110 rfl hf (fun hf => ?_) (fun hf => ?_)
      · exact j122 j92_0 j92_1 j92_2 hf
      · refine v_aload_n hG 0 rfl rfl dX9_span_113 ?_
        refine v_iconst hG (v := 4) (by decide) dX9_span_114 ?_
        refine v_iload_n hG 1 rfl rfl dX9_span_115 ?_
        obtain ⟨r116, hr116, hf⟩ := bd_some hf
        refine v_callV hG (st := []) 0 9 (ct_X9_leave l g ad j92_0 4 a0 r116 hr116) iw_X9_leave wk_1280 rfl rfl ⟨rfl, rfl, Nat.le_of_ble_eq_true rfl, Nat.le_of_ble_eq_true rfl⟩ ⟨Nat.le_of_ble_eq_true rfl, Nat.le_of_ble_eq_true rfl⟩ rfl rfl (Nat.le_of_ble_eq_true rfl) (mcells_fst _ _ _ _) dX9_span_116 ?_
        refine (show V p l e (k2_rm 3 76) s m args below meth c (inW (mcells g ad w)) (EN below args s g (mcells g ad w) (mcells g ad rr) none) g 6 (mcells g ad r116) 0 0 119 [(0, .ref (ad 0)), (1, .int a0), (2, .long j92_1), (4, .long j92_2)] [] from ?_)
        refine v_goto hG 170 dX9_span_119 rfl ?_
        cases hf
        exact v_vret hG hr dX9_span_170
  refine v_aload_n hG 0 rfl rfl dX9_span_0 ?_
  refine v_iload_n hG 1 rfl rfl dX9_span_1 ?_
  refine v_iconst hG (v := -1) (by decide) dX9_span_2 ?_
  refine v_iconst hG (v := 0) (by decide) dX9_span_3 ?_
  obtain ⟨r4, hr4, hf⟩ := bd_some hf
  refine v_callV hG (st := []) 0 9 (ct_X9_end l g ad w a0 (-1) 0 r4 hr4) iw_X9_end wk_1322 rfl rfl ⟨rfl, rfl, Nat.le_of_ble_eq_true rfl, Nat.le_of_ble_eq_true rfl⟩ ⟨Nat.le_of_ble_eq_true rfl, Nat.le_of_ble_eq_true rfl⟩ rfl rfl (Nat.le_of_ble_eq_true rfl) (mcells_fst _ _ _ _) dX9_span_4 ?_
  refine (show V p l e (k2_rm 3 76) s m args below meth c (inW (mcells g ad w)) (EN below args s g (mcells g ad w) (mcells g ad rr) none) g 6 (mcells g ad w) 0 0 7 [(0, .ref (ad 0)), (1, .int a0)] [.long r4] from ?_)
  refine v_lstore_n hG [(2, _), (0, _), (1, _)] dX9_span_7 rfl (by decide) rfl ?_
  refine v_aload_n hG 1 rfl rfl dX9_span_8 ?_
  refine v_iload_n hG 2 rfl rfl dX9_span_9 ?_
  refine v_iconst hG (v := -1) (by decide) dX9_span_10 ?_
  refine v_iconst hG (v := 1) (by decide) dX9_span_11 ?_
  obtain ⟨r12, hr12, hf⟩ := bd_some hf
  refine v_callV hG (st := []) 0 9 (ct_X9_end l g ad w a0 (-1) 1 r12 hr12) iw_X9_end wk_1322 rfl rfl ⟨rfl, rfl, Nat.le_of_ble_eq_true rfl, Nat.le_of_ble_eq_true rfl⟩ ⟨Nat.le_of_ble_eq_true rfl, Nat.le_of_ble_eq_true rfl⟩ rfl rfl (Nat.le_of_ble_eq_true rfl) (mcells_fst _ _ _ _) dX9_span_12 ?_
  refine (show V p l e (k2_rm 3 76) s m args below meth c (inW (mcells g ad w)) (EN below args s g (mcells g ad w) (mcells g ad rr) none) g 6 (mcells g ad w) 0 0 15 [(2, .long r4), (0, .ref (ad 0)), (1, .int a0)] [.long r12] from ?_)
  refine v_lstore hG [(4, _), (2, _), (0, _), (1, _)] dX9_span_15 (by decide) rfl ?_
  refine v_lload_n hG 1 rfl rfl dX9_span_17 ?_
  refine v_aload_n hG 2 rfl rfl dX9_span_18 ?_
  refine m_g_0_18 hG wk_1084 dX9_span_19 ?_
  refine v_iload_n hG 3 rfl rfl dX9_span_22 ?_
  refine m_l_15 hG dX9_span_23 hf (fun hf => ?_)
  refine v_lcmp_le hG 49 dX9_span_24 dX9_span_25 rfl hf (fun hf => ?_) (fun hf => ?_)
  · refine v_aload_n hG 2 rfl rfl dX9_span_49 ?_
    refine m_g_0_16 hG wk_1082 dX9_span_50 ?_
    refine v_iload_n hG 3 rfl rfl dX9_span_53 ?_
    refine m_l_13 hG dX9_span_54 hf (fun hf => ?_)
    refine v_iconst hG (v := 1) (by decide) dX9_span_55 ?_
    refine v_icmp_ne hG 92 dX9_span_56 rfl hf (fun hf => ?_) (fun hf => ?_)
    · refine v_sub [(0, _), (1, _), (2, _), (4, _)] [2, 3, 1, 0] rfl ?_
      exact j92 w r4 r12 hf
    · refine v_lload hG 0 rfl dX9_span_59 ?_
      refine v_aload_n hG 2 rfl rfl dX9_span_61 ?_
      refine m_g_0_18 hG wk_1084 dX9_span_62 ?_
      refine v_iload_n hG 3 rfl rfl dX9_span_65 ?_
      refine m_l_15 hG dX9_span_66 hf (fun hf => ?_)
      refine v_lcmp_ge hG 92 dX9_span_67 dX9_span_68 rfl hf (fun hf => ?_) (fun hf => ?_)
      · refine v_sub [(0, _), (1, _), (2, _), (4, _)] [2, 3, 1, 0] rfl ?_
        exact j92 w r4 r12 hf
      · refine v_aload_n hG 2 rfl rfl dX9_span_71 ?_
        refine v_aload_n hG 2 rfl rfl dX9_span_72 ?_
        refine m_g_0_19 hG wk_1085 dX9_span_73 ?_
        refine v_iload_n hG 3 rfl rfl dX9_span_76 ?_
        refine m_l_16 hG dX9_span_77 hf (fun hf => ?_)
        refine v_aload_n hG 2 rfl rfl dX9_span_78 ?_
        refine v_iload_n hG 3 rfl rfl dX9_span_79 ?_
        refine v_iconst hG (v := -1) (by decide) dX9_span_80 ?_
        refine v_iconst hG (v := 1) (by decide) dX9_span_81 ?_
        obtain ⟨r82, hr82, hf⟩ := bd_some hf
        refine v_callV hG (st := [.int ((gM_rest w) a0.toNatClampNeg), .ref (ad 0)]) 0 9 (ct_X9_from l g ad w a0 (-1) 1 r82 hr82) iw_X9_from wk_1326 rfl rfl ⟨rfl, rfl, Nat.le_of_ble_eq_true rfl, Nat.le_of_ble_eq_true rfl⟩ ⟨Nat.le_of_ble_eq_true rfl, Nat.le_of_ble_eq_true rfl⟩ rfl rfl (Nat.le_of_ble_eq_true rfl) (mcells_fst _ _ _ _) dX9_span_82 ?_
        refine (show V p l e (k2_rm 3 76) s m args below meth c (inW (mcells g ad w)) (EN below args s g (mcells g ad w) (mcells g ad rr) none) g 6 (mcells g ad w) 0 0 85 [(4, .long r12), (2, .long r4), (0, .ref (ad 0)), (1, .int a0)] [.int r82, .int ((gM_rest w) a0.toNatClampNeg), .ref (ad 0)] from ?_)
        refine v_ior hG dX9_span_85 ?_
        obtain ⟨r86, hr86, hf⟩ := bd_some hf
        refine v_callV hG (st := []) 0 9 (ct_X9_impossible l g ad w (((gM_rest w) a0.toNatClampNeg) ||| r82) r86 hr86) iw_X9_impossible wk_1288 rfl rfl ⟨rfl, rfl, Nat.le_of_ble_eq_true rfl, Nat.le_of_ble_eq_true rfl⟩ ⟨Nat.le_of_ble_eq_true rfl, Nat.le_of_ble_eq_true rfl⟩ rfl rfl (Nat.le_of_ble_eq_true rfl) (mcells_fst _ _ _ _) dX9_span_86 ?_
        refine (show V p l e (k2_rm 3 76) s m args below meth c (inW (mcells g ad w)) (EN below args s g (mcells g ad w) (mcells g ad rr) none) g 6 (mcells g ad r86) 0 0 89 [(4, .long r12), (2, .long r4), (0, .ref (ad 0)), (1, .int a0)] [] from ?_)
        refine v_goto hG 170 dX9_span_89 rfl ?_
        cases hf
        exact v_vret hG hr dX9_span_170
  · refine v_aload_n hG 2 rfl rfl dX9_span_28 ?_
    refine v_aload_n hG 2 rfl rfl dX9_span_29 ?_
    refine m_g_0_19 hG wk_1085 dX9_span_30 ?_
    refine v_iload_n hG 3 rfl rfl dX9_span_33 ?_
    refine m_l_16 hG dX9_span_34 hf (fun hf => ?_)
    refine v_aload_n hG 2 rfl rfl dX9_span_35 ?_
    refine v_iload_n hG 3 rfl rfl dX9_span_36 ?_
    refine v_iconst hG (v := -1) (by decide) dX9_span_37 ?_
    refine v_iconst hG (v := 0) (by decide) dX9_span_38 ?_
    obtain ⟨r39, hr39, hf⟩ := bd_some hf
    refine v_callV hG (st := [.int ((gM_rest w) a0.toNatClampNeg), .ref (ad 0)]) 0 9 (ct_X9_from l g ad w a0 (-1) 0 r39 hr39) iw_X9_from wk_1326 rfl rfl ⟨rfl, rfl, Nat.le_of_ble_eq_true rfl, Nat.le_of_ble_eq_true rfl⟩ ⟨Nat.le_of_ble_eq_true rfl, Nat.le_of_ble_eq_true rfl⟩ rfl rfl (Nat.le_of_ble_eq_true rfl) (mcells_fst _ _ _ _) dX9_span_39 ?_
    refine (show V p l e (k2_rm 3 76) s m args below meth c (inW (mcells g ad w)) (EN below args s g (mcells g ad w) (mcells g ad rr) none) g 6 (mcells g ad w) 0 0 42 [(4, .long r12), (2, .long r4), (0, .ref (ad 0)), (1, .int a0)] [.int r39, .int ((gM_rest w) a0.toNatClampNeg), .ref (ad 0)] from ?_)
    refine v_ior hG dX9_span_42 ?_
    obtain ⟨r43, hr43, hf⟩ := bd_some hf
    refine v_callV hG (st := []) 0 9 (ct_X9_impossible l g ad w (((gM_rest w) a0.toNatClampNeg) ||| r39) r43 hr43) iw_X9_impossible wk_1288 rfl rfl ⟨rfl, rfl, Nat.le_of_ble_eq_true rfl, Nat.le_of_ble_eq_true rfl⟩ ⟨Nat.le_of_ble_eq_true rfl, Nat.le_of_ble_eq_true rfl⟩ rfl rfl (Nat.le_of_ble_eq_true rfl) (mcells_fst _ _ _ _) dX9_span_43 ?_
    refine (show V p l e (k2_rm 3 76) s m args below meth c (inW (mcells g ad w)) (EN below args s g (mcells g ad w) (mcells g ad rr) none) g 6 (mcells g ad r43) 0 0 46 [(4, .long r12), (2, .long r4), (0, .ref (ad 0)), (1, .int a0)] [] from ?_)
    refine v_goto hG 170 dX9_span_46 rfl ?_
    cases hf
    exact v_vret hG hr dX9_span_170
def X9_tight_J200  (j200_0 : MW) (j200_1 : Int32) : Option ((MW × Int32) ⊕ ((MW))) := (some (.inl (j200_0, (j200_1 + 1))))
def X9_tight_J175 (a0 : Int32) (j175_0 : MW) (j175_1 : Int32) (j175_2 : Int64) (j175_3 : Int64) (j175_4 : Int32) : Option ((MW × Int32) ⊕ ((MW))) := (if inR a0 12 = true then (if ((gM_kind j175_0) a0.toNatClampNeg) = 1 then ((X9_down j175_3 j175_2).bind (fun r192 : Int64 => ((X9_narrowHigh j175_0 5 a0 j175_1 r192 j175_4).bind (fun r197 : MW => (X9_tight_J200 r197 j175_1))))) else (X9_tight_J200 j175_0 j175_1)) else none)
def X9_tight_J141 (a0 : Int32) (j141_0 : MW) (j141_1 : Int32) (j141_2 : Int64) (j141_3 : Int64) (j141_4 : Int32) : Option ((MW × Int32) ⊕ ((MW))) := (if inR a0 12 = true then (if ((gM_kind j141_0) a0.toNatClampNeg) = 1 then (if j141_2 ≤ 0 then (X9_tight_J175 a0 j141_0 j141_1 j141_2 j141_3 j141_4) else ((X9_up j141_3 j141_2).bind (fun r164 : Int64 => ((X9_narrowLow j141_0 5 a0 j141_1 r164 j141_4).bind (fun r169 : MW => (X9_tight_J200 r169 j141_1)))))) else (X9_tight_J175 a0 j141_0 j141_1 j141_2 j141_3 j141_4)) else none)
def X9_tight_L2 (a0 : Int32) (s2 : MW × Int32) : Option ((MW × Int32) ⊕ ((MW))) := (if (gM_columns s2.1) ≤ s2.2 then (some (.inr s2.1)) else ((X9_goesOn s2.1).bind (fun r11 : Int32 => (if r11 = 0 then (some (.inr s2.1)) else ((X9_isTerm s2.1 a0 s2.2).bind (fun r20 : Int32 => (if r20 = 0 then (X9_tight_J200 s2.1 s2.2) else (if inR ((12 * a0) + s2.2) 144 = true then (if inR a0 12 = true then ((X9_end s2.1 a0 s2.2 0).bind (fun r48 : Int64 => (if inR a0 12 = true then ((X9_end s2.1 a0 s2.2 1).bind (fun r64 : Int64 => (if inR a0 12 = true then ((X9_from s2.1 a0 s2.2 0).bind (fun r80 : Int32 => (if inR a0 12 = true then ((X9_from s2.1 a0 s2.2 1).bind (fun r96 : Int32 => (if ((gM_coef s2.1) ((12 * a0) + s2.2).toNatClampNeg) ≤ 0 then ((X9_up (((gM_right s2.1) a0.toNatClampNeg) - r48) ((gM_coef s2.1) ((12 * a0) + s2.2).toNatClampNeg)).bind (fun r133 : Int64 => ((X9_narrowLow s2.1 5 a0 s2.2 r133 (((gM_rest s2.1) a0.toNatClampNeg) ||| r80)).bind (fun r138 : MW => (X9_tight_J141 a0 r138 s2.2 ((gM_coef s2.1) ((12 * a0) + s2.2).toNatClampNeg) (((gM_right s2.1) a0.toNatClampNeg) - r64) (((gM_rest s2.1) a0.toNatClampNeg) ||| r96)))))) else ((X9_down (((gM_right s2.1) a0.toNatClampNeg) - r48) ((gM_coef s2.1) ((12 * a0) + s2.2).toNatClampNeg)).bind (fun r115 : Int64 => ((X9_narrowHigh s2.1 5 a0 s2.2 r115 (((gM_rest s2.1) a0.toNatClampNeg) ||| r80)).bind (fun r120 : MW => (X9_tight_J141 a0 r120 s2.2 ((gM_coef s2.1) ((12 * a0) + s2.2).toNatClampNeg) (((gM_right s2.1) a0.toNatClampNeg) - r64) (((gM_rest s2.1) a0.toNatClampNeg) ||| r96))))))))) else none))) else none))) else none))) else none) else none))))))))
def X9_tight (w : MW) (a0 : Int32) : Option (MW) := ((iter (X9_tight_L2 a0) 5000 (w, 0)).bind (fun z2 : (MW) => (some z2)))
set_option maxRecDepth 100000 in
set_option maxHeartbeats 4000000 in
theorem ct_X9_tight (l : Launch) (g : wG) (ad : Nat → Nat) (w : MW) (a0 : Int32) (rr : MW) (hf : X9_tight w a0 = some rr) : MetN l g yX9_tight cX9_tight 11 none (k2_rm 2 52) [.ref (ad 0), .int a0] (mcells g ad w) (mcells g ad rr) none := by
  refine MetN.of2 [(0, .ref (ad 0)), (1, .int a0)] rfl (by decide +kernel) (Nat.le_of_ble_eq_true rfl) ?_
  intro p e s m args below meth c hG hr
  unfold X9_tight at hf
  refine v_iconst hG (v := 0) (by decide) dX9_tight_0 ?_
  refine v_istore_n hG [(2, _), (0, _), (1, _)] dX9_tight_1 rfl (by decide) rfl ?_
  refine v_sub [(0, _), (1, _), (2, _)] [1, 2, 0] rfl ?_
  obtain ⟨z2, hlz2, hf⟩ := bd_some hf
  refine loop_v (step := X9_tight_L2 a0) (fun s2 : MW × Int32 => V p l e (k2_rm 2 52) s m args below meth c (inW (mcells g ad w)) (EN below args s g (mcells g ad w) (mcells g ad rr) none) g 11 (mcells g ad s2.1) 0 0 2 [(0, .ref (ad 0)), (1, .int a0), (2, .int s2.2)] []) (fun z2_q : (MW) => V p l e (k2_rm 2 52) s m args below meth c (inW (mcells g ad w)) (EN below args s g (mcells g ad w) (mcells g ad rr) none) g 11 (mcells g ad z2_q) 0 0 206 [] []) ?_ 5000 (w, 0) z2 hlz2 ?_
  · intro s2 rL hf hin hout
    unfold X9_tight_L2 at hf
    have j200 : ∀ (j200_0 : MW) (j200_1 : Int32), X9_tight_J200 j200_0 j200_1 = some rL → V p l e (k2_rm 2 52) s m args below meth c (inW (mcells g ad w)) (EN below args s g (mcells g ad w) (mcells g ad rr) none) g 11 (mcells g ad j200_0) 0 0 200 [(0, .ref (ad 0)), (1, .int a0), (2, .int j200_1)] [] := by
      intro j200_0 j200_1 hf
      unfold X9_tight_J200 at hf
      refine v_iinc hG 2 (v := j200_1 + 1) [(2, _), (0, _), (1, _)] dX9_tight_200 rfl rfl (by decide) rfl ?_
      refine v_goto hG 2 dX9_tight_203 rfl ?_
      refine v_sub [(0, _), (1, _), (2, _)] [1, 2, 0] rfl ?_
      exact hin _ (Option.some.inj hf).symm
    have j175 : ∀ (j175_0 : MW) (j175_1 : Int32) (j175_2 : Int64) (j175_3 : Int64) (j175_4 : Int32), X9_tight_J175 a0 j175_0 j175_1 j175_2 j175_3 j175_4 = some rL → V p l e (k2_rm 2 52) s m args below meth c (inW (mcells g ad w)) (EN below args s g (mcells g ad w) (mcells g ad rr) none) g 11 (mcells g ad j175_0) 0 0 175 [(0, .ref (ad 0)), (1, .int a0), (2, .int j175_1), (3, .long j175_2), (7, .long j175_3), (10, .int j175_4)] [] := by
      intro j175_0 j175_1 j175_2 j175_3 j175_4 hf
      unfold X9_tight_J175 at hf
      refine v_aload_n hG 0 rfl rfl dX9_tight_175 ?_
      refine m_g_0_16 hG wk_1082 dX9_tight_176 ?_
      refine v_iload_n hG 1 rfl rfl dX9_tight_179 ?_
      refine m_l_13 hG dX9_tight_180 hf (fun hf => ?_)
      refine v_iconst hG (v := 1) (by decide) dX9_tight_181 ?_
      refine v_icmp_ne hG 200 dX9_tight_182 rfl hf (fun hf => ?_) (fun hf => ?_)
      · refine v_sub [(0, _), (1, _), (2, _)] [0, 1, 2] rfl ?_
        exact j200 j175_0 j175_1 hf
      · refine v_aload_n hG 0 rfl rfl dX9_tight_185 ?_
        refine v_iconst hG (v := 5) (by decide) dX9_tight_186 ?_
        refine v_iload_n hG 1 rfl rfl dX9_tight_187 ?_
        refine v_iload_n hG 2 rfl rfl dX9_tight_188 ?_
        refine v_lload hG 4 rfl dX9_tight_189 ?_
        refine v_lload_n hG 3 rfl rfl dX9_tight_191 ?_
        obtain ⟨r192, hr192, hf⟩ := bd_some hf
        refine v_callP hG (st := [.int j175_1, .int a0, .int 5, .ref (ad 0)]) (ct_X9_down l g j175_3 j175_2 r192 hr192) sw_X9_down wk_1300 ⟨rfl, rfl, Nat.le_of_ble_eq_true rfl, Nat.le_of_ble_eq_true rfl⟩ ⟨Nat.le_of_ble_eq_true rfl, Nat.le_of_ble_eq_true rfl⟩ rfl rfl (Nat.le_of_ble_eq_true rfl) dX9_tight_192 ?_
        refine (show V p l e (k2_rm 2 52) s m args below meth c (inW (mcells g ad w)) (EN below args s g (mcells g ad w) (mcells g ad rr) none) g 11 (mcells g ad j175_0) 0 0 195 [(0, .ref (ad 0)), (1, .int a0), (2, .int j175_1), (3, .long j175_2), (7, .long j175_3), (10, .int j175_4)] [.long r192, .int j175_1, .int a0, .int 5, .ref (ad 0)] from ?_)
        refine v_iload hG 5 rfl dX9_tight_195 ?_
        obtain ⟨r197, hr197, hf⟩ := bd_some hf
        refine v_callV hG (st := []) 0 9 (ct_X9_narrowHigh l g ad j175_0 5 a0 j175_1 r192 j175_4 r197 hr197) iw_X9_narrowHigh wk_1314 rfl rfl ⟨rfl, rfl, Nat.le_of_ble_eq_true rfl, Nat.le_of_ble_eq_true rfl⟩ ⟨Nat.le_of_ble_eq_true rfl, Nat.le_of_ble_eq_true rfl⟩ rfl rfl (Nat.le_of_ble_eq_true rfl) (mcells_fst _ _ _ _) dX9_tight_197 ?_
        refine (show V p l e (k2_rm 2 52) s m args below meth c (inW (mcells g ad w)) (EN below args s g (mcells g ad w) (mcells g ad rr) none) g 11 (mcells g ad r197) 0 0 200 [(0, .ref (ad 0)), (1, .int a0), (2, .int j175_1), (3, .long j175_2), (7, .long j175_3), (10, .int j175_4)] [] from ?_)
        refine v_sub [(0, _), (1, _), (2, _)] [0, 1, 2] rfl ?_
        exact j200 r197 j175_1 hf
    have j141 : ∀ (j141_0 : MW) (j141_1 : Int32) (j141_2 : Int64) (j141_3 : Int64) (j141_4 : Int32), X9_tight_J141 a0 j141_0 j141_1 j141_2 j141_3 j141_4 = some rL → V p l e (k2_rm 2 52) s m args below meth c (inW (mcells g ad w)) (EN below args s g (mcells g ad w) (mcells g ad rr) none) g 11 (mcells g ad j141_0) 0 0 141 [(0, .ref (ad 0)), (1, .int a0), (2, .int j141_1), (3, .long j141_2), (7, .long j141_3), (10, .int j141_4)] [] := by
      intro j141_0 j141_1 j141_2 j141_3 j141_4 hf
      unfold X9_tight_J141 at hf
      refine v_aload_n hG 0 rfl rfl dX9_tight_141 ?_
      refine m_g_0_16 hG wk_1082 dX9_tight_142 ?_
      refine v_iload_n hG 1 rfl rfl dX9_tight_145 ?_
      refine m_l_13 hG dX9_tight_146 hf (fun hf => ?_)
      refine v_iconst hG (v := 1) (by decide) dX9_tight_147 ?_
      refine v_icmp_ne hG 175 dX9_tight_148 rfl hf (fun hf => ?_) (fun hf => ?_)
      · exact j175 j141_0 j141_1 j141_2 j141_3 j141_4 hf
      · refine v_lload_n hG 3 rfl rfl dX9_tight_151 ?_
        refine v_lconst hG (v := 0) (by decide) dX9_tight_152 ?_
        refine v_lcmp_le hG 175 dX9_tight_153 dX9_tight_154 rfl hf (fun hf => ?_) (fun hf => ?_)
        · exact j175 j141_0 j141_1 j141_2 j141_3 j141_4 hf
        · refine v_aload_n hG 0 rfl rfl dX9_tight_157 ?_
          refine v_iconst hG (v := 5) (by decide) dX9_tight_158 ?_
          refine v_iload_n hG 1 rfl rfl dX9_tight_159 ?_
          refine v_iload_n hG 2 rfl rfl dX9_tight_160 ?_
          refine v_lload hG 4 rfl dX9_tight_161 ?_
          refine v_lload_n hG 3 rfl rfl dX9_tight_163 ?_
          obtain ⟨r164, hr164, hf⟩ := bd_some hf
          refine v_callP hG (st := [.int j141_1, .int a0, .int 5, .ref (ad 0)]) (ct_X9_up l g j141_3 j141_2 r164 hr164) sw_X9_up wk_1307 ⟨rfl, rfl, Nat.le_of_ble_eq_true rfl, Nat.le_of_ble_eq_true rfl⟩ ⟨Nat.le_of_ble_eq_true rfl, Nat.le_of_ble_eq_true rfl⟩ rfl rfl (Nat.le_of_ble_eq_true rfl) dX9_tight_164 ?_
          refine (show V p l e (k2_rm 2 52) s m args below meth c (inW (mcells g ad w)) (EN below args s g (mcells g ad w) (mcells g ad rr) none) g 11 (mcells g ad j141_0) 0 0 167 [(0, .ref (ad 0)), (1, .int a0), (2, .int j141_1), (3, .long j141_2), (7, .long j141_3), (10, .int j141_4)] [.long r164, .int j141_1, .int a0, .int 5, .ref (ad 0)] from ?_)
          refine v_iload hG 5 rfl dX9_tight_167 ?_
          obtain ⟨r169, hr169, hf⟩ := bd_some hf
          refine v_callV hG (st := []) 0 9 (ct_X9_narrowLow l g ad j141_0 5 a0 j141_1 r164 j141_4 r169 hr169) iw_X9_narrowLow wk_1310 rfl rfl ⟨rfl, rfl, Nat.le_of_ble_eq_true rfl, Nat.le_of_ble_eq_true rfl⟩ ⟨Nat.le_of_ble_eq_true rfl, Nat.le_of_ble_eq_true rfl⟩ rfl rfl (Nat.le_of_ble_eq_true rfl) (mcells_fst _ _ _ _) dX9_tight_169 ?_
          refine (show V p l e (k2_rm 2 52) s m args below meth c (inW (mcells g ad w)) (EN below args s g (mcells g ad w) (mcells g ad rr) none) g 11 (mcells g ad r169) 0 0 172 [(0, .ref (ad 0)), (1, .int a0), (2, .int j141_1), (3, .long j141_2), (7, .long j141_3), (10, .int j141_4)] [] from ?_)
          refine v_goto hG 200 dX9_tight_172 rfl ?_
          refine v_sub [(0, _), (1, _), (2, _)] [0, 1, 2] rfl ?_
          exact j200 r169 j141_1 hf
    refine v_iload_n hG 2 rfl rfl dX9_tight_2 ?_
    refine v_aload_n hG 0 rfl rfl dX9_tight_3 ?_
    refine m_g_0_1 hG wk_1067 dX9_tight_4 ?_
    refine v_icmp_ge hG 206 dX9_tight_7 rfl hf (fun hf => ?_) (fun hf => ?_)
    · refine v_sub [] [] rfl ?_
      exact hout _ (Option.some.inj hf).symm
    · refine v_aload_n hG 0 rfl rfl dX9_tight_10 ?_
      obtain ⟨r11, hr11, hf⟩ := bd_some hf
      refine v_callV hG (st := []) 0 9 (ct_X9_goesOn l g ad s2.1  r11 hr11) iw_X9_goesOn wk_1256 rfl rfl ⟨rfl, rfl, Nat.le_of_ble_eq_true rfl, Nat.le_of_ble_eq_true rfl⟩ ⟨Nat.le_of_ble_eq_true rfl, Nat.le_of_ble_eq_true rfl⟩ rfl rfl (Nat.le_of_ble_eq_true rfl) (mcells_fst _ _ _ _) dX9_tight_11 ?_
      refine (show V p l e (k2_rm 2 52) s m args below meth c (inW (mcells g ad w)) (EN below args s g (mcells g ad w) (mcells g ad rr) none) g 11 (mcells g ad s2.1) 0 0 14 [(0, .ref (ad 0)), (1, .int a0), (2, .int s2.2)] [.int r11] from ?_)
      refine v_if_eq hG 206 dX9_tight_14 rfl hf (fun hf => ?_) (fun hf => ?_)
      · refine v_sub [] [] rfl ?_
        exact hout _ (Option.some.inj hf).symm
      · refine v_aload_n hG 0 rfl rfl dX9_tight_17 ?_
        refine v_iload_n hG 1 rfl rfl dX9_tight_18 ?_
        refine v_iload_n hG 2 rfl rfl dX9_tight_19 ?_
        obtain ⟨r20, hr20, hf⟩ := bd_some hf
        refine v_callV hG (st := []) 0 9 (ct_X9_isTerm l g ad s2.1 a0 s2.2 r20 hr20) iw_X9_isTerm wk_1276 rfl rfl ⟨rfl, rfl, Nat.le_of_ble_eq_true rfl, Nat.le_of_ble_eq_true rfl⟩ ⟨Nat.le_of_ble_eq_true rfl, Nat.le_of_ble_eq_true rfl⟩ rfl rfl (Nat.le_of_ble_eq_true rfl) (mcells_fst _ _ _ _) dX9_tight_20 ?_
        refine (show V p l e (k2_rm 2 52) s m args below meth c (inW (mcells g ad w)) (EN below args s g (mcells g ad w) (mcells g ad rr) none) g 11 (mcells g ad s2.1) 0 0 23 [(0, .ref (ad 0)), (1, .int a0), (2, .int s2.2)] [.int r20] from ?_)
        refine v_if_eq hG 200 dX9_tight_23 rfl hf (fun hf => ?_) (fun hf => ?_)
        · exact j200 s2.1 s2.2 hf
        · refine v_aload_n hG 0 rfl rfl dX9_tight_26 ?_
          refine m_g_0_20 hG wk_1086 dX9_tight_27 ?_
          refine v_bipush hG (v := 12) (by decide) dX9_tight_30 ?_
          refine v_iload_n hG 1 rfl rfl dX9_tight_32 ?_
          refine v_imul hG dX9_tight_33 ?_
          refine v_iload_n hG 2 rfl rfl dX9_tight_34 ?_
          refine v_iadd hG dX9_tight_35 ?_
          refine m_l_17 hG dX9_tight_36 hf (fun hf => ?_)
          refine v_lstore_n hG [(3, _), (0, _), (1, _), (2, _)] dX9_tight_37 rfl (by decide) rfl ?_
          refine v_aload_n hG 1 rfl rfl dX9_tight_38 ?_
          refine m_g_0_18 hG wk_1084 dX9_tight_39 ?_
          refine v_iload_n hG 2 rfl rfl dX9_tight_42 ?_
          refine m_l_15 hG dX9_tight_43 hf (fun hf => ?_)
          refine v_aload_n hG 1 rfl rfl dX9_tight_44 ?_
          refine v_iload_n hG 2 rfl rfl dX9_tight_45 ?_
          refine v_iload_n hG 3 rfl rfl dX9_tight_46 ?_
          refine v_iconst hG (v := 0) (by decide) dX9_tight_47 ?_
          obtain ⟨r48, hr48, hf⟩ := bd_some hf
          refine v_callV hG (st := [.long ((gM_right s2.1) a0.toNatClampNeg)]) 0 9 (ct_X9_end l g ad s2.1 a0 s2.2 0 r48 hr48) iw_X9_end wk_1322 rfl rfl ⟨rfl, rfl, Nat.le_of_ble_eq_true rfl, Nat.le_of_ble_eq_true rfl⟩ ⟨Nat.le_of_ble_eq_true rfl, Nat.le_of_ble_eq_true rfl⟩ rfl rfl (Nat.le_of_ble_eq_true rfl) (mcells_fst _ _ _ _) dX9_tight_48 ?_
          refine (show V p l e (k2_rm 2 52) s m args below meth c (inW (mcells g ad w)) (EN below args s g (mcells g ad w) (mcells g ad rr) none) g 11 (mcells g ad s2.1) 0 0 51 [(3, .long ((gM_coef s2.1) ((12 * a0) + s2.2).toNatClampNeg)), (0, .ref (ad 0)), (1, .int a0), (2, .int s2.2)] [.long r48, .long ((gM_right s2.1) a0.toNatClampNeg)] from ?_)
          refine v_lsub hG dX9_tight_51 ?_
          refine v_lstore hG [(5, _), (3, _), (0, _), (1, _), (2, _)] dX9_tight_52 (by decide) rfl ?_
          refine v_aload_n hG 2 rfl rfl dX9_tight_54 ?_
          refine m_g_0_18 hG wk_1084 dX9_tight_55 ?_
          refine v_iload_n hG 3 rfl rfl dX9_tight_58 ?_
          refine m_l_15 hG dX9_tight_59 hf (fun hf => ?_)
          refine v_aload_n hG 2 rfl rfl dX9_tight_60 ?_
          refine v_iload_n hG 3 rfl rfl dX9_tight_61 ?_
          refine v_iload_n hG 4 rfl rfl dX9_tight_62 ?_
          refine v_iconst hG (v := 1) (by decide) dX9_tight_63 ?_
          obtain ⟨r64, hr64, hf⟩ := bd_some hf
          refine v_callV hG (st := [.long ((gM_right s2.1) a0.toNatClampNeg)]) 0 9 (ct_X9_end l g ad s2.1 a0 s2.2 1 r64 hr64) iw_X9_end wk_1322 rfl rfl ⟨rfl, rfl, Nat.le_of_ble_eq_true rfl, Nat.le_of_ble_eq_true rfl⟩ ⟨Nat.le_of_ble_eq_true rfl, Nat.le_of_ble_eq_true rfl⟩ rfl rfl (Nat.le_of_ble_eq_true rfl) (mcells_fst _ _ _ _) dX9_tight_64 ?_
          refine (show V p l e (k2_rm 2 52) s m args below meth c (inW (mcells g ad w)) (EN below args s g (mcells g ad w) (mcells g ad rr) none) g 11 (mcells g ad s2.1) 0 0 67 [(5, .long (((gM_right s2.1) a0.toNatClampNeg) - r48)), (3, .long ((gM_coef s2.1) ((12 * a0) + s2.2).toNatClampNeg)), (0, .ref (ad 0)), (1, .int a0), (2, .int s2.2)] [.long r64, .long ((gM_right s2.1) a0.toNatClampNeg)] from ?_)
          refine v_lsub hG dX9_tight_67 ?_
          refine v_lstore hG [(7, _), (5, _), (3, _), (0, _), (1, _), (2, _)] dX9_tight_68 (by decide) rfl ?_
          refine v_aload_n hG 3 rfl rfl dX9_tight_70 ?_
          refine m_g_0_19 hG wk_1085 dX9_tight_71 ?_
          refine v_iload_n hG 4 rfl rfl dX9_tight_74 ?_
          refine m_l_16 hG dX9_tight_75 hf (fun hf => ?_)
          refine v_aload_n hG 3 rfl rfl dX9_tight_76 ?_
          refine v_iload_n hG 4 rfl rfl dX9_tight_77 ?_
          refine v_iload_n hG 5 rfl rfl dX9_tight_78 ?_
          refine v_iconst hG (v := 0) (by decide) dX9_tight_79 ?_
          obtain ⟨r80, hr80, hf⟩ := bd_some hf
          refine v_callV hG (st := [.int ((gM_rest s2.1) a0.toNatClampNeg)]) 0 9 (ct_X9_from l g ad s2.1 a0 s2.2 0 r80 hr80) iw_X9_from wk_1326 rfl rfl ⟨rfl, rfl, Nat.le_of_ble_eq_true rfl, Nat.le_of_ble_eq_true rfl⟩ ⟨Nat.le_of_ble_eq_true rfl, Nat.le_of_ble_eq_true rfl⟩ rfl rfl (Nat.le_of_ble_eq_true rfl) (mcells_fst _ _ _ _) dX9_tight_80 ?_
          refine (show V p l e (k2_rm 2 52) s m args below meth c (inW (mcells g ad w)) (EN below args s g (mcells g ad w) (mcells g ad rr) none) g 11 (mcells g ad s2.1) 0 0 83 [(7, .long (((gM_right s2.1) a0.toNatClampNeg) - r64)), (5, .long (((gM_right s2.1) a0.toNatClampNeg) - r48)), (3, .long ((gM_coef s2.1) ((12 * a0) + s2.2).toNatClampNeg)), (0, .ref (ad 0)), (1, .int a0), (2, .int s2.2)] [.int r80, .int ((gM_rest s2.1) a0.toNatClampNeg)] from ?_)
          refine v_ior hG dX9_tight_83 ?_
          refine v_istore hG [(9, _), (7, _), (5, _), (3, _), (0, _), (1, _), (2, _)] dX9_tight_84 (by decide) rfl ?_
          refine v_aload_n hG 4 rfl rfl dX9_tight_86 ?_
          refine m_g_0_19 hG wk_1085 dX9_tight_87 ?_
          refine v_iload_n hG 5 rfl rfl dX9_tight_90 ?_
          refine m_l_16 hG dX9_tight_91 hf (fun hf => ?_)
          refine v_aload_n hG 4 rfl rfl dX9_tight_92 ?_
          refine v_iload_n hG 5 rfl rfl dX9_tight_93 ?_
          refine v_iload_n hG 6 rfl rfl dX9_tight_94 ?_
          refine v_iconst hG (v := 1) (by decide) dX9_tight_95 ?_
          obtain ⟨r96, hr96, hf⟩ := bd_some hf
          refine v_callV hG (st := [.int ((gM_rest s2.1) a0.toNatClampNeg)]) 0 9 (ct_X9_from l g ad s2.1 a0 s2.2 1 r96 hr96) iw_X9_from wk_1326 rfl rfl ⟨rfl, rfl, Nat.le_of_ble_eq_true rfl, Nat.le_of_ble_eq_true rfl⟩ ⟨Nat.le_of_ble_eq_true rfl, Nat.le_of_ble_eq_true rfl⟩ rfl rfl (Nat.le_of_ble_eq_true rfl) (mcells_fst _ _ _ _) dX9_tight_96 ?_
          refine (show V p l e (k2_rm 2 52) s m args below meth c (inW (mcells g ad w)) (EN below args s g (mcells g ad w) (mcells g ad rr) none) g 11 (mcells g ad s2.1) 0 0 99 [(9, .int (((gM_rest s2.1) a0.toNatClampNeg) ||| r80)), (7, .long (((gM_right s2.1) a0.toNatClampNeg) - r64)), (5, .long (((gM_right s2.1) a0.toNatClampNeg) - r48)), (3, .long ((gM_coef s2.1) ((12 * a0) + s2.2).toNatClampNeg)), (0, .ref (ad 0)), (1, .int a0), (2, .int s2.2)] [.int r96, .int ((gM_rest s2.1) a0.toNatClampNeg)] from ?_)
          refine v_ior hG dX9_tight_99 ?_
          refine v_istore hG [(10, _), (9, _), (7, _), (5, _), (3, _), (0, _), (1, _), (2, _)] dX9_tight_100 (by decide) rfl ?_
          refine v_lload_n hG 4 rfl rfl dX9_tight_102 ?_
          refine v_lconst hG (v := 0) (by decide) dX9_tight_103 ?_
          refine v_lcmp_le hG 126 dX9_tight_104 dX9_tight_105 rfl hf (fun hf => ?_) (fun hf => ?_)
          · refine v_aload_n hG 5 rfl rfl dX9_tight_126 ?_
            refine v_iconst hG (v := 5) (by decide) dX9_tight_127 ?_
            refine v_iload_n hG 6 rfl rfl dX9_tight_128 ?_
            refine v_iload_n hG 7 rfl rfl dX9_tight_129 ?_
            refine v_lload hG 3 rfl dX9_tight_130 ?_
            refine v_lload_n hG 4 rfl rfl dX9_tight_132 ?_
            obtain ⟨r133, hr133, hf⟩ := bd_some hf
            refine v_callP hG (st := [.int s2.2, .int a0, .int 5, .ref (ad 0)]) (ct_X9_up l g (((gM_right s2.1) a0.toNatClampNeg) - r48) ((gM_coef s2.1) ((12 * a0) + s2.2).toNatClampNeg) r133 hr133) sw_X9_up wk_1307 ⟨rfl, rfl, Nat.le_of_ble_eq_true rfl, Nat.le_of_ble_eq_true rfl⟩ ⟨Nat.le_of_ble_eq_true rfl, Nat.le_of_ble_eq_true rfl⟩ rfl rfl (Nat.le_of_ble_eq_true rfl) dX9_tight_133 ?_
            refine (show V p l e (k2_rm 2 52) s m args below meth c (inW (mcells g ad w)) (EN below args s g (mcells g ad w) (mcells g ad rr) none) g 11 (mcells g ad s2.1) 0 0 136 [(10, .int (((gM_rest s2.1) a0.toNatClampNeg) ||| r96)), (9, .int (((gM_rest s2.1) a0.toNatClampNeg) ||| r80)), (7, .long (((gM_right s2.1) a0.toNatClampNeg) - r64)), (5, .long (((gM_right s2.1) a0.toNatClampNeg) - r48)), (3, .long ((gM_coef s2.1) ((12 * a0) + s2.2).toNatClampNeg)), (0, .ref (ad 0)), (1, .int a0), (2, .int s2.2)] [.long r133, .int s2.2, .int a0, .int 5, .ref (ad 0)] from ?_)
            refine v_iload hG 1 rfl dX9_tight_136 ?_
            obtain ⟨r138, hr138, hf⟩ := bd_some hf
            refine v_callV hG (st := []) 0 9 (ct_X9_narrowLow l g ad s2.1 5 a0 s2.2 r133 (((gM_rest s2.1) a0.toNatClampNeg) ||| r80) r138 hr138) iw_X9_narrowLow wk_1310 rfl rfl ⟨rfl, rfl, Nat.le_of_ble_eq_true rfl, Nat.le_of_ble_eq_true rfl⟩ ⟨Nat.le_of_ble_eq_true rfl, Nat.le_of_ble_eq_true rfl⟩ rfl rfl (Nat.le_of_ble_eq_true rfl) (mcells_fst _ _ _ _) dX9_tight_138 ?_
            refine (show V p l e (k2_rm 2 52) s m args below meth c (inW (mcells g ad w)) (EN below args s g (mcells g ad w) (mcells g ad rr) none) g 11 (mcells g ad r138) 0 0 141 [(10, .int (((gM_rest s2.1) a0.toNatClampNeg) ||| r96)), (9, .int (((gM_rest s2.1) a0.toNatClampNeg) ||| r80)), (7, .long (((gM_right s2.1) a0.toNatClampNeg) - r64)), (5, .long (((gM_right s2.1) a0.toNatClampNeg) - r48)), (3, .long ((gM_coef s2.1) ((12 * a0) + s2.2).toNatClampNeg)), (0, .ref (ad 0)), (1, .int a0), (2, .int s2.2)] [] from ?_)
            refine v_sub [(0, _), (1, _), (2, _), (3, _), (7, _), (10, _)] [5, 6, 7, 4, 2, 0] rfl ?_
            exact j141 r138 s2.2 ((gM_coef s2.1) ((12 * a0) + s2.2).toNatClampNeg) (((gM_right s2.1) a0.toNatClampNeg) - r64) (((gM_rest s2.1) a0.toNatClampNeg) ||| r96) hf
          · refine v_aload_n hG 5 rfl rfl dX9_tight_108 ?_
            refine v_iconst hG (v := 5) (by decide) dX9_tight_109 ?_
            refine v_iload_n hG 6 rfl rfl dX9_tight_110 ?_
            refine v_iload_n hG 7 rfl rfl dX9_tight_111 ?_
            refine v_lload hG 3 rfl dX9_tight_112 ?_
            refine v_lload_n hG 4 rfl rfl dX9_tight_114 ?_
            obtain ⟨r115, hr115, hf⟩ := bd_some hf
            refine v_callP hG (st := [.int s2.2, .int a0, .int 5, .ref (ad 0)]) (ct_X9_down l g (((gM_right s2.1) a0.toNatClampNeg) - r48) ((gM_coef s2.1) ((12 * a0) + s2.2).toNatClampNeg) r115 hr115) sw_X9_down wk_1300 ⟨rfl, rfl, Nat.le_of_ble_eq_true rfl, Nat.le_of_ble_eq_true rfl⟩ ⟨Nat.le_of_ble_eq_true rfl, Nat.le_of_ble_eq_true rfl⟩ rfl rfl (Nat.le_of_ble_eq_true rfl) dX9_tight_115 ?_
            refine (show V p l e (k2_rm 2 52) s m args below meth c (inW (mcells g ad w)) (EN below args s g (mcells g ad w) (mcells g ad rr) none) g 11 (mcells g ad s2.1) 0 0 118 [(10, .int (((gM_rest s2.1) a0.toNatClampNeg) ||| r96)), (9, .int (((gM_rest s2.1) a0.toNatClampNeg) ||| r80)), (7, .long (((gM_right s2.1) a0.toNatClampNeg) - r64)), (5, .long (((gM_right s2.1) a0.toNatClampNeg) - r48)), (3, .long ((gM_coef s2.1) ((12 * a0) + s2.2).toNatClampNeg)), (0, .ref (ad 0)), (1, .int a0), (2, .int s2.2)] [.long r115, .int s2.2, .int a0, .int 5, .ref (ad 0)] from ?_)
            refine v_iload hG 1 rfl dX9_tight_118 ?_
            obtain ⟨r120, hr120, hf⟩ := bd_some hf
            refine v_callV hG (st := []) 0 9 (ct_X9_narrowHigh l g ad s2.1 5 a0 s2.2 r115 (((gM_rest s2.1) a0.toNatClampNeg) ||| r80) r120 hr120) iw_X9_narrowHigh wk_1314 rfl rfl ⟨rfl, rfl, Nat.le_of_ble_eq_true rfl, Nat.le_of_ble_eq_true rfl⟩ ⟨Nat.le_of_ble_eq_true rfl, Nat.le_of_ble_eq_true rfl⟩ rfl rfl (Nat.le_of_ble_eq_true rfl) (mcells_fst _ _ _ _) dX9_tight_120 ?_
            refine (show V p l e (k2_rm 2 52) s m args below meth c (inW (mcells g ad w)) (EN below args s g (mcells g ad w) (mcells g ad rr) none) g 11 (mcells g ad r120) 0 0 123 [(10, .int (((gM_rest s2.1) a0.toNatClampNeg) ||| r96)), (9, .int (((gM_rest s2.1) a0.toNatClampNeg) ||| r80)), (7, .long (((gM_right s2.1) a0.toNatClampNeg) - r64)), (5, .long (((gM_right s2.1) a0.toNatClampNeg) - r48)), (3, .long ((gM_coef s2.1) ((12 * a0) + s2.2).toNatClampNeg)), (0, .ref (ad 0)), (1, .int a0), (2, .int s2.2)] [] from ?_)
            refine v_goto hG 141 dX9_tight_123 rfl ?_
            refine v_sub [(0, _), (1, _), (2, _), (3, _), (7, _), (10, _)] [5, 6, 7, 4, 2, 0] rfl ?_
            exact j141 r120 s2.2 ((gM_coef s2.1) ((12 * a0) + s2.2).toNatClampNeg) (((gM_right s2.1) a0.toNatClampNeg) - r64) (((gM_rest s2.1) a0.toNatClampNeg) ||| r96) hf
  · show V p l e (k2_rm 2 52) s m args below meth c (inW (mcells g ad w)) (EN below args s g (mcells g ad w) (mcells g ad rr) none) g 11 (mcells g ad z2) 0 0 206 [] []
    cases hf
    exact v_vret hG hr dX9_tight_206
def X9_fix_J94  (j94_0 : MW) (j94_1 : Int32) : Option ((MW × Int32) ⊕ ((MW))) := (some (.inl (j94_0, (j94_1 + 1))))
def X9_fix_L18 (a0 : Int32) (s18 : MW × Int32) : Option ((MW × Int32) ⊕ ((MW))) := (if (gM_rows s18.1) ≤ s18.2 then (some (.inr s18.1)) else (if inR s18.2 12 = true then (if ((gM_gone s18.1) s18.2.toNatClampNeg) = 0 then ((X9_isTerm s18.1 s18.2 a0).bind (fun r38 : Int32 => (if r38 = 0 then (X9_fix_J94 s18.1 s18.2) else (if inR s18.2 12 = true then (if inR ((12 * s18.2) + a0) 144 = true then (if inR a0 12 = true then (if inR s18.2 12 = true then (bnd (sM_right s18.1 (vp_updL (gM_right s18.1) s18.2.toNatClampNeg (((gM_right s18.1) s18.2.toNatClampNeg) - (((gM_coef s18.1) ((12 * s18.2) + a0).toNatClampNeg) * (((gM_low s18.1) a0.toNatClampNeg).toInt64))))) (fun w71 : MW => (if inR s18.2 12 = true then (if inR a0 12 = true then (if inR a0 12 = true then (if inR s18.2 12 = true then (bnd (sM_rest w71 (upd (gM_rest w71) s18.2.toNatClampNeg (((gM_rest w71) s18.2.toNatClampNeg) ||| (((gM_lowRest w71) a0.toNatClampNeg) ||| ((gM_highRest w71) a0.toNatClampNeg))))) (fun w93 : MW => (X9_fix_J94 w93 s18.2))) else none) else none) else none) else none))) else none) else none) else none) else none)))) else (X9_fix_J94 s18.1 s18.2)) else none))
def X9_fix (w : MW) (a0 : Int32) : Option (MW) := (if inR a0 12 = true then (if inR a0 12 = true then (if ((gM_low w) a0.toNatClampNeg) = ((gM_high w) a0.toNatClampNeg) then ((iter (X9_fix_L18 a0) 5000 (w, 0)).bind (fun z18 : (MW) => (if inR a0 12 = true then (if inR a0 12 = true then (bnd (sM_offset z18 ((gM_offset z18) + (((gM_cost z18) a0.toNatClampNeg) * (((gM_low z18) a0.toNatClampNeg).toInt64)))) (fun w120 : MW => (if inR a0 12 = true then (bnd (sM_state w120 (upd (gM_state w120) a0.toNatClampNeg 1)) (fun w129 : MW => (if inR a0 12 = true then ((X9_act w129 6 (-1) a0 4 (((gM_low w129) a0.toNatClampNeg).toInt64)).bind (fun r143 : MW => (some r143))) else none))) else none))) else none) else none))) else (some w)) else none) else none)
set_option maxRecDepth 100000 in
set_option maxHeartbeats 4000000 in
theorem ct_X9_fix (l : Launch) (g : wG) (ad : Nat → Nat) (w : MW) (a0 : Int32) (rr : MW) (hf : X9_fix w a0 = some rr) : MetN l g yX9_fix cX9_fix 3 none (k2_rm 1 26) [.ref (ad 0), .int a0] (mcells g ad w) (mcells g ad rr) none := by
  refine MetN.of2 [(0, .ref (ad 0)), (1, .int a0)] rfl (by decide +kernel) (Nat.le_of_ble_eq_true rfl) ?_
  intro p e s m args below meth c hG hr
  unfold X9_fix at hf
  refine v_aload_n hG 0 rfl rfl dX9_fix_0 ?_
  refine m_g_0_11 hG wk_1077 dX9_fix_1 ?_
  refine v_iload_n hG 1 rfl rfl dX9_fix_4 ?_
  refine m_l_8 hG dX9_fix_5 hf (fun hf => ?_)
  refine v_aload_n hG 0 rfl rfl dX9_fix_6 ?_
  refine m_g_0_12 hG wk_1078 dX9_fix_7 ?_
  refine v_iload_n hG 1 rfl rfl dX9_fix_10 ?_
  refine m_l_9 hG dX9_fix_11 hf (fun hf => ?_)
  refine v_icmp_eq hG 16 dX9_fix_12 rfl hf (fun hf => ?_) (fun hf => ?_)
  · refine v_iconst hG (v := 0) (by decide) dX9_fix_16 ?_
    refine v_istore_n hG [(2, _), (0, _), (1, _)] dX9_fix_17 rfl (by decide) rfl ?_
    refine v_sub [(0, _), (1, _), (2, _)] [1, 2, 0] rfl ?_
    obtain ⟨z18, hlz18, hf⟩ := bd_some hf
    refine loop_v (step := X9_fix_L18 a0) (fun s18 : MW × Int32 => V p l e (k2_rm 1 26) s m args below meth c (inW (mcells g ad w)) (EN below args s g (mcells g ad w) (mcells g ad rr) none) g 3 (mcells g ad s18.1) 0 0 18 [(0, .ref (ad 0)), (1, .int a0), (2, .int s18.2)] []) (fun z18_q : (MW) => V p l e (k2_rm 1 26) s m args below meth c (inW (mcells g ad w)) (EN below args s g (mcells g ad w) (mcells g ad rr) none) g 3 (mcells g ad z18_q) 0 0 100 [(0, .ref (ad 0)), (1, .int a0)] []) ?_ 5000 (w, 0) z18 hlz18 ?_
    · intro s18 rL hf hin hout
      unfold X9_fix_L18 at hf
      have j94 : ∀ (j94_0 : MW) (j94_1 : Int32), X9_fix_J94 j94_0 j94_1 = some rL → V p l e (k2_rm 1 26) s m args below meth c (inW (mcells g ad w)) (EN below args s g (mcells g ad w) (mcells g ad rr) none) g 3 (mcells g ad j94_0) 0 0 94 [(0, .ref (ad 0)), (1, .int a0), (2, .int j94_1)] [] := by
        intro j94_0 j94_1 hf
        unfold X9_fix_J94 at hf
        refine v_iinc hG 2 (v := j94_1 + 1) [(2, _), (0, _), (1, _)] dX9_fix_94 rfl rfl (by decide) rfl ?_
        refine v_goto hG 18 dX9_fix_97 rfl ?_
        refine v_sub [(0, _), (1, _), (2, _)] [1, 2, 0] rfl ?_
        exact hin _ (Option.some.inj hf).symm
      refine v_iload_n hG 2 rfl rfl dX9_fix_18 ?_
      refine v_aload_n hG 0 rfl rfl dX9_fix_19 ?_
      refine m_g_0_2 hG wk_1068 dX9_fix_20 ?_
      refine v_icmp_ge hG 100 dX9_fix_23 rfl hf (fun hf => ?_) (fun hf => ?_)
      · refine v_sub [(0, _), (1, _)] [0, 1] rfl ?_
        exact hout _ (Option.some.inj hf).symm
      · refine v_aload_n hG 0 rfl rfl dX9_fix_26 ?_
        refine m_g_0_17 hG wk_1083 dX9_fix_27 ?_
        refine v_iload_n hG 2 rfl rfl dX9_fix_30 ?_
        refine m_l_14 hG dX9_fix_31 hf (fun hf => ?_)
        refine v_if_ne hG 94 dX9_fix_32 rfl hf (fun hf => ?_) (fun hf => ?_)
        · exact j94 s18.1 s18.2 hf
        · refine v_aload_n hG 0 rfl rfl dX9_fix_35 ?_
          refine v_iload_n hG 2 rfl rfl dX9_fix_36 ?_
          refine v_iload_n hG 1 rfl rfl dX9_fix_37 ?_
          obtain ⟨r38, hr38, hf⟩ := bd_some hf
          refine v_callV hG (st := []) 0 9 (ct_X9_isTerm l g ad s18.1 s18.2 a0 r38 hr38) iw_X9_isTerm wk_1276 rfl rfl ⟨rfl, rfl, Nat.le_of_ble_eq_true rfl, Nat.le_of_ble_eq_true rfl⟩ ⟨Nat.le_of_ble_eq_true rfl, Nat.le_of_ble_eq_true rfl⟩ rfl rfl (Nat.le_of_ble_eq_true rfl) (mcells_fst _ _ _ _) dX9_fix_38 ?_
          refine (show V p l e (k2_rm 1 26) s m args below meth c (inW (mcells g ad w)) (EN below args s g (mcells g ad w) (mcells g ad rr) none) g 3 (mcells g ad s18.1) 0 0 41 [(0, .ref (ad 0)), (1, .int a0), (2, .int s18.2)] [.int r38] from ?_)
          refine v_if_eq hG 94 dX9_fix_41 rfl hf (fun hf => ?_) (fun hf => ?_)
          · exact j94 s18.1 s18.2 hf
          · refine v_aload_n hG 0 rfl rfl dX9_fix_44 ?_
            refine m_g_0_18 hG wk_1084 dX9_fix_45 ?_
            refine v_iload_n hG 2 rfl rfl dX9_fix_48 ?_
            refine v_dup2 hG rfl rfl dX9_fix_49 ?_
            refine m_l_15 hG dX9_fix_50 hf (fun hf => ?_)
            refine v_aload_n hG 0 rfl rfl dX9_fix_51 ?_
            refine m_g_0_20 hG wk_1086 dX9_fix_52 ?_
            refine v_bipush hG (v := 12) (by decide) dX9_fix_55 ?_
            refine v_iload_n hG 2 rfl rfl dX9_fix_57 ?_
            refine v_imul hG dX9_fix_58 ?_
            refine v_iload_n hG 1 rfl rfl dX9_fix_59 ?_
            refine v_iadd hG dX9_fix_60 ?_
            refine m_l_17 hG dX9_fix_61 hf (fun hf => ?_)
            refine v_aload_n hG 0 rfl rfl dX9_fix_62 ?_
            refine m_g_0_11 hG wk_1077 dX9_fix_63 ?_
            refine v_iload_n hG 1 rfl rfl dX9_fix_66 ?_
            refine m_l_8 hG dX9_fix_67 hf (fun hf => ?_)
            refine v_i2l hG dX9_fix_68 ?_
            refine v_lmul hG dX9_fix_69 ?_
            refine v_lsub hG dX9_fix_70 ?_
            refine m_s_15 hG dX9_fix_71 hf (fun w71 hf => ?_)
            refine v_aload_n hG 0 rfl rfl dX9_fix_72 ?_
            refine m_g_0_19 hG wk_1085 dX9_fix_73 ?_
            refine v_iload_n hG 2 rfl rfl dX9_fix_76 ?_
            refine v_dup2 hG rfl rfl dX9_fix_77 ?_
            refine m_l_16 hG dX9_fix_78 hf (fun hf => ?_)
            refine v_aload_n hG 0 rfl rfl dX9_fix_79 ?_
            refine m_g_0_13 hG wk_1079 dX9_fix_80 ?_
            refine v_iload_n hG 1 rfl rfl dX9_fix_83 ?_
            refine m_l_10 hG dX9_fix_84 hf (fun hf => ?_)
            refine v_aload_n hG 0 rfl rfl dX9_fix_85 ?_
            refine m_g_0_14 hG wk_1080 dX9_fix_86 ?_
            refine v_iload_n hG 1 rfl rfl dX9_fix_89 ?_
            refine m_l_11 hG dX9_fix_90 hf (fun hf => ?_)
            refine v_ior hG dX9_fix_91 ?_
            refine v_ior hG dX9_fix_92 ?_
            refine m_s_16 hG dX9_fix_93 hf (fun w93 hf => ?_)
            exact j94 w93 s18.2 hf
    · show V p l e (k2_rm 1 26) s m args below meth c (inW (mcells g ad w)) (EN below args s g (mcells g ad w) (mcells g ad rr) none) g 3 (mcells g ad z18) 0 0 100 [(0, .ref (ad 0)), (1, .int a0)] []
      refine v_aload_n hG 0 rfl rfl dX9_fix_100 ?_
      refine v_dup hG rfl dX9_fix_101 ?_
      refine m_g_0_21 hG wk_1087 dX9_fix_102 ?_
      refine v_aload_n hG 0 rfl rfl dX9_fix_105 ?_
      refine m_g_0_15 hG wk_1081 dX9_fix_106 ?_
      refine v_iload_n hG 1 rfl rfl dX9_fix_109 ?_
      refine m_l_12 hG dX9_fix_110 hf (fun hf => ?_)
      refine v_aload_n hG 0 rfl rfl dX9_fix_111 ?_
      refine m_g_0_11 hG wk_1077 dX9_fix_112 ?_
      refine v_iload_n hG 1 rfl rfl dX9_fix_115 ?_
      refine m_l_8 hG dX9_fix_116 hf (fun hf => ?_)
      refine v_i2l hG dX9_fix_117 ?_
      refine v_lmul hG dX9_fix_118 ?_
      refine v_ladd hG dX9_fix_119 ?_
      refine m_p_0_21 hG wk_1087 dX9_fix_120 hf (fun w120 hf => ?_)
      refine v_aload_n hG 0 rfl rfl dX9_fix_123 ?_
      refine m_g_0_10 hG wk_1076 dX9_fix_124 ?_
      refine v_iload_n hG 1 rfl rfl dX9_fix_127 ?_
      refine v_iconst hG (v := 1) (by decide) dX9_fix_128 ?_
      refine m_s_7 hG dX9_fix_129 hf (fun w129 hf => ?_)
      refine v_aload_n hG 0 rfl rfl dX9_fix_130 ?_
      refine v_bipush hG (v := 6) (by decide) dX9_fix_131 ?_
      refine v_iconst hG (v := -1) (by decide) dX9_fix_133 ?_
      refine v_iload_n hG 1 rfl rfl dX9_fix_134 ?_
      refine v_iconst hG (v := 4) (by decide) dX9_fix_135 ?_
      refine v_aload_n hG 0 rfl rfl dX9_fix_136 ?_
      refine m_g_0_11 hG wk_1077 dX9_fix_137 ?_
      refine v_iload_n hG 1 rfl rfl dX9_fix_140 ?_
      refine m_l_8 hG dX9_fix_141 hf (fun hf => ?_)
      refine v_i2l hG dX9_fix_142 ?_
      obtain ⟨r143, hr143, hf⟩ := bd_some hf
      refine v_callV hG (st := []) 0 9 (ct_X9_act l g ad w129 6 (-1) a0 4 (((gM_low w129) a0.toNatClampNeg).toInt64) r143 hr143) iw_X9_act wk_1284 rfl rfl ⟨rfl, rfl, Nat.le_of_ble_eq_true rfl, Nat.le_of_ble_eq_true rfl⟩ ⟨Nat.le_of_ble_eq_true rfl, Nat.le_of_ble_eq_true rfl⟩ rfl rfl (Nat.le_of_ble_eq_true rfl) (mcells_fst _ _ _ _) dX9_fix_143 ?_
      refine (show V p l e (k2_rm 1 26) s m args below meth c (inW (mcells g ad w)) (EN below args s g (mcells g ad w) (mcells g ad rr) none) g 3 (mcells g ad r143) 0 0 146 [(0, .ref (ad 0)), (1, .int a0)] [] from ?_)
      cases hf
      exact v_vret hG hr dX9_fix_146
  · cases hf
    exact v_vret hG hr dX9_fix_15
def X9_alike_J65  (j65_0 : Int32) (j65_1 : Int32) : Option ((Int32 × Int32) ⊕ ((Int32))) := (some (.inl (j65_1, (j65_0 + 1))))
def X9_alike_J64  (j64_0 : Int32) : Option ((Int32 × Int32) ⊕ ((Int32))) := (X9_alike_J65 j64_0 0)
def X9_alike_J60  (j60_0 : Int32) : Option ((Int32 × Int32) ⊕ ((Int32))) := (X9_alike_J65 j60_0 1)
def X9_alike_L6 (w : MW) (a0 : Int32) (a1 : Int32) (a2 : Int64) (s6 : Int32 × Int32) : Option ((Int32 × Int32) ⊕ ((Int32))) := (if (gM_columns w) ≤ s6.2 then (some (.inr s6.1)) else (if s6.1 = 0 then (X9_alike_J64 s6.2) else (if inR s6.2 12 = true then (if ((gM_state w) s6.2.toNatClampNeg) = 0 then (if inR ((12 * a0) + s6.2) 144 = true then (if inR ((12 * a1) + s6.2) 144 = true then (if ((gM_coef w) ((12 * a0) + s6.2).toNatClampNeg) = (a2 * ((gM_coef w) ((12 * a1) + s6.2).toNatClampNeg)) then (X9_alike_J60 s6.2) else (X9_alike_J64 s6.2)) else none) else none) else (X9_alike_J60 s6.2)) else none)))
def X9_alike (w : MW) (a0 : Int32) (a1 : Int32) (a2 : Int64) : Option (Int32) := ((iter (X9_alike_L6 w a0 a1 a2) 5000 (1, 0)).bind (fun z6 : (Int32) => (if isB z6 = true then some z6 else none)))
set_option maxRecDepth 100000 in
set_option maxHeartbeats 4000000 in
theorem ct_X9_alike (l : Launch) (g : wG) (ad : Nat → Nat) (w : MW) (a0 : Int32) (a1 : Int32) (a2 : Int64) (rr : Int32) (hf : X9_alike w a0 a1 a2 = some rr) : MetN l g yX9_alike cX9_alike 7 (some .boolean) (k2_rm 0 0) [.ref (ad 0), .int a0, .int a1, .long a2] (mcells g ad w) (mcells g ad w) (some (.int rr)) := by
  refine MetN.of2 [(0, .ref (ad 0)), (1, .int a0), (2, .int a1), (3, .long a2)] rfl (by decide +kernel) (Nat.le_of_ble_eq_true rfl) ?_
  intro p e s m args below meth c hG hr
  unfold X9_alike at hf
  refine v_iconst hG (v := 1) (by decide) dX9_alike_0 ?_
  refine v_istore hG [(5, _), (0, _), (1, _), (2, _), (3, _)] dX9_alike_1 (by decide) rfl ?_
  refine v_iconst hG (v := 0) (by decide) dX9_alike_3 ?_
  refine v_istore hG [(6, _), (5, _), (0, _), (1, _), (2, _), (3, _)] dX9_alike_4 (by decide) rfl ?_
  refine v_sub [(0, _), (1, _), (2, _), (3, _), (5, _), (6, _)] [2, 3, 4, 5, 1, 0] rfl ?_
  obtain ⟨z6, hlz6, hf⟩ := bd_some hf
  refine loop_v (step := X9_alike_L6 w a0 a1 a2) (fun s6 : Int32 × Int32 => V p l e (k2_rm 0 0) s m args below meth c (inW (mcells g ad w)) (EN below args s g (mcells g ad w) (mcells g ad w) (some (.int rr))) g 7 (mcells g ad w) 0 0 6 [(0, .ref (ad 0)), (1, .int a0), (2, .int a1), (3, .long a2), (5, .int s6.1), (6, .int s6.2)] []) (fun z6_q : (Int32) => V p l e (k2_rm 0 0) s m args below meth c (inW (mcells g ad w)) (EN below args s g (mcells g ad w) (mcells g ad w) (some (.int rr))) g 7 (mcells g ad w) 0 0 73 [(5, .int z6_q)] []) ?_ 5000 (1, 0) z6 hlz6 ?_
  · intro s6 rL hf hin hout
    unfold X9_alike_L6 at hf
    have j65 : ∀ (j65_0 : Int32) (j65_1 : Int32), X9_alike_J65 j65_0 j65_1 = some rL → V p l e (k2_rm 0 0) s m args below meth c (inW (mcells g ad w)) (EN below args s g (mcells g ad w) (mcells g ad w) (some (.int rr))) g 7 (mcells g ad w) 0 0 65 [(0, .ref (ad 0)), (1, .int a0), (2, .int a1), (3, .long a2), (6, .int j65_0)] [.int j65_1] := by
      intro j65_0 j65_1 hf
      unfold X9_alike_J65 at hf
      refine v_istore hG [(5, _), (0, _), (1, _), (2, _), (3, _), (6, _)] dX9_alike_65 (by decide) rfl ?_
      refine v_iinc hG 5 (v := j65_0 + 1) [(6, _), (5, _), (0, _), (1, _), (2, _), (3, _)] dX9_alike_67 rfl rfl (by decide) rfl ?_
      refine v_goto hG 6 dX9_alike_70 rfl ?_
      refine v_sub [(0, _), (1, _), (2, _), (3, _), (5, _), (6, _)] [2, 3, 4, 5, 1, 0] rfl ?_
      exact hin _ (Option.some.inj hf).symm
    have j64 : ∀ (j64_0 : Int32), X9_alike_J64 j64_0 = some rL → V p l e (k2_rm 0 0) s m args below meth c (inW (mcells g ad w)) (EN below args s g (mcells g ad w) (mcells g ad w) (some (.int rr))) g 7 (mcells g ad w) 0 0 64 [(0, .ref (ad 0)), (1, .int a0), (2, .int a1), (3, .long a2), (6, .int j64_0)] [] := by
      intro j64_0 hf
      unfold X9_alike_J64 at hf
      refine v_iconst hG (v := 0) (by decide) dX9_alike_64 ?_
      exact j65 j64_0 0 hf
    have j60 : ∀ (j60_0 : Int32), X9_alike_J60 j60_0 = some rL → V p l e (k2_rm 0 0) s m args below meth c (inW (mcells g ad w)) (EN below args s g (mcells g ad w) (mcells g ad w) (some (.int rr))) g 7 (mcells g ad w) 0 0 60 [(0, .ref (ad 0)), (1, .int a0), (2, .int a1), (3, .long a2), (6, .int j60_0)] [] := by
      intro j60_0 hf
      unfold X9_alike_J60 at hf
      refine v_iconst hG (v := 1) (by decide) dX9_alike_60 ?_
      refine v_goto hG 65 dX9_alike_61 rfl ?_
      exact j65 j60_0 1 hf
    refine v_iload hG 5 rfl dX9_alike_6 ?_
    refine v_aload_n hG 0 rfl rfl dX9_alike_8 ?_
    refine m_g_0_1 hG wk_1067 dX9_alike_9 ?_
    refine v_icmp_ge hG 73 dX9_alike_12 rfl hf (fun hf => ?_) (fun hf => ?_)
    · refine v_sub [(5, _)] [4] rfl ?_
      exact hout _ (Option.some.inj hf).symm
    · refine v_iload hG 4 rfl dX9_alike_15 ?_
      refine v_if_eq hG 64 dX9_alike_17 rfl hf (fun hf => ?_) (fun hf => ?_)
      · refine v_sub [(0, _), (1, _), (2, _), (3, _), (6, _)] [0, 1, 2, 3, 5] rfl ?_
        exact j64 s6.2 hf
      · refine v_aload_n hG 0 rfl rfl dX9_alike_20 ?_
        refine m_g_0_10 hG wk_1076 dX9_alike_21 ?_
        refine v_iload hG 5 rfl dX9_alike_24 ?_
        refine m_l_7 hG dX9_alike_26 hf (fun hf => ?_)
        refine v_if_ne hG 60 dX9_alike_27 rfl hf (fun hf => ?_) (fun hf => ?_)
        · refine v_sub [(0, _), (1, _), (2, _), (3, _), (6, _)] [0, 1, 2, 3, 5] rfl ?_
          exact j60 s6.2 hf
        · refine v_aload_n hG 0 rfl rfl dX9_alike_30 ?_
          refine m_g_0_20 hG wk_1086 dX9_alike_31 ?_
          refine v_bipush hG (v := 12) (by decide) dX9_alike_34 ?_
          refine v_iload_n hG 1 rfl rfl dX9_alike_36 ?_
          refine v_imul hG dX9_alike_37 ?_
          refine v_iload hG 5 rfl dX9_alike_38 ?_
          refine v_iadd hG dX9_alike_40 ?_
          refine m_l_17 hG dX9_alike_41 hf (fun hf => ?_)
          refine v_lload_n hG 3 rfl rfl dX9_alike_42 ?_
          refine v_aload_n hG 0 rfl rfl dX9_alike_43 ?_
          refine m_g_0_20 hG wk_1086 dX9_alike_44 ?_
          refine v_bipush hG (v := 12) (by decide) dX9_alike_47 ?_
          refine v_iload_n hG 2 rfl rfl dX9_alike_49 ?_
          refine v_imul hG dX9_alike_50 ?_
          refine v_iload hG 5 rfl dX9_alike_51 ?_
          refine v_iadd hG dX9_alike_53 ?_
          refine m_l_17 hG dX9_alike_54 hf (fun hf => ?_)
          refine v_lmul hG dX9_alike_55 ?_
          refine v_lcmp_ne hG 64 dX9_alike_56 dX9_alike_57 rfl hf (fun hf => ?_) (fun hf => ?_)
          · refine v_sub [(0, _), (1, _), (2, _), (3, _), (6, _)] [0, 1, 2, 3, 5] rfl ?_
            exact j64 s6.2 hf
          · refine v_sub [(0, _), (1, _), (2, _), (3, _), (6, _)] [0, 1, 2, 3, 5] rfl ?_
            exact j60 s6.2 hf
  · show V p l e (k2_rm 0 0) s m args below meth c (inW (mcells g ad w)) (EN below args s g (mcells g ad w) (mcells g ad w) (some (.int rr))) g 7 (mcells g ad w) 0 0 73 [(5, .int z6)] []
    refine v_iload hG 0 rfl dX9_alike_73 ?_
    obtain ⟨hb, hf⟩ := gd_some hf
    cases hf
    exact v_zret hG hr (isB_nar hb) dX9_alike_75
def X9_twin_J184  (j184_0 : MW) : Option (MW) := (some j184_0)
def X9_twin_J140 (a0 : Int32) (a1 : Int32) (j140_0 : MW) (j140_1 : Int32) (j140_2 : Int32) : Option (MW) := (if inR j140_2 12 = true then (if inR ((a0 + a1) - j140_2) 12 = true then (if ((gM_right j140_0) j140_2.toNatClampNeg) < ((gM_right j140_0) ((a0 + a1) - j140_2).toNatClampNeg) then ((X9_impossible j140_0 j140_1).bind (fun r181 : MW => (X9_twin_J184 r181))) else ((X9_leave j140_0 7 j140_2).bind (fun r173 : MW => (X9_twin_J184 r173)))) else none) else none)
def X9_twin_J126 (a0 : Int32) (a1 : Int32) (j126_0 : MW) (j126_1 : Int32) : Option (MW) := (if inR a0 12 = true then (if ((gM_kind j126_0) a0.toNatClampNeg) = 0 then (X9_twin_J140 a0 a1 j126_0 j126_1 a0) else (X9_twin_J140 a0 a1 j126_0 j126_1 a1)) else none)
def X9_twin_J72 (a0 : Int32) (a1 : Int32) (j72_0 : MW) (j72_1 : Int32) : Option (MW) := (if inR a0 12 = true then (if ((gM_kind j72_0) a0.toNatClampNeg) = 1 then (if inR a1 12 = true then (if ((gM_kind j72_0) a1.toNatClampNeg) = 1 then (if inR a0 12 = true then (if inR a1 12 = true then (if ((gM_right j72_0) a0.toNatClampNeg) = ((gM_right j72_0) a1.toNatClampNeg) then ((X9_leave j72_0 7 a1).bind (fun r112 : MW => (some r112))) else ((X9_impossible j72_0 j72_1).bind (fun r120 : MW => (some r120)))) else none) else none) else (X9_twin_J126 a0 a1 j72_0 j72_1)) else none) else (X9_twin_J126 a0 a1 j72_0 j72_1)) else none)
def X9_twin_J66  (j66_0 : MW) (j66_1 : Int32) (j66_2 : Int32) : Option (MW) := ((X9_leave j66_0 j66_1 j66_2).bind (fun r66 : MW => (some r66)))
def X9_twin (w : MW) (a0 : Int32) (a1 : Int32) : Option (MW) := (if inR a0 12 = true then (if inR a1 12 = true then ((X9_alike w a0 a1 1).bind (fun r18 : Int32 => (if r18 = 0 then (if inR a0 12 = true then (if ((gM_kind w) a0.toNatClampNeg) = 0 then (if inR a1 12 = true then (if ((gM_kind w) a1.toNatClampNeg) = 0 then ((X9_alike w a0 a1 (-1)).bind (fun r211 : Int32 => (if r211 = 0 then (some w) else (if inR a0 12 = true then (if inR a1 12 = true then (if 0 ≤ (((gM_right w) a0.toNatClampNeg) + ((gM_right w) a1.toNatClampNeg)) then (if (((gM_right w) a0.toNatClampNeg) + ((gM_right w) a1.toNatClampNeg)) = 0 then (if inR a0 12 = true then (bnd (sM_kind w (upd (gM_kind w) a0.toNatClampNeg 1)) (fun w260 : MW => (if inR a0 12 = true then (bnd (sM_rest w260 (upd (gM_rest w260) a0.toNatClampNeg (((gM_rest w) a0.toNatClampNeg) ||| ((gM_rest w) a1.toNatClampNeg)))) (fun w267 : MW => (if inR a0 12 = true then ((X9_act w267 7 a0 (-1) 3 ((gM_right w267) a0.toNatClampNeg)).bind (fun r280 : MW => ((X9_leave r280 7 a1).bind (fun r287 : MW => (some r287))))) else none))) else none))) else none) else (some w)) else ((X9_impossible w (((gM_rest w) a0.toNatClampNeg) ||| ((gM_rest w) a1.toNatClampNeg))).bind (fun r241 : MW => (some r241)))) else none) else none)))) else (some w)) else none) else (some w)) else none) else (if inR a0 12 = true then (if ((gM_kind w) a0.toNatClampNeg) = 0 then (if inR a1 12 = true then (if ((gM_kind w) a1.toNatClampNeg) = 0 then (if inR a0 12 = true then (if inR a1 12 = true then (if ((gM_right w) a0.toNatClampNeg) ≤ ((gM_right w) a1.toNatClampNeg) then (X9_twin_J66 w 7 a1) else (X9_twin_J66 w 7 a0)) else none) else none) else (X9_twin_J72 a0 a1 w (((gM_rest w) a0.toNatClampNeg) ||| ((gM_rest w) a1.toNatClampNeg)))) else none) else (X9_twin_J72 a0 a1 w (((gM_rest w) a0.toNatClampNeg) ||| ((gM_rest w) a1.toNatClampNeg)))) else none)))) else none) else none)
set_option maxRecDepth 100000 in
set_option maxHeartbeats 4000000 in
theorem ct_X9_twin (l : Launch) (g : wG) (ad : Nat → Nat) (w : MW) (a0 : Int32) (a1 : Int32) (rr : MW) (hf : X9_twin w a0 a1 = some rr) : MetN l g yX9_twin cX9_twin 6 none (k2_rm 2 48) [.ref (ad 0), .int a0, .int a1] (mcells g ad w) (mcells g ad rr) none := by
  refine MetN.of2 [(0, .ref (ad 0)), (1, .int a0), (2, .int a1)] rfl (by decide +kernel) (Nat.le_of_ble_eq_true rfl) ?_
  intro p e s m args below meth c hG hr
  unfold X9_twin at hf
  have j184 : ∀ (j184_0 : MW), X9_twin_J184 j184_0 = some rr → V p l e (k2_rm 2 48) s m args below meth c (inW (mcells g ad w)) (EN below args s g (mcells g ad w) (mcells g ad rr) none) g 6 (mcells g ad j184_0) 0 0 184 [] [] := by
    intro j184_0 hf
    unfold X9_twin_J184 at hf
    refine v_goto hG 290 dX9_twin_184 rfl ?_
    cases hf
    exact v_vret hG hr dX9_twin_290
  have j140 : ∀ (j140_0 : MW) (j140_1 : Int32) (j140_2 : Int32), X9_twin_J140 a0 a1 j140_0 j140_1 j140_2 = some rr → V p l e (k2_rm 2 48) s m args below meth c (inW (mcells g ad w)) (EN below args s g (mcells g ad w) (mcells g ad rr) none) g 6 (mcells g ad j140_0) 0 0 140 [(0, .ref (ad 0)), (1, .int a0), (2, .int a1), (3, .int j140_1)] [.int j140_2] := by
    intro j140_0 j140_1 j140_2 hf
    unfold X9_twin_J140 at hf
    refine v_istore hG [(4, _), (0, _), (1, _), (2, _), (3, _)] dX9_twin_140 (by decide) rfl ?_
    refine v_iload_n hG 2 rfl rfl dX9_twin_142 ?_
    refine v_iload_n hG 3 rfl rfl dX9_twin_143 ?_
    refine v_iadd hG dX9_twin_144 ?_
    refine v_iload hG 0 rfl dX9_twin_145 ?_
    refine v_isub hG dX9_twin_147 ?_
    refine v_istore hG [(5, _), (4, _), (0, _), (1, _), (2, _), (3, _)] dX9_twin_148 (by decide) rfl ?_
    refine v_aload_n hG 2 rfl rfl dX9_twin_150 ?_
    refine m_g_0_18 hG wk_1084 dX9_twin_151 ?_
    refine v_iload hG 1 rfl dX9_twin_154 ?_
    refine m_l_15 hG dX9_twin_156 hf (fun hf => ?_)
    refine v_aload_n hG 2 rfl rfl dX9_twin_157 ?_
    refine m_g_0_18 hG wk_1084 dX9_twin_158 ?_
    refine v_iload hG 0 rfl dX9_twin_161 ?_
    refine m_l_15 hG dX9_twin_163 hf (fun hf => ?_)
    refine v_lcmp_lt hG 179 dX9_twin_164 dX9_twin_165 rfl hf (fun hf => ?_) (fun hf => ?_)
    · refine v_aload_n hG 2 rfl rfl dX9_twin_179 ?_
      refine v_iload_n hG 5 rfl rfl dX9_twin_180 ?_
      obtain ⟨r181, hr181, hf⟩ := bd_some hf
      refine v_callV hG (st := []) 0 9 (ct_X9_impossible l g ad j140_0 j140_1 r181 hr181) iw_X9_impossible wk_1288 rfl rfl ⟨rfl, rfl, Nat.le_of_ble_eq_true rfl, Nat.le_of_ble_eq_true rfl⟩ ⟨Nat.le_of_ble_eq_true rfl, Nat.le_of_ble_eq_true rfl⟩ rfl rfl (Nat.le_of_ble_eq_true rfl) (mcells_fst _ _ _ _) dX9_twin_181 ?_
      refine (show V p l e (k2_rm 2 48) s m args below meth c (inW (mcells g ad w)) (EN below args s g (mcells g ad w) (mcells g ad rr) none) g 6 (mcells g ad r181) 0 0 184 [(5, .int ((a0 + a1) - j140_2)), (4, .int j140_2), (0, .ref (ad 0)), (1, .int a0), (2, .int a1), (3, .int j140_1)] [] from ?_)
      refine v_sub [] [] rfl ?_
      exact j184 r181 hf
    · refine v_aload_n hG 2 rfl rfl dX9_twin_168 ?_
      refine v_bipush hG (v := 7) (by decide) dX9_twin_169 ?_
      refine v_iload hG 1 rfl dX9_twin_171 ?_
      obtain ⟨r173, hr173, hf⟩ := bd_some hf
      refine v_callV hG (st := []) 0 9 (ct_X9_leave l g ad j140_0 7 j140_2 r173 hr173) iw_X9_leave wk_1280 rfl rfl ⟨rfl, rfl, Nat.le_of_ble_eq_true rfl, Nat.le_of_ble_eq_true rfl⟩ ⟨Nat.le_of_ble_eq_true rfl, Nat.le_of_ble_eq_true rfl⟩ rfl rfl (Nat.le_of_ble_eq_true rfl) (mcells_fst _ _ _ _) dX9_twin_173 ?_
      refine (show V p l e (k2_rm 2 48) s m args below meth c (inW (mcells g ad w)) (EN below args s g (mcells g ad w) (mcells g ad rr) none) g 6 (mcells g ad r173) 0 0 176 [(5, .int ((a0 + a1) - j140_2)), (4, .int j140_2), (0, .ref (ad 0)), (1, .int a0), (2, .int a1), (3, .int j140_1)] [] from ?_)
      refine v_goto hG 184 dX9_twin_176 rfl ?_
      refine v_sub [] [] rfl ?_
      exact j184 r173 hf
  have j126 : ∀ (j126_0 : MW) (j126_1 : Int32), X9_twin_J126 a0 a1 j126_0 j126_1 = some rr → V p l e (k2_rm 2 48) s m args below meth c (inW (mcells g ad w)) (EN below args s g (mcells g ad w) (mcells g ad rr) none) g 6 (mcells g ad j126_0) 0 0 126 [(0, .ref (ad 0)), (1, .int a0), (2, .int a1), (3, .int j126_1)] [] := by
    intro j126_0 j126_1 hf
    unfold X9_twin_J126 at hf
    refine v_aload_n hG 0 rfl rfl dX9_twin_126 ?_
    refine m_g_0_16 hG wk_1082 dX9_twin_127 ?_
    refine v_iload_n hG 1 rfl rfl dX9_twin_130 ?_
    refine m_l_13 hG dX9_twin_131 hf (fun hf => ?_)
    refine v_if_ne hG 139 dX9_twin_132 rfl hf (fun hf => ?_) (fun hf => ?_)
    · refine v_iload_n hG 2 rfl rfl dX9_twin_139 ?_
      exact j140 j126_0 j126_1 a1 hf
    · refine v_iload_n hG 1 rfl rfl dX9_twin_135 ?_
      refine v_goto hG 140 dX9_twin_136 rfl ?_
      exact j140 j126_0 j126_1 a0 hf
  have j72 : ∀ (j72_0 : MW) (j72_1 : Int32), X9_twin_J72 a0 a1 j72_0 j72_1 = some rr → V p l e (k2_rm 2 48) s m args below meth c (inW (mcells g ad w)) (EN below args s g (mcells g ad w) (mcells g ad rr) none) g 6 (mcells g ad j72_0) 0 0 72 [(0, .ref (ad 0)), (1, .int a0), (2, .int a1), (3, .int j72_1)] [] := by
    intro j72_0 j72_1 hf
    unfold X9_twin_J72 at hf
    refine v_aload_n hG 0 rfl rfl dX9_twin_72 ?_
    refine m_g_0_16 hG wk_1082 dX9_twin_73 ?_
    refine v_iload_n hG 1 rfl rfl dX9_twin_76 ?_
    refine m_l_13 hG dX9_twin_77 hf (fun hf => ?_)
    refine v_iconst hG (v := 1) (by decide) dX9_twin_78 ?_
    refine v_icmp_ne hG 126 dX9_twin_79 rfl hf (fun hf => ?_) (fun hf => ?_)
    · exact j126 j72_0 j72_1 hf
    · refine v_aload_n hG 0 rfl rfl dX9_twin_82 ?_
      refine m_g_0_16 hG wk_1082 dX9_twin_83 ?_
      refine v_iload_n hG 2 rfl rfl dX9_twin_86 ?_
      refine m_l_13 hG dX9_twin_87 hf (fun hf => ?_)
      refine v_iconst hG (v := 1) (by decide) dX9_twin_88 ?_
      refine v_icmp_ne hG 126 dX9_twin_89 rfl hf (fun hf => ?_) (fun hf => ?_)
      · exact j126 j72_0 j72_1 hf
      · refine v_aload_n hG 0 rfl rfl dX9_twin_92 ?_
        refine m_g_0_18 hG wk_1084 dX9_twin_93 ?_
        refine v_iload_n hG 1 rfl rfl dX9_twin_96 ?_
        refine m_l_15 hG dX9_twin_97 hf (fun hf => ?_)
        refine v_aload_n hG 0 rfl rfl dX9_twin_98 ?_
        refine m_g_0_18 hG wk_1084 dX9_twin_99 ?_
        refine v_iload_n hG 2 rfl rfl dX9_twin_102 ?_
        refine m_l_15 hG dX9_twin_103 hf (fun hf => ?_)
        refine v_lcmp_ne hG 118 dX9_twin_104 dX9_twin_105 rfl hf (fun hf => ?_) (fun hf => ?_)
        · refine v_aload_n hG 0 rfl rfl dX9_twin_118 ?_
          refine v_iload_n hG 3 rfl rfl dX9_twin_119 ?_
          obtain ⟨r120, hr120, hf⟩ := bd_some hf
          refine v_callV hG (st := []) 0 9 (ct_X9_impossible l g ad j72_0 j72_1 r120 hr120) iw_X9_impossible wk_1288 rfl rfl ⟨rfl, rfl, Nat.le_of_ble_eq_true rfl, Nat.le_of_ble_eq_true rfl⟩ ⟨Nat.le_of_ble_eq_true rfl, Nat.le_of_ble_eq_true rfl⟩ rfl rfl (Nat.le_of_ble_eq_true rfl) (mcells_fst _ _ _ _) dX9_twin_120 ?_
          refine (show V p l e (k2_rm 2 48) s m args below meth c (inW (mcells g ad w)) (EN below args s g (mcells g ad w) (mcells g ad rr) none) g 6 (mcells g ad r120) 0 0 123 [(0, .ref (ad 0)), (1, .int a0), (2, .int a1), (3, .int j72_1)] [] from ?_)
          refine v_goto hG 290 dX9_twin_123 rfl ?_
          cases hf
          exact v_vret hG hr dX9_twin_290
        · refine v_aload_n hG 0 rfl rfl dX9_twin_108 ?_
          refine v_bipush hG (v := 7) (by decide) dX9_twin_109 ?_
          refine v_iload_n hG 2 rfl rfl dX9_twin_111 ?_
          obtain ⟨r112, hr112, hf⟩ := bd_some hf
          refine v_callV hG (st := []) 0 9 (ct_X9_leave l g ad j72_0 7 a1 r112 hr112) iw_X9_leave wk_1280 rfl rfl ⟨rfl, rfl, Nat.le_of_ble_eq_true rfl, Nat.le_of_ble_eq_true rfl⟩ ⟨Nat.le_of_ble_eq_true rfl, Nat.le_of_ble_eq_true rfl⟩ rfl rfl (Nat.le_of_ble_eq_true rfl) (mcells_fst _ _ _ _) dX9_twin_112 ?_
          refine (show V p l e (k2_rm 2 48) s m args below meth c (inW (mcells g ad w)) (EN below args s g (mcells g ad w) (mcells g ad rr) none) g 6 (mcells g ad r112) 0 0 115 [(0, .ref (ad 0)), (1, .int a0), (2, .int a1), (3, .int j72_1)] [] from ?_)
          refine v_goto hG 290 dX9_twin_115 rfl ?_
          cases hf
          exact v_vret hG hr dX9_twin_290
  have j66 : ∀ (j66_0 : MW) (j66_1 : Int32) (j66_2 : Int32), X9_twin_J66 j66_0 j66_1 j66_2 = some rr → V p l e (k2_rm 2 48) s m args below meth c (inW (mcells g ad w)) (EN below args s g (mcells g ad w) (mcells g ad rr) none) g 6 (mcells g ad j66_0) 0 0 66 [] [.int j66_2, .int j66_1, .ref (ad 0)] := by
    intro j66_0 j66_1 j66_2 hf
    unfold X9_twin_J66 at hf
    obtain ⟨r66, hr66, hf⟩ := bd_some hf
    refine v_callV hG (st := []) 0 9 (ct_X9_leave l g ad j66_0 j66_1 j66_2 r66 hr66) iw_X9_leave wk_1280 rfl rfl ⟨rfl, rfl, Nat.le_of_ble_eq_true rfl, Nat.le_of_ble_eq_true rfl⟩ ⟨Nat.le_of_ble_eq_true rfl, Nat.le_of_ble_eq_true rfl⟩ rfl rfl (Nat.le_of_ble_eq_true rfl) (mcells_fst _ _ _ _) dX9_twin_66 ?_
    refine (show V p l e (k2_rm 2 48) s m args below meth c (inW (mcells g ad w)) (EN below args s g (mcells g ad w) (mcells g ad rr) none) g 6 (mcells g ad r66) 0 0 69 [] [] from ?_)
    refine v_goto hG 290 dX9_twin_69 rfl ?_
    cases hf
    exact v_vret hG hr dX9_twin_290
  refine v_aload_n hG 0 rfl rfl dX9_twin_0 ?_
  refine m_g_0_19 hG wk_1085 dX9_twin_1 ?_
  refine v_iload_n hG 1 rfl rfl dX9_twin_4 ?_
  refine m_l_16 hG dX9_twin_5 hf (fun hf => ?_)
  refine v_aload_n hG 0 rfl rfl dX9_twin_6 ?_
  refine m_g_0_19 hG wk_1085 dX9_twin_7 ?_
  refine v_iload_n hG 2 rfl rfl dX9_twin_10 ?_
  refine m_l_16 hG dX9_twin_11 hf (fun hf => ?_)
  refine v_ior hG dX9_twin_12 ?_
  refine v_istore_n hG [(3, _), (0, _), (1, _), (2, _)] dX9_twin_13 rfl (by decide) rfl ?_
  refine v_aload_n hG 1 rfl rfl dX9_twin_14 ?_
  refine v_iload_n hG 2 rfl rfl dX9_twin_15 ?_
  refine v_iload_n hG 3 rfl rfl dX9_twin_16 ?_
  refine v_lconst hG (v := 1) (by decide) dX9_twin_17 ?_
  obtain ⟨r18, hr18, hf⟩ := bd_some hf
  refine v_callV hG (st := []) 0 9 (ct_X9_alike l g ad w a0 a1 1 r18 hr18) iw_X9_alike wk_1346 rfl rfl ⟨rfl, rfl, Nat.le_of_ble_eq_true rfl, Nat.le_of_ble_eq_true rfl⟩ ⟨Nat.le_of_ble_eq_true rfl, Nat.le_of_ble_eq_true rfl⟩ rfl rfl (Nat.le_of_ble_eq_true rfl) (mcells_fst _ _ _ _) dX9_twin_18 ?_
  refine (show V p l e (k2_rm 2 48) s m args below meth c (inW (mcells g ad w)) (EN below args s g (mcells g ad w) (mcells g ad rr) none) g 6 (mcells g ad w) 0 0 21 [(3, .int (((gM_rest w) a0.toNatClampNeg) ||| ((gM_rest w) a1.toNatClampNeg))), (0, .ref (ad 0)), (1, .int a0), (2, .int a1)] [.int r18] from ?_)
  refine v_if_eq hG 187 dX9_twin_21 rfl hf (fun hf => ?_) (fun hf => ?_)
  · refine v_aload_n hG 1 rfl rfl dX9_twin_187 ?_
    refine m_g_0_16 hG wk_1082 dX9_twin_188 ?_
    refine v_iload_n hG 2 rfl rfl dX9_twin_191 ?_
    refine m_l_13 hG dX9_twin_192 hf (fun hf => ?_)
    refine v_if_ne hG 290 dX9_twin_193 rfl hf (fun hf => ?_) (fun hf => ?_)
    · cases hf
      exact v_vret hG hr dX9_twin_290
    · refine v_aload_n hG 1 rfl rfl dX9_twin_196 ?_
      refine m_g_0_16 hG wk_1082 dX9_twin_197 ?_
      refine v_iload_n hG 3 rfl rfl dX9_twin_200 ?_
      refine m_l_13 hG dX9_twin_201 hf (fun hf => ?_)
      refine v_if_ne hG 290 dX9_twin_202 rfl hf (fun hf => ?_) (fun hf => ?_)
      · cases hf
        exact v_vret hG hr dX9_twin_290
      · refine v_aload_n hG 1 rfl rfl dX9_twin_205 ?_
        refine v_iload_n hG 2 rfl rfl dX9_twin_206 ?_
        refine v_iload_n hG 3 rfl rfl dX9_twin_207 ?_
        refine v_ldc2 hG wk_1299 dX9_twin_208 ?_
        obtain ⟨r211, hr211, hf⟩ := bd_some hf
        refine v_callV hG (st := []) 0 9 (ct_X9_alike l g ad w a0 a1 (-1) r211 hr211) iw_X9_alike wk_1346 rfl rfl ⟨rfl, rfl, Nat.le_of_ble_eq_true rfl, Nat.le_of_ble_eq_true rfl⟩ ⟨Nat.le_of_ble_eq_true rfl, Nat.le_of_ble_eq_true rfl⟩ rfl rfl (Nat.le_of_ble_eq_true rfl) (mcells_fst _ _ _ _) dX9_twin_211 ?_
        refine (show V p l e (k2_rm 2 48) s m args below meth c (inW (mcells g ad w)) (EN below args s g (mcells g ad w) (mcells g ad rr) none) g 6 (mcells g ad w) 0 0 214 [(3, .int (((gM_rest w) a0.toNatClampNeg) ||| ((gM_rest w) a1.toNatClampNeg))), (0, .ref (ad 0)), (1, .int a0), (2, .int a1)] [.int r211] from ?_)
        refine v_if_eq hG 290 dX9_twin_214 rfl hf (fun hf => ?_) (fun hf => ?_)
        · cases hf
          exact v_vret hG hr dX9_twin_290
        · refine v_aload_n hG 1 rfl rfl dX9_twin_217 ?_
          refine m_g_0_18 hG wk_1084 dX9_twin_218 ?_
          refine v_iload_n hG 2 rfl rfl dX9_twin_221 ?_
          refine m_l_15 hG dX9_twin_222 hf (fun hf => ?_)
          refine v_aload_n hG 1 rfl rfl dX9_twin_223 ?_
          refine m_g_0_18 hG wk_1084 dX9_twin_224 ?_
          refine v_iload_n hG 3 rfl rfl dX9_twin_227 ?_
          refine m_l_15 hG dX9_twin_228 hf (fun hf => ?_)
          refine v_ladd hG dX9_twin_229 ?_
          refine v_lstore hG [(4, _), (3, _), (0, _), (1, _), (2, _)] dX9_twin_230 (by decide) rfl ?_
          refine v_lload hG 0 rfl dX9_twin_232 ?_
          refine v_lconst hG (v := 0) (by decide) dX9_twin_234 ?_
          refine v_lcmp_ge hG 247 dX9_twin_235 dX9_twin_236 rfl hf (fun hf => ?_) (fun hf => ?_)
          · refine v_lload hG 0 rfl dX9_twin_247 ?_
            refine v_lconst hG (v := 0) (by decide) dX9_twin_249 ?_
            refine v_lcmp_ne hG 290 dX9_twin_250 dX9_twin_251 rfl hf (fun hf => ?_) (fun hf => ?_)
            · cases hf
              exact v_vret hG hr dX9_twin_290
            · refine v_aload_n hG 2 rfl rfl dX9_twin_254 ?_
              refine m_g_0_16 hG wk_1082 dX9_twin_255 ?_
              refine v_iload_n hG 3 rfl rfl dX9_twin_258 ?_
              refine v_iconst hG (v := 1) (by decide) dX9_twin_259 ?_
              refine m_s_13 hG dX9_twin_260 hf (fun w260 hf => ?_)
              refine v_aload_n hG 2 rfl rfl dX9_twin_261 ?_
              refine m_g_0_19 hG wk_1085 dX9_twin_262 ?_
              refine v_iload_n hG 3 rfl rfl dX9_twin_265 ?_
              refine v_iload_n hG 1 rfl rfl dX9_twin_266 ?_
              refine m_s_16 hG dX9_twin_267 hf (fun w267 hf => ?_)
              refine v_aload_n hG 2 rfl rfl dX9_twin_268 ?_
              refine v_bipush hG (v := 7) (by decide) dX9_twin_269 ?_
              refine v_iload_n hG 3 rfl rfl dX9_twin_271 ?_
              refine v_iconst hG (v := -1) (by decide) dX9_twin_272 ?_
              refine v_iconst hG (v := 3) (by decide) dX9_twin_273 ?_
              refine v_aload_n hG 2 rfl rfl dX9_twin_274 ?_
              refine m_g_0_18 hG wk_1084 dX9_twin_275 ?_
              refine v_iload_n hG 3 rfl rfl dX9_twin_278 ?_
              refine m_l_15 hG dX9_twin_279 hf (fun hf => ?_)
              obtain ⟨r280, hr280, hf⟩ := bd_some hf
              refine v_callV hG (st := []) 0 9 (ct_X9_act l g ad w267 7 a0 (-1) 3 ((gM_right w267) a0.toNatClampNeg) r280 hr280) iw_X9_act wk_1284 rfl rfl ⟨rfl, rfl, Nat.le_of_ble_eq_true rfl, Nat.le_of_ble_eq_true rfl⟩ ⟨Nat.le_of_ble_eq_true rfl, Nat.le_of_ble_eq_true rfl⟩ rfl rfl (Nat.le_of_ble_eq_true rfl) (mcells_fst _ _ _ _) dX9_twin_280 ?_
              refine (show V p l e (k2_rm 2 48) s m args below meth c (inW (mcells g ad w)) (EN below args s g (mcells g ad w) (mcells g ad rr) none) g 6 (mcells g ad r280) 0 0 283 [(4, .long (((gM_right w) a0.toNatClampNeg) + ((gM_right w) a1.toNatClampNeg))), (3, .int (((gM_rest w) a0.toNatClampNeg) ||| ((gM_rest w) a1.toNatClampNeg))), (0, .ref (ad 0)), (1, .int a0), (2, .int a1)] [] from ?_)
              refine v_aload_n hG 2 rfl rfl dX9_twin_283 ?_
              refine v_bipush hG (v := 7) (by decide) dX9_twin_284 ?_
              refine v_iload_n hG 4 rfl rfl dX9_twin_286 ?_
              obtain ⟨r287, hr287, hf⟩ := bd_some hf
              refine v_callV hG (st := []) 0 9 (ct_X9_leave l g ad r280 7 a1 r287 hr287) iw_X9_leave wk_1280 rfl rfl ⟨rfl, rfl, Nat.le_of_ble_eq_true rfl, Nat.le_of_ble_eq_true rfl⟩ ⟨Nat.le_of_ble_eq_true rfl, Nat.le_of_ble_eq_true rfl⟩ rfl rfl (Nat.le_of_ble_eq_true rfl) (mcells_fst _ _ _ _) dX9_twin_287 ?_
              refine (show V p l e (k2_rm 2 48) s m args below meth c (inW (mcells g ad w)) (EN below args s g (mcells g ad w) (mcells g ad rr) none) g 6 (mcells g ad r287) 0 0 290 [(4, .long (((gM_right w) a0.toNatClampNeg) + ((gM_right w) a1.toNatClampNeg))), (3, .int (((gM_rest w) a0.toNatClampNeg) ||| ((gM_rest w) a1.toNatClampNeg))), (0, .ref (ad 0)), (1, .int a0), (2, .int a1)] [] from ?_)
              cases hf
              exact v_vret hG hr dX9_twin_290
          · refine v_aload_n hG 2 rfl rfl dX9_twin_239 ?_
            refine v_iload_n hG 1 rfl rfl dX9_twin_240 ?_
            obtain ⟨r241, hr241, hf⟩ := bd_some hf
            refine v_callV hG (st := []) 0 9 (ct_X9_impossible l g ad w (((gM_rest w) a0.toNatClampNeg) ||| ((gM_rest w) a1.toNatClampNeg)) r241 hr241) iw_X9_impossible wk_1288 rfl rfl ⟨rfl, rfl, Nat.le_of_ble_eq_true rfl, Nat.le_of_ble_eq_true rfl⟩ ⟨Nat.le_of_ble_eq_true rfl, Nat.le_of_ble_eq_true rfl⟩ rfl rfl (Nat.le_of_ble_eq_true rfl) (mcells_fst _ _ _ _) dX9_twin_241 ?_
            refine (show V p l e (k2_rm 2 48) s m args below meth c (inW (mcells g ad w)) (EN below args s g (mcells g ad w) (mcells g ad rr) none) g 6 (mcells g ad r241) 0 0 244 [(4, .long (((gM_right w) a0.toNatClampNeg) + ((gM_right w) a1.toNatClampNeg))), (3, .int (((gM_rest w) a0.toNatClampNeg) ||| ((gM_rest w) a1.toNatClampNeg))), (0, .ref (ad 0)), (1, .int a0), (2, .int a1)] [] from ?_)
            refine v_goto hG 290 dX9_twin_244 rfl ?_
            cases hf
            exact v_vret hG hr dX9_twin_290
  · refine v_aload_n hG 1 rfl rfl dX9_twin_24 ?_
    refine m_g_0_16 hG wk_1082 dX9_twin_25 ?_
    refine v_iload_n hG 2 rfl rfl dX9_twin_28 ?_
    refine m_l_13 hG dX9_twin_29 hf (fun hf => ?_)
    refine v_if_ne hG 72 dX9_twin_30 rfl hf (fun hf => ?_) (fun hf => ?_)
    · refine v_sub [(0, _), (1, _), (2, _), (3, _)] [1, 2, 3, 0] rfl ?_
      exact j72 w (((gM_rest w) a0.toNatClampNeg) ||| ((gM_rest w) a1.toNatClampNeg)) hf
    · refine v_aload_n hG 1 rfl rfl dX9_twin_33 ?_
      refine m_g_0_16 hG wk_1082 dX9_twin_34 ?_
      refine v_iload_n hG 3 rfl rfl dX9_twin_37 ?_
      refine m_l_13 hG dX9_twin_38 hf (fun hf => ?_)
      refine v_if_ne hG 72 dX9_twin_39 rfl hf (fun hf => ?_) (fun hf => ?_)
      · refine v_sub [(0, _), (1, _), (2, _), (3, _)] [1, 2, 3, 0] rfl ?_
        exact j72 w (((gM_rest w) a0.toNatClampNeg) ||| ((gM_rest w) a1.toNatClampNeg)) hf
      · refine v_aload_n hG 1 rfl rfl dX9_twin_42 ?_
        refine v_bipush hG (v := 7) (by decide) dX9_twin_43 ?_
        refine v_aload_n hG 1 rfl rfl dX9_twin_45 ?_
        refine m_g_0_18 hG wk_1084 dX9_twin_46 ?_
        refine v_iload_n hG 2 rfl rfl dX9_twin_49 ?_
        refine m_l_15 hG dX9_twin_50 hf (fun hf => ?_)
        refine v_aload_n hG 1 rfl rfl dX9_twin_51 ?_
        refine m_g_0_18 hG wk_1084 dX9_twin_52 ?_
        refine v_iload_n hG 3 rfl rfl dX9_twin_55 ?_
        refine m_l_15 hG dX9_twin_56 hf (fun hf => ?_)
        refine v_lcmp_le hG 65 dX9_twin_57 dX9_twin_58 rfl hf (fun hf => ?_) (fun hf => ?_)
        · refine v_iload_n hG 3 rfl rfl dX9_twin_65 ?_
          refine v_sub [] [] rfl ?_
          exact j66 w 7 a1 hf
        · refine v_iload_n hG 2 rfl rfl dX9_twin_61 ?_
          refine v_goto hG 66 dX9_twin_62 rfl ?_
          refine v_sub [] [] rfl ?_
          exact j66 w 7 a0 hf
def X9_twins_J52  (j52_0 : MW) (j52_1 : Int32) : Option ((MW × Int32) ⊕ ((MW))) := (some (.inl (j52_0, (j52_1 + 1))))
def X9_twins_L13 (a0 : Int32) (s13 : MW × Int32) : Option ((MW × Int32) ⊕ ((MW))) := (if (gM_rows s13.1) ≤ s13.2 then (some (.inr s13.1)) else (if inR a0 12 = true then (if ((gM_gone s13.1) a0.toNatClampNeg) = 0 then ((X9_goesOn s13.1).bind (fun r31 : Int32 => (if r31 = 0 then (some (.inr s13.1)) else (if inR s13.2 12 = true then (if ((gM_gone s13.1) s13.2.toNatClampNeg) = 0 then ((X9_twin s13.1 a0 s13.2).bind (fun r49 : MW => (X9_twins_J52 r49 s13.2))) else (X9_twins_J52 s13.1 s13.2)) else none)))) else (some (.inr s13.1))) else none))
def X9_twins (w : MW) (a0 : Int32) : Option (MW) := ((X9_terms w a0).bind (fun r2 : Int32 => (if r2 = 0 then (some w) else ((iter (X9_twins_L13 a0) 5000 (w, (a0 + 1))).bind (fun z13 : (MW) => (some z13))))))
set_option maxRecDepth 100000 in
set_option maxHeartbeats 4000000 in
theorem ct_X9_twins (l : Launch) (g : wG) (ad : Nat → Nat) (w : MW) (a0 : Int32) (rr : MW) (hf : X9_twins w a0 = some rr) : MetN l g yX9_twins cX9_twins 3 none (k2_rm 3 73) [.ref (ad 0), .int a0] (mcells g ad w) (mcells g ad rr) none := by
  refine MetN.of2 [(0, .ref (ad 0)), (1, .int a0)] rfl (by decide +kernel) (Nat.le_of_ble_eq_true rfl) ?_
  intro p e s m args below meth c hG hr
  unfold X9_twins at hf
  refine v_aload_n hG 0 rfl rfl dX9_twins_0 ?_
  refine v_iload_n hG 1 rfl rfl dX9_twins_1 ?_
  obtain ⟨r2, hr2, hf⟩ := bd_some hf
  refine v_callV hG (st := []) 0 9 (ct_X9_terms l g ad w a0 r2 hr2) iw_X9_terms wk_1272 rfl rfl ⟨rfl, rfl, Nat.le_of_ble_eq_true rfl, Nat.le_of_ble_eq_true rfl⟩ ⟨Nat.le_of_ble_eq_true rfl, Nat.le_of_ble_eq_true rfl⟩ rfl rfl (Nat.le_of_ble_eq_true rfl) (mcells_fst _ _ _ _) dX9_twins_2 ?_
  refine (show V p l e (k2_rm 3 73) s m args below meth c (inW (mcells g ad w)) (EN below args s g (mcells g ad w) (mcells g ad rr) none) g 3 (mcells g ad w) 0 0 5 [(0, .ref (ad 0)), (1, .int a0)] [.int r2] from ?_)
  refine v_if_ne hG 9 dX9_twins_5 rfl hf (fun hf => ?_) (fun hf => ?_)
  · refine v_iload_n hG 1 rfl rfl dX9_twins_9 ?_
    refine v_iconst hG (v := 1) (by decide) dX9_twins_10 ?_
    refine v_iadd hG dX9_twins_11 ?_
    refine v_istore_n hG [(2, _), (0, _), (1, _)] dX9_twins_12 rfl (by decide) rfl ?_
    refine v_sub [(0, _), (1, _), (2, _)] [1, 2, 0] rfl ?_
    obtain ⟨z13, hlz13, hf⟩ := bd_some hf
    refine loop_v (step := X9_twins_L13 a0) (fun s13 : MW × Int32 => V p l e (k2_rm 3 73) s m args below meth c (inW (mcells g ad w)) (EN below args s g (mcells g ad w) (mcells g ad rr) none) g 3 (mcells g ad s13.1) 0 0 13 [(0, .ref (ad 0)), (1, .int a0), (2, .int s13.2)] []) (fun z13_q : (MW) => V p l e (k2_rm 3 73) s m args below meth c (inW (mcells g ad w)) (EN below args s g (mcells g ad w) (mcells g ad rr) none) g 3 (mcells g ad z13_q) 0 0 58 [] []) ?_ 5000 (w, (a0 + 1)) z13 hlz13 ?_
    · intro s13 rL hf hin hout
      unfold X9_twins_L13 at hf
      have j52 : ∀ (j52_0 : MW) (j52_1 : Int32), X9_twins_J52 j52_0 j52_1 = some rL → V p l e (k2_rm 3 73) s m args below meth c (inW (mcells g ad w)) (EN below args s g (mcells g ad w) (mcells g ad rr) none) g 3 (mcells g ad j52_0) 0 0 52 [(0, .ref (ad 0)), (1, .int a0), (2, .int j52_1)] [] := by
        intro j52_0 j52_1 hf
        unfold X9_twins_J52 at hf
        refine v_iinc hG 2 (v := j52_1 + 1) [(2, _), (0, _), (1, _)] dX9_twins_52 rfl rfl (by decide) rfl ?_
        refine v_goto hG 13 dX9_twins_55 rfl ?_
        refine v_sub [(0, _), (1, _), (2, _)] [1, 2, 0] rfl ?_
        exact hin _ (Option.some.inj hf).symm
      refine v_iload_n hG 2 rfl rfl dX9_twins_13 ?_
      refine v_aload_n hG 0 rfl rfl dX9_twins_14 ?_
      refine m_g_0_2 hG wk_1068 dX9_twins_15 ?_
      refine v_icmp_ge hG 58 dX9_twins_18 rfl hf (fun hf => ?_) (fun hf => ?_)
      · refine v_sub [] [] rfl ?_
        exact hout _ (Option.some.inj hf).symm
      · refine v_aload_n hG 0 rfl rfl dX9_twins_21 ?_
        refine m_g_0_17 hG wk_1083 dX9_twins_22 ?_
        refine v_iload_n hG 1 rfl rfl dX9_twins_25 ?_
        refine m_l_14 hG dX9_twins_26 hf (fun hf => ?_)
        refine v_if_ne hG 58 dX9_twins_27 rfl hf (fun hf => ?_) (fun hf => ?_)
        · refine v_sub [] [] rfl ?_
          exact hout _ (Option.some.inj hf).symm
        · refine v_aload_n hG 0 rfl rfl dX9_twins_30 ?_
          obtain ⟨r31, hr31, hf⟩ := bd_some hf
          refine v_callV hG (st := []) 0 9 (ct_X9_goesOn l g ad s13.1  r31 hr31) iw_X9_goesOn wk_1256 rfl rfl ⟨rfl, rfl, Nat.le_of_ble_eq_true rfl, Nat.le_of_ble_eq_true rfl⟩ ⟨Nat.le_of_ble_eq_true rfl, Nat.le_of_ble_eq_true rfl⟩ rfl rfl (Nat.le_of_ble_eq_true rfl) (mcells_fst _ _ _ _) dX9_twins_31 ?_
          refine (show V p l e (k2_rm 3 73) s m args below meth c (inW (mcells g ad w)) (EN below args s g (mcells g ad w) (mcells g ad rr) none) g 3 (mcells g ad s13.1) 0 0 34 [(0, .ref (ad 0)), (1, .int a0), (2, .int s13.2)] [.int r31] from ?_)
          refine v_if_eq hG 58 dX9_twins_34 rfl hf (fun hf => ?_) (fun hf => ?_)
          · refine v_sub [] [] rfl ?_
            exact hout _ (Option.some.inj hf).symm
          · refine v_aload_n hG 0 rfl rfl dX9_twins_37 ?_
            refine m_g_0_17 hG wk_1083 dX9_twins_38 ?_
            refine v_iload_n hG 2 rfl rfl dX9_twins_41 ?_
            refine m_l_14 hG dX9_twins_42 hf (fun hf => ?_)
            refine v_if_ne hG 52 dX9_twins_43 rfl hf (fun hf => ?_) (fun hf => ?_)
            · exact j52 s13.1 s13.2 hf
            · refine v_aload_n hG 0 rfl rfl dX9_twins_46 ?_
              refine v_iload_n hG 1 rfl rfl dX9_twins_47 ?_
              refine v_iload_n hG 2 rfl rfl dX9_twins_48 ?_
              obtain ⟨r49, hr49, hf⟩ := bd_some hf
              refine v_callV hG (st := []) 0 9 (ct_X9_twin l g ad s13.1 a0 s13.2 r49 hr49) iw_X9_twin wk_1342 rfl rfl ⟨rfl, rfl, Nat.le_of_ble_eq_true rfl, Nat.le_of_ble_eq_true rfl⟩ ⟨Nat.le_of_ble_eq_true rfl, Nat.le_of_ble_eq_true rfl⟩ rfl rfl (Nat.le_of_ble_eq_true rfl) (mcells_fst _ _ _ _) dX9_twins_49 ?_
              refine (show V p l e (k2_rm 3 73) s m args below meth c (inW (mcells g ad w)) (EN below args s g (mcells g ad w) (mcells g ad rr) none) g 3 (mcells g ad r49) 0 0 52 [(0, .ref (ad 0)), (1, .int a0), (2, .int s13.2)] [] from ?_)
              exact j52 r49 s13.2 hf
    · show V p l e (k2_rm 3 73) s m args below meth c (inW (mcells g ad w)) (EN below args s g (mcells g ad w) (mcells g ad rr) none) g 3 (mcells g ad z13) 0 0 58 [] []
      cases hf
      exact v_vret hG hr dX9_twins_58
  · cases hf
    exact v_vret hG hr dX9_twins_8
def X9_side_J110  (j110_0 : Int32) (j110_1 : Int32) (j110_2 : Int32) : Option ((Int32 × Int32 × Int32) ⊕ ((Int32 × Int32))) := (some (.inl (j110_0, j110_1, (j110_2 + 1))))
def X9_side_J109  (j109_0 : Int32) (j109_1 : Int32) (j109_2 : Int32) : Option ((Int32 × Int32 × Int32) ⊕ ((Int32 × Int32))) := (X9_side_J110 j109_0 j109_2 j109_1)
def X9_side_J108  (j108_0 : Int32) (j108_1 : Int32) : Option ((Int32 × Int32 × Int32) ⊕ ((Int32 × Int32))) := (X9_side_J109 j108_0 j108_1 0)
def X9_side_J72 (w : MW) (a0 : Int32) (j72_0 : Int32) (j72_1 : Int32) (j72_2 : Int32) : Option ((Int32 × Int32 × Int32) ⊕ ((Int32 × Int32))) := (if j72_0 = 0 then (X9_side_J108 j72_2 j72_1) else (if inR j72_1 12 = true then (if ((gM_kind w) j72_1.toNatClampNeg) = 0 then (if inR ((12 * j72_1) + a0) 144 = true then (if 0 ≤ ((gM_coef w) ((12 * j72_1) + a0).toNatClampNeg) then (X9_side_J108 j72_2 j72_1) else (X9_side_J109 j72_2 j72_1 1)) else none) else (X9_side_J108 j72_2 j72_1)) else none))
def X9_side_J71 (w : MW) (a0 : Int32) (j71_0 : Int32) (j71_1 : Int32) : Option ((Int32 × Int32 × Int32) ⊕ ((Int32 × Int32))) := (X9_side_J72 w a0 j71_0 j71_1 0)
def X9_side_L7 (w : MW) (a0 : Int32) (s7 : Int32 × Int32 × Int32) : Option ((Int32 × Int32 × Int32) ⊕ ((Int32 × Int32))) := (if (gM_rows w) ≤ s7.2.2 then (some (.inr (s7.1, s7.2.1))) else (if inR s7.2.2 12 = true then (if ((gM_gone w) s7.2.2.toNatClampNeg) = 0 then ((X9_isTerm w s7.2.2 a0).bind (fun r30 : Int32 => (if r30 = 0 then (X9_side_J110 s7.1 s7.2.1 s7.2.2) else (if s7.1 = 0 then (X9_side_J71 w a0 s7.2.1 s7.2.2) else (if inR s7.2.2 12 = true then (if ((gM_kind w) s7.2.2.toNatClampNeg) = 0 then (if inR ((12 * s7.2.2) + a0) 144 = true then (if ((gM_coef w) ((12 * s7.2.2) + a0).toNatClampNeg) ≤ 0 then (X9_side_J71 w a0 s7.2.1 s7.2.2) else (X9_side_J72 w a0 s7.2.1 s7.2.2 1)) else none) else (X9_side_J71 w a0 s7.2.1 s7.2.2)) else none))))) else (X9_side_J110 s7.1 s7.2.1 s7.2.2)) else none))
def X9_side_J177 (a0 : Int32) (j177_0 : MW) (j177_1 : Int32) (j177_2 : Int32) : Option (MW) := (if inR a0 12 = true then (if 0 < ((gM_cost j177_0) a0.toNatClampNeg) then (some j177_0) else (if j177_1 = 0 then (some j177_0) else (if inR a0 12 = true then ((X9_narrowLow j177_0 8 (-1) a0 (((gM_high j177_0) a0.toNatClampNeg).toInt64) j177_2).bind (fun r206 : MW => (some r206))) else none))) else none)
def X9_side (w : MW) (a0 : Int32) : Option (MW) := ((iter (X9_side_L7 w a0) 5000 (1, 1, 0)).bind (fun z7 : (Int32 × Int32) => (if inR a0 12 = true then (if inR a0 12 = true then (if ((gM_low w) a0.toNatClampNeg) = ((gM_high w) a0.toNatClampNeg) then (some w) else (if inR a0 12 = true then (if ((gM_cost w) a0.toNatClampNeg) < 0 then (X9_side_J177 a0 w z7.2 ((1 <<< ((gM_rows w) &&& 31)) - 1)) else (if z7.1 = 0 then (X9_side_J177 a0 w z7.2 ((1 <<< ((gM_rows w) &&& 31)) - 1)) else (if inR a0 12 = true then ((X9_narrowHigh w 8 (-1) a0 (((gM_low w) a0.toNatClampNeg).toInt64) ((1 <<< ((gM_rows w) &&& 31)) - 1)).bind (fun r171 : MW => (some r171))) else none))) else none)) else none) else none)))
set_option maxRecDepth 100000 in
set_option maxHeartbeats 4000000 in
theorem ct_X9_side (l : Launch) (g : wG) (ad : Nat → Nat) (w : MW) (a0 : Int32) (rr : MW) (hf : X9_side w a0 = some rr) : MetN l g yX9_side cX9_side 5 none (k2_rm 2 52) [.ref (ad 0), .int a0] (mcells g ad w) (mcells g ad rr) none := by
  refine MetN.of2 [(0, .ref (ad 0)), (1, .int a0)] rfl (by decide +kernel) (Nat.le_of_ble_eq_true rfl) ?_
  intro p e s m args below meth c hG hr
  unfold X9_side at hf
  have j177 : ∀ (j177_0 : MW) (j177_1 : Int32) (j177_2 : Int32), X9_side_J177 a0 j177_0 j177_1 j177_2 = some rr → V p l e (k2_rm 2 52) s m args below meth c (inW (mcells g ad w)) (EN below args s g (mcells g ad w) (mcells g ad rr) none) g 5 (mcells g ad j177_0) 0 0 177 [(0, .ref (ad 0)), (1, .int a0), (3, .int j177_1), (4, .int j177_2)] [] := by
    intro j177_0 j177_1 j177_2 hf
    unfold X9_side_J177 at hf
    refine v_aload_n hG 0 rfl rfl dX9_side_177 ?_
    refine m_g_0_15 hG wk_1081 dX9_side_178 ?_
    refine v_iload_n hG 1 rfl rfl dX9_side_181 ?_
    refine m_l_12 hG dX9_side_182 hf (fun hf => ?_)
    refine v_lconst hG (v := 0) (by decide) dX9_side_183 ?_
    refine v_lcmp_gt hG 209 dX9_side_184 dX9_side_185 rfl hf (fun hf => ?_) (fun hf => ?_)
    · cases hf
      exact v_vret hG hr dX9_side_209
    · refine v_iload_n hG 2 rfl rfl dX9_side_188 ?_
      refine v_if_eq hG 209 dX9_side_189 rfl hf (fun hf => ?_) (fun hf => ?_)
      · cases hf
        exact v_vret hG hr dX9_side_209
      · refine v_aload_n hG 0 rfl rfl dX9_side_192 ?_
        refine v_bipush hG (v := 8) (by decide) dX9_side_193 ?_
        refine v_iconst hG (v := -1) (by decide) dX9_side_195 ?_
        refine v_iload_n hG 1 rfl rfl dX9_side_196 ?_
        refine v_aload_n hG 0 rfl rfl dX9_side_197 ?_
        refine m_g_0_12 hG wk_1078 dX9_side_198 ?_
        refine v_iload_n hG 1 rfl rfl dX9_side_201 ?_
        refine m_l_9 hG dX9_side_202 hf (fun hf => ?_)
        refine v_i2l hG dX9_side_203 ?_
        refine v_iload hG 3 rfl dX9_side_204 ?_
        obtain ⟨r206, hr206, hf⟩ := bd_some hf
        refine v_callV hG (st := []) 0 9 (ct_X9_narrowLow l g ad j177_0 8 (-1) a0 (((gM_high j177_0) a0.toNatClampNeg).toInt64) j177_2 r206 hr206) iw_X9_narrowLow wk_1310 rfl rfl ⟨rfl, rfl, Nat.le_of_ble_eq_true rfl, Nat.le_of_ble_eq_true rfl⟩ ⟨Nat.le_of_ble_eq_true rfl, Nat.le_of_ble_eq_true rfl⟩ rfl rfl (Nat.le_of_ble_eq_true rfl) (mcells_fst _ _ _ _) dX9_side_206 ?_
        refine (show V p l e (k2_rm 2 52) s m args below meth c (inW (mcells g ad w)) (EN below args s g (mcells g ad w) (mcells g ad rr) none) g 5 (mcells g ad r206) 0 0 209 [(0, .ref (ad 0)), (1, .int a0), (3, .int j177_1), (4, .int j177_2)] [] from ?_)
        cases hf
        exact v_vret hG hr dX9_side_209
  refine v_iconst hG (v := 1) (by decide) dX9_side_0 ?_
  refine v_istore_n hG [(2, _), (0, _), (1, _)] dX9_side_1 rfl (by decide) rfl ?_
  refine v_iconst hG (v := 1) (by decide) dX9_side_2 ?_
  refine v_istore_n hG [(3, _), (2, _), (0, _), (1, _)] dX9_side_3 rfl (by decide) rfl ?_
  refine v_iconst hG (v := 0) (by decide) dX9_side_4 ?_
  refine v_istore hG [(4, _), (3, _), (2, _), (0, _), (1, _)] dX9_side_5 (by decide) rfl ?_
  refine v_sub [(0, _), (1, _), (2, _), (3, _), (4, _)] [3, 4, 2, 1, 0] rfl ?_
  obtain ⟨z7, hlz7, hf⟩ := bd_some hf
  refine loop_v (step := X9_side_L7 w a0) (fun s7 : Int32 × Int32 × Int32 => V p l e (k2_rm 2 52) s m args below meth c (inW (mcells g ad w)) (EN below args s g (mcells g ad w) (mcells g ad rr) none) g 5 (mcells g ad w) 0 0 7 [(0, .ref (ad 0)), (1, .int a0), (2, .int s7.1), (3, .int s7.2.1), (4, .int s7.2.2)] []) (fun z7_q : (Int32 × Int32) => V p l e (k2_rm 2 52) s m args below meth c (inW (mcells g ad w)) (EN below args s g (mcells g ad w) (mcells g ad rr) none) g 5 (mcells g ad w) 0 0 116 [(0, .ref (ad 0)), (1, .int a0), (2, .int z7_q.1), (3, .int z7_q.2)] []) ?_ 5000 (1, 1, 0) z7 hlz7 ?_
  · intro s7 rL hf hin hout
    unfold X9_side_L7 at hf
    have j110 : ∀ (j110_0 : Int32) (j110_1 : Int32) (j110_2 : Int32), X9_side_J110 j110_0 j110_1 j110_2 = some rL → V p l e (k2_rm 2 52) s m args below meth c (inW (mcells g ad w)) (EN below args s g (mcells g ad w) (mcells g ad rr) none) g 5 (mcells g ad w) 0 0 110 [(0, .ref (ad 0)), (1, .int a0), (2, .int j110_0), (3, .int j110_1), (4, .int j110_2)] [] := by
      intro j110_0 j110_1 j110_2 hf
      unfold X9_side_J110 at hf
      refine v_iinc hG 4 (v := j110_2 + 1) [(4, _), (0, _), (1, _), (2, _), (3, _)] dX9_side_110 rfl rfl (by decide) rfl ?_
      refine v_goto hG 7 dX9_side_113 rfl ?_
      refine v_sub [(0, _), (1, _), (2, _), (3, _), (4, _)] [1, 2, 3, 4, 0] rfl ?_
      exact hin _ (Option.some.inj hf).symm
    have j109 : ∀ (j109_0 : Int32) (j109_1 : Int32) (j109_2 : Int32), X9_side_J109 j109_0 j109_1 j109_2 = some rL → V p l e (k2_rm 2 52) s m args below meth c (inW (mcells g ad w)) (EN below args s g (mcells g ad w) (mcells g ad rr) none) g 5 (mcells g ad w) 0 0 109 [(0, .ref (ad 0)), (1, .int a0), (2, .int j109_0), (4, .int j109_1)] [.int j109_2] := by
      intro j109_0 j109_1 j109_2 hf
      unfold X9_side_J109 at hf
      refine v_istore_n hG [(3, _), (0, _), (1, _), (2, _), (4, _)] dX9_side_109 rfl (by decide) rfl ?_
      refine v_sub [(0, _), (1, _), (2, _), (3, _), (4, _)] [1, 2, 3, 0, 4] rfl ?_
      exact j110 j109_0 j109_2 j109_1 hf
    have j108 : ∀ (j108_0 : Int32) (j108_1 : Int32), X9_side_J108 j108_0 j108_1 = some rL → V p l e (k2_rm 2 52) s m args below meth c (inW (mcells g ad w)) (EN below args s g (mcells g ad w) (mcells g ad rr) none) g 5 (mcells g ad w) 0 0 108 [(0, .ref (ad 0)), (1, .int a0), (2, .int j108_0), (4, .int j108_1)] [] := by
      intro j108_0 j108_1 hf
      unfold X9_side_J108 at hf
      refine v_iconst hG (v := 0) (by decide) dX9_side_108 ?_
      exact j109 j108_0 j108_1 0 hf
    have j72 : ∀ (j72_0 : Int32) (j72_1 : Int32) (j72_2 : Int32), X9_side_J72 w a0 j72_0 j72_1 j72_2 = some rL → V p l e (k2_rm 2 52) s m args below meth c (inW (mcells g ad w)) (EN below args s g (mcells g ad w) (mcells g ad rr) none) g 5 (mcells g ad w) 0 0 72 [(0, .ref (ad 0)), (1, .int a0), (3, .int j72_0), (4, .int j72_1)] [.int j72_2] := by
      intro j72_0 j72_1 j72_2 hf
      unfold X9_side_J72 at hf
      refine v_istore_n hG [(2, _), (0, _), (1, _), (3, _), (4, _)] dX9_side_72 rfl (by decide) rfl ?_
      refine v_iload_n hG 3 rfl rfl dX9_side_73 ?_
      refine v_if_eq hG 108 dX9_side_74 rfl hf (fun hf => ?_) (fun hf => ?_)
      · refine v_sub [(0, _), (1, _), (2, _), (4, _)] [1, 2, 0, 4] rfl ?_
        exact j108 j72_2 j72_1 hf
      · refine v_aload_n hG 1 rfl rfl dX9_side_77 ?_
        refine m_g_0_16 hG wk_1082 dX9_side_78 ?_
        refine v_iload hG 4 rfl dX9_side_81 ?_
        refine m_l_13 hG dX9_side_83 hf (fun hf => ?_)
        refine v_if_ne hG 108 dX9_side_84 rfl hf (fun hf => ?_) (fun hf => ?_)
        · refine v_sub [(0, _), (1, _), (2, _), (4, _)] [1, 2, 0, 4] rfl ?_
          exact j108 j72_2 j72_1 hf
        · refine v_aload_n hG 1 rfl rfl dX9_side_87 ?_
          refine m_g_0_20 hG wk_1086 dX9_side_88 ?_
          refine v_bipush hG (v := 12) (by decide) dX9_side_91 ?_
          refine v_iload hG 4 rfl dX9_side_93 ?_
          refine v_imul hG dX9_side_95 ?_
          refine v_iload_n hG 2 rfl rfl dX9_side_96 ?_
          refine v_iadd hG dX9_side_97 ?_
          refine m_l_17 hG dX9_side_98 hf (fun hf => ?_)
          refine v_lconst hG (v := 0) (by decide) dX9_side_99 ?_
          refine v_lcmp_ge hG 108 dX9_side_100 dX9_side_101 rfl hf (fun hf => ?_) (fun hf => ?_)
          · refine v_sub [(0, _), (1, _), (2, _), (4, _)] [1, 2, 0, 4] rfl ?_
            exact j108 j72_2 j72_1 hf
          · refine v_iconst hG (v := 1) (by decide) dX9_side_104 ?_
            refine v_goto hG 109 dX9_side_105 rfl ?_
            refine v_sub [(0, _), (1, _), (2, _), (4, _)] [1, 2, 0, 4] rfl ?_
            exact j109 j72_2 j72_1 1 hf
    have j71 : ∀ (j71_0 : Int32) (j71_1 : Int32), X9_side_J71 w a0 j71_0 j71_1 = some rL → V p l e (k2_rm 2 52) s m args below meth c (inW (mcells g ad w)) (EN below args s g (mcells g ad w) (mcells g ad rr) none) g 5 (mcells g ad w) 0 0 71 [(0, .ref (ad 0)), (1, .int a0), (3, .int j71_0), (4, .int j71_1)] [] := by
      intro j71_0 j71_1 hf
      unfold X9_side_J71 at hf
      refine v_iconst hG (v := 0) (by decide) dX9_side_71 ?_
      exact j72 j71_0 j71_1 0 hf
    refine v_iload hG 4 rfl dX9_side_7 ?_
    refine v_aload_n hG 0 rfl rfl dX9_side_9 ?_
    refine m_g_0_2 hG wk_1068 dX9_side_10 ?_
    refine v_icmp_ge hG 116 dX9_side_13 rfl hf (fun hf => ?_) (fun hf => ?_)
    · refine v_sub [(0, _), (1, _), (2, _), (3, _)] [0, 1, 2, 3] rfl ?_
      exact hout _ (Option.some.inj hf).symm
    · refine v_aload_n hG 0 rfl rfl dX9_side_16 ?_
      refine m_g_0_17 hG wk_1083 dX9_side_17 ?_
      refine v_iload hG 4 rfl dX9_side_20 ?_
      refine m_l_14 hG dX9_side_22 hf (fun hf => ?_)
      refine v_if_ne hG 110 dX9_side_23 rfl hf (fun hf => ?_) (fun hf => ?_)
      · exact j110 s7.1 s7.2.1 s7.2.2 hf
      · refine v_aload_n hG 0 rfl rfl dX9_side_26 ?_
        refine v_iload hG 4 rfl dX9_side_27 ?_
        refine v_iload_n hG 1 rfl rfl dX9_side_29 ?_
        obtain ⟨r30, hr30, hf⟩ := bd_some hf
        refine v_callV hG (st := []) 0 9 (ct_X9_isTerm l g ad w s7.2.2 a0 r30 hr30) iw_X9_isTerm wk_1276 rfl rfl ⟨rfl, rfl, Nat.le_of_ble_eq_true rfl, Nat.le_of_ble_eq_true rfl⟩ ⟨Nat.le_of_ble_eq_true rfl, Nat.le_of_ble_eq_true rfl⟩ rfl rfl (Nat.le_of_ble_eq_true rfl) (mcells_fst _ _ _ _) dX9_side_30 ?_
        refine (show V p l e (k2_rm 2 52) s m args below meth c (inW (mcells g ad w)) (EN below args s g (mcells g ad w) (mcells g ad rr) none) g 5 (mcells g ad w) 0 0 33 [(0, .ref (ad 0)), (1, .int a0), (2, .int s7.1), (3, .int s7.2.1), (4, .int s7.2.2)] [.int r30] from ?_)
        refine v_if_eq hG 110 dX9_side_33 rfl hf (fun hf => ?_) (fun hf => ?_)
        · exact j110 s7.1 s7.2.1 s7.2.2 hf
        · refine v_iload_n hG 2 rfl rfl dX9_side_36 ?_
          refine v_if_eq hG 71 dX9_side_37 rfl hf (fun hf => ?_) (fun hf => ?_)
          · refine v_sub [(0, _), (1, _), (3, _), (4, _)] [0, 1, 3, 4] rfl ?_
            exact j71 s7.2.1 s7.2.2 hf
          · refine v_aload_n hG 0 rfl rfl dX9_side_40 ?_
            refine m_g_0_16 hG wk_1082 dX9_side_41 ?_
            refine v_iload hG 4 rfl dX9_side_44 ?_
            refine m_l_13 hG dX9_side_46 hf (fun hf => ?_)
            refine v_if_ne hG 71 dX9_side_47 rfl hf (fun hf => ?_) (fun hf => ?_)
            · refine v_sub [(0, _), (1, _), (3, _), (4, _)] [0, 1, 3, 4] rfl ?_
              exact j71 s7.2.1 s7.2.2 hf
            · refine v_aload_n hG 0 rfl rfl dX9_side_50 ?_
              refine m_g_0_20 hG wk_1086 dX9_side_51 ?_
              refine v_bipush hG (v := 12) (by decide) dX9_side_54 ?_
              refine v_iload hG 4 rfl dX9_side_56 ?_
              refine v_imul hG dX9_side_58 ?_
              refine v_iload_n hG 1 rfl rfl dX9_side_59 ?_
              refine v_iadd hG dX9_side_60 ?_
              refine m_l_17 hG dX9_side_61 hf (fun hf => ?_)
              refine v_lconst hG (v := 0) (by decide) dX9_side_62 ?_
              refine v_lcmp_le hG 71 dX9_side_63 dX9_side_64 rfl hf (fun hf => ?_) (fun hf => ?_)
              · refine v_sub [(0, _), (1, _), (3, _), (4, _)] [0, 1, 3, 4] rfl ?_
                exact j71 s7.2.1 s7.2.2 hf
              · refine v_iconst hG (v := 1) (by decide) dX9_side_67 ?_
                refine v_goto hG 72 dX9_side_68 rfl ?_
                refine v_sub [(0, _), (1, _), (3, _), (4, _)] [0, 1, 3, 4] rfl ?_
                exact j72 s7.2.1 s7.2.2 1 hf
  · show V p l e (k2_rm 2 52) s m args below meth c (inW (mcells g ad w)) (EN below args s g (mcells g ad w) (mcells g ad rr) none) g 5 (mcells g ad w) 0 0 116 [(0, .ref (ad 0)), (1, .int a0), (2, .int z7.1), (3, .int z7.2)] []
    refine v_iconst hG (v := 1) (by decide) dX9_side_116 ?_
    refine v_aload_n hG 0 rfl rfl dX9_side_117 ?_
    refine m_g_0_2 hG wk_1068 dX9_side_118 ?_
    refine v_ishl hG dX9_side_121 ?_
    refine v_iconst hG (v := 1) (by decide) dX9_side_122 ?_
    refine v_isub hG dX9_side_123 ?_
    refine v_istore hG [(4, _), (0, _), (1, _), (2, _), (3, _)] dX9_side_124 (by decide) rfl ?_
    refine v_aload_n hG 1 rfl rfl dX9_side_126 ?_
    refine m_g_0_11 hG wk_1077 dX9_side_127 ?_
    refine v_iload_n hG 2 rfl rfl dX9_side_130 ?_
    refine m_l_8 hG dX9_side_131 hf (fun hf => ?_)
    refine v_aload_n hG 1 rfl rfl dX9_side_132 ?_
    refine m_g_0_12 hG wk_1078 dX9_side_133 ?_
    refine v_iload_n hG 2 rfl rfl dX9_side_136 ?_
    refine m_l_9 hG dX9_side_137 hf (fun hf => ?_)
    refine v_icmp_ne hG 142 dX9_side_138 rfl hf (fun hf => ?_) (fun hf => ?_)
    · refine v_aload_n hG 1 rfl rfl dX9_side_142 ?_
      refine m_g_0_15 hG wk_1081 dX9_side_143 ?_
      refine v_iload_n hG 2 rfl rfl dX9_side_146 ?_
      refine m_l_12 hG dX9_side_147 hf (fun hf => ?_)
      refine v_lconst hG (v := 0) (by decide) dX9_side_148 ?_
      refine v_lcmp_lt hG 177 dX9_side_149 dX9_side_150 rfl hf (fun hf => ?_) (fun hf => ?_)
      · refine v_sub [(0, _), (1, _), (3, _), (4, _)] [1, 2, 4, 0] rfl ?_
        exact j177 w z7.2 ((1 <<< ((gM_rows w) &&& 31)) - 1) hf
      · refine v_iload_n hG 3 rfl rfl dX9_side_153 ?_
        refine v_if_eq hG 177 dX9_side_154 rfl hf (fun hf => ?_) (fun hf => ?_)
        · refine v_sub [(0, _), (1, _), (3, _), (4, _)] [1, 2, 4, 0] rfl ?_
          exact j177 w z7.2 ((1 <<< ((gM_rows w) &&& 31)) - 1) hf
        · refine v_aload_n hG 1 rfl rfl dX9_side_157 ?_
          refine v_bipush hG (v := 8) (by decide) dX9_side_158 ?_
          refine v_iconst hG (v := -1) (by decide) dX9_side_160 ?_
          refine v_iload_n hG 2 rfl rfl dX9_side_161 ?_
          refine v_aload_n hG 1 rfl rfl dX9_side_162 ?_
          refine m_g_0_11 hG wk_1077 dX9_side_163 ?_
          refine v_iload_n hG 2 rfl rfl dX9_side_166 ?_
          refine m_l_8 hG dX9_side_167 hf (fun hf => ?_)
          refine v_i2l hG dX9_side_168 ?_
          refine v_iload hG 0 rfl dX9_side_169 ?_
          obtain ⟨r171, hr171, hf⟩ := bd_some hf
          refine v_callV hG (st := []) 0 9 (ct_X9_narrowHigh l g ad w 8 (-1) a0 (((gM_low w) a0.toNatClampNeg).toInt64) ((1 <<< ((gM_rows w) &&& 31)) - 1) r171 hr171) iw_X9_narrowHigh wk_1314 rfl rfl ⟨rfl, rfl, Nat.le_of_ble_eq_true rfl, Nat.le_of_ble_eq_true rfl⟩ ⟨Nat.le_of_ble_eq_true rfl, Nat.le_of_ble_eq_true rfl⟩ rfl rfl (Nat.le_of_ble_eq_true rfl) (mcells_fst _ _ _ _) dX9_side_171 ?_
          refine (show V p l e (k2_rm 2 52) s m args below meth c (inW (mcells g ad w)) (EN below args s g (mcells g ad w) (mcells g ad rr) none) g 5 (mcells g ad r171) 0 0 174 [(4, .int ((1 <<< ((gM_rows w) &&& 31)) - 1)), (0, .ref (ad 0)), (1, .int a0), (2, .int z7.1), (3, .int z7.2)] [] from ?_)
          refine v_goto hG 209 dX9_side_174 rfl ?_
          cases hf
          exact v_vret hG hr dX9_side_209
    · cases hf
      exact v_vret hG hr dX9_side_141
def X9_isUnit_J14   : Option (Int32) := (some 1)
def X9_isUnit (a0 : Int64) : Option (Int32) := (if a0 = 1 then (X9_isUnit_J14 ) else (if a0 = (-1) then (X9_isUnit_J14 ) else (some 0)))
set_option maxRecDepth 100000 in
set_option maxHeartbeats 4000000 in
theorem ct_X9_isUnit (l : Launch) (g : wG) (a0 : Int64) (rr : Int32) (hf : X9_isUnit a0 = some rr) : MetN l g yX9_isUnit cX9_isUnit 2 (some .boolean) (k2_rm 0 0) [.long a0] [] [] (some (.int rr)) := by
  refine MetN.of2 [(0, .long a0)] rfl (by decide +kernel) (Nat.le_of_ble_eq_true rfl) ?_
  intro p e s m args below meth c hG hr
  unfold X9_isUnit at hf
  have j14 : X9_isUnit_J14  = some rr → V p l e (k2_rm 0 0) s m args below meth c (inW []) (EN below args s g [] [] (some (.int rr))) g 2 [] 0 0 14 [] [] := by
    intro hf
    unfold X9_isUnit_J14 at hf
    refine v_iconst hG (v := 1) (by decide) dX9_isUnit_14 ?_
    refine v_goto hG 19 dX9_isUnit_15 rfl ?_
    cases hf
    exact v_zret (x := 1) hG hr rfl dX9_isUnit_19
  refine v_lload_n hG 0 rfl rfl dX9_isUnit_0 ?_
  refine v_lconst hG (v := 1) (by decide) dX9_isUnit_1 ?_
  refine v_lcmp_eq hG 14 dX9_isUnit_2 dX9_isUnit_3 rfl hf (fun hf => ?_) (fun hf => ?_)
  · refine v_sub [] [] rfl ?_
    exact j14  hf
  · refine v_lload_n hG 0 rfl rfl dX9_isUnit_6 ?_
    refine v_ldc2 hG wk_1299 dX9_isUnit_7 ?_
    refine v_lcmp_ne hG 18 dX9_isUnit_10 dX9_isUnit_11 rfl hf (fun hf => ?_) (fun hf => ?_)
    · refine v_iconst hG (v := 0) (by decide) dX9_isUnit_18 ?_
      cases hf
      exact v_zret (x := 0) hG hr rfl dX9_isUnit_19
    · refine v_sub [] [] rfl ?_
      exact j14  hf
def X9_isCoefficient (a0 : Int64) : Option (Int32) := ((X9_within a0 (-1000000) 1000000).bind (fun r7 : Int32 => (if isB r7 = true then some r7 else none)))
set_option maxRecDepth 100000 in
set_option maxHeartbeats 4000000 in
theorem ct_X9_isCoefficient (l : Launch) (g : wG) (a0 : Int64) (rr : Int32) (hf : X9_isCoefficient a0 = some rr) : MetN l g yX9_isCoefficient cX9_isCoefficient 2 (some .boolean) (k2_rm 1 25) [.long a0] [] [] (some (.int rr)) := by
  refine MetN.of2 [(0, .long a0)] rfl (by decide +kernel) (Nat.le_of_ble_eq_true rfl) ?_
  intro p e s m args below meth c hG hr
  unfold X9_isCoefficient at hf
  refine v_lload_n hG 0 rfl rfl dX9_isCoefficient_0 ?_
  refine v_ldc2 hG wk_1228 dX9_isCoefficient_1 ?_
  refine v_ldc2 hG wk_1229 dX9_isCoefficient_4 ?_
  obtain ⟨r7, hr7, hf⟩ := bd_some hf
  refine v_callP hG (st := []) (ct_X9_within l g a0 (-1000000) 1000000 r7 hr7) sw_X9_within wk_1207 ⟨rfl, rfl, Nat.le_of_ble_eq_true rfl, Nat.le_of_ble_eq_true rfl⟩ ⟨Nat.le_of_ble_eq_true rfl, Nat.le_of_ble_eq_true rfl⟩ rfl rfl (Nat.le_of_ble_eq_true rfl) dX9_isCoefficient_7 ?_
  refine (show V p l e (k2_rm 1 25) s m args below meth c (inW []) (EN below args s g [] [] (some (.int rr))) g 2 [] 0 0 10 [(0, .long a0)] [.int r7] from ?_)
  obtain ⟨hb, hf⟩ := gd_some hf
  cases hf
  exact v_zret hG hr (isB_nar hb) dX9_isCoefficient_10
def X9_mayPut_J163  (j163_0 : Int32) (j163_1 : Int32) : Option ((Int32 × Int32) ⊕ ((Int32))) := (some (.inl (j163_0, (j163_1 + 1))))
def X9_mayPut_J161  (j161_0 : Int32) (j161_1 : Int32) : Option ((Int32 × Int32) ⊕ ((Int32))) := (X9_mayPut_J163 j161_1 j161_0)
def X9_mayPut_J160  (j160_0 : Int32) : Option ((Int32 × Int32) ⊕ ((Int32))) := (X9_mayPut_J161 j160_0 0)
def X9_mayPut_L53 (w : MW) (a0 : Int32) (a1 : Int32) (a2 : Int32) (a3 : Int64) (a4 : Int64) (s53 : Int32 × Int32) : Option ((Int32 × Int32) ⊕ ((Int32))) := (if (gM_rows w) ≤ s53.2 then (some (.inr s53.1)) else (if s53.2 = a0 then (X9_mayPut_J163 s53.1 s53.2) else (if inR s53.2 12 = true then (if ((gM_gone w) s53.2.toNatClampNeg) = 0 then ((X9_isTerm w s53.2 a1).bind (fun r82 : Int32 => (if r82 = 0 then (X9_mayPut_J163 s53.1 s53.2) else (if inR ((12 * s53.2) + a1) 144 = true then (if s53.1 = 0 then (X9_mayPut_J160 s53.2) else (if inR ((12 * s53.2) + a2) 144 = true then ((X9_isCoefficient (((gM_coef w) ((12 * s53.2) + a2).toNatClampNeg) + (((gM_coef w) ((12 * s53.2) + a1).toNatClampNeg) * a3))).bind (fun r125 : Int32 => (if r125 = 0 then (X9_mayPut_J160 s53.2) else (if inR s53.2 12 = true then ((X9_within (((gM_right w) s53.2.toNatClampNeg) - (((gM_coef w) ((12 * s53.2) + a1).toNatClampNeg) * a4)) (-100000000000) 100000000000).bind (fun r150 : Int32 => (if r150 = 0 then (X9_mayPut_J160 s53.2) else (X9_mayPut_J161 s53.2 1)))) else none)))) else none)) else none)))) else (X9_mayPut_J163 s53.1 s53.2)) else none)))
def X9_mayPut_J48 (w : MW) (a0 : Int32) (a1 : Int32) (a2 : Int32) (a3 : Int64) (a4 : Int64) (j48_0 : Int32) : Option (Int32) := ((iter (X9_mayPut_L53 w a0 a1 a2 a3 a4) 5000 (j48_0, 0)).bind (fun z53 : (Int32) => (if isB z53 = true then some z53 else none)))
def X9_mayPut_J47 (w : MW) (a0 : Int32) (a1 : Int32) (a2 : Int32) (a3 : Int64) (a4 : Int64)  : Option (Int32) := (X9_mayPut_J48 w a0 a1 a2 a3 a4 0)
def X9_mayPut (w : MW) (a0 : Int32) (a1 : Int32) (a2 : Int32) (a3 : Int64) (a4 : Int64) : Option (Int32) := (if inR a2 12 = true then (if inR a1 12 = true then ((X9_isCoefficient (((gM_cost w) a2.toNatClampNeg) + (a3 * ((gM_cost w) a1.toNatClampNeg)))).bind (fun r16 : Int32 => (if r16 = 0 then (X9_mayPut_J47 w a0 a1 a2 a3 a4) else (if inR a1 12 = true then ((X9_within (a4 * ((gM_cost w) a1.toNatClampNeg)) (-1000000000000000) 1000000000000000).bind (fun r37 : Int32 => (if r37 = 0 then (X9_mayPut_J47 w a0 a1 a2 a3 a4) else (X9_mayPut_J48 w a0 a1 a2 a3 a4 1)))) else none)))) else none) else none)
set_option maxRecDepth 100000 in
set_option maxHeartbeats 4000000 in
theorem ct_X9_mayPut (l : Launch) (g : wG) (ad : Nat → Nat) (w : MW) (a0 : Int32) (a1 : Int32) (a2 : Int32) (a3 : Int64) (a4 : Int64) (rr : Int32) (hf : X9_mayPut w a0 a1 a2 a3 a4 = some rr) : MetN l g yX9_mayPut cX9_mayPut 12 (some .boolean) (k2_rm 2 46) [.ref (ad 0), .int a0, .int a1, .int a2, .long a3, .long a4] (mcells g ad w) (mcells g ad w) (some (.int rr)) := by
  refine MetN.of2 [(0, .ref (ad 0)), (1, .int a0), (2, .int a1), (3, .int a2), (4, .long a3), (6, .long a4)] rfl (by decide +kernel) (Nat.le_of_ble_eq_true rfl) ?_
  intro p e s m args below meth c hG hr
  unfold X9_mayPut at hf
  have j48 : ∀ (j48_0 : Int32), X9_mayPut_J48 w a0 a1 a2 a3 a4 j48_0 = some rr → V p l e (k2_rm 2 46) s m args below meth c (inW (mcells g ad w)) (EN below args s g (mcells g ad w) (mcells g ad w) (some (.int rr))) g 12 (mcells g ad w) 0 0 48 [(0, .ref (ad 0)), (1, .int a0), (2, .int a1), (3, .int a2), (4, .long a3), (6, .long a4)] [.int j48_0] := by
    intro j48_0 hf
    unfold X9_mayPut_J48 at hf
    refine v_istore hG [(8, _), (0, _), (1, _), (2, _), (3, _), (4, _), (6, _)] dX9_mayPut_48 (by decide) rfl ?_
    refine v_iconst hG (v := 0) (by decide) dX9_mayPut_50 ?_
    refine v_istore hG [(9, _), (8, _), (0, _), (1, _), (2, _), (3, _), (4, _), (6, _)] dX9_mayPut_51 (by decide) rfl ?_
    refine v_sub [(0, _), (1, _), (2, _), (3, _), (4, _), (6, _), (8, _), (9, _)] [2, 3, 4, 5, 6, 7, 1, 0] rfl ?_
    obtain ⟨z53, hlz53, hf⟩ := bd_some hf
    refine loop_v (step := X9_mayPut_L53 w a0 a1 a2 a3 a4) (fun s53 : Int32 × Int32 => V p l e (k2_rm 2 46) s m args below meth c (inW (mcells g ad w)) (EN below args s g (mcells g ad w) (mcells g ad w) (some (.int rr))) g 12 (mcells g ad w) 0 0 53 [(0, .ref (ad 0)), (1, .int a0), (2, .int a1), (3, .int a2), (4, .long a3), (6, .long a4), (8, .int s53.1), (9, .int s53.2)] []) (fun z53_q : (Int32) => V p l e (k2_rm 2 46) s m args below meth c (inW (mcells g ad w)) (EN below args s g (mcells g ad w) (mcells g ad w) (some (.int rr))) g 12 (mcells g ad w) 0 0 169 [(8, .int z53_q)] []) ?_ 5000 (j48_0, 0) z53 hlz53 ?_
    · intro s53 rL hf hin hout
      unfold X9_mayPut_L53 at hf
      have j163 : ∀ (j163_0 : Int32) (j163_1 : Int32), X9_mayPut_J163 j163_0 j163_1 = some rL → V p l e (k2_rm 2 46) s m args below meth c (inW (mcells g ad w)) (EN below args s g (mcells g ad w) (mcells g ad w) (some (.int rr))) g 12 (mcells g ad w) 0 0 163 [(0, .ref (ad 0)), (1, .int a0), (2, .int a1), (3, .int a2), (4, .long a3), (6, .long a4), (8, .int j163_0), (9, .int j163_1)] [] := by
        intro j163_0 j163_1 hf
        unfold X9_mayPut_J163 at hf
        refine v_iinc hG 7 (v := j163_1 + 1) [(9, _), (0, _), (1, _), (2, _), (3, _), (4, _), (6, _), (8, _)] dX9_mayPut_163 rfl rfl (by decide) rfl ?_
        refine v_goto hG 53 dX9_mayPut_166 rfl ?_
        refine v_sub [(0, _), (1, _), (2, _), (3, _), (4, _), (6, _), (8, _), (9, _)] [1, 2, 3, 4, 5, 6, 7, 0] rfl ?_
        exact hin _ (Option.some.inj hf).symm
      have j161 : ∀ (j161_0 : Int32) (j161_1 : Int32), X9_mayPut_J161 j161_0 j161_1 = some rL → V p l e (k2_rm 2 46) s m args below meth c (inW (mcells g ad w)) (EN below args s g (mcells g ad w) (mcells g ad w) (some (.int rr))) g 12 (mcells g ad w) 0 0 161 [(0, .ref (ad 0)), (1, .int a0), (2, .int a1), (3, .int a2), (4, .long a3), (6, .long a4), (9, .int j161_0)] [.int j161_1] := by
        intro j161_0 j161_1 hf
        unfold X9_mayPut_J161 at hf
        refine v_istore hG [(8, _), (0, _), (1, _), (2, _), (3, _), (4, _), (6, _), (9, _)] dX9_mayPut_161 (by decide) rfl ?_
        refine v_sub [(0, _), (1, _), (2, _), (3, _), (4, _), (6, _), (8, _), (9, _)] [1, 2, 3, 4, 5, 6, 0, 7] rfl ?_
        exact j163 j161_1 j161_0 hf
      have j160 : ∀ (j160_0 : Int32), X9_mayPut_J160 j160_0 = some rL → V p l e (k2_rm 2 46) s m args below meth c (inW (mcells g ad w)) (EN below args s g (mcells g ad w) (mcells g ad w) (some (.int rr))) g 12 (mcells g ad w) 0 0 160 [(0, .ref (ad 0)), (1, .int a0), (2, .int a1), (3, .int a2), (4, .long a3), (6, .long a4), (9, .int j160_0)] [] := by
        intro j160_0 hf
        unfold X9_mayPut_J160 at hf
        refine v_iconst hG (v := 0) (by decide) dX9_mayPut_160 ?_
        exact j161 j160_0 0 hf
      refine v_iload hG 7 rfl dX9_mayPut_53 ?_
      refine v_aload_n hG 0 rfl rfl dX9_mayPut_55 ?_
      refine m_g_0_2 hG wk_1068 dX9_mayPut_56 ?_
      refine v_icmp_ge hG 169 dX9_mayPut_59 rfl hf (fun hf => ?_) (fun hf => ?_)
      · refine v_sub [(8, _)] [6] rfl ?_
        exact hout _ (Option.some.inj hf).symm
      · refine v_iload hG 7 rfl dX9_mayPut_62 ?_
        refine v_iload_n hG 1 rfl rfl dX9_mayPut_64 ?_
        refine v_icmp_eq hG 163 dX9_mayPut_65 rfl hf (fun hf => ?_) (fun hf => ?_)
        · exact j163 s53.1 s53.2 hf
        · refine v_aload_n hG 0 rfl rfl dX9_mayPut_68 ?_
          refine m_g_0_17 hG wk_1083 dX9_mayPut_69 ?_
          refine v_iload hG 7 rfl dX9_mayPut_72 ?_
          refine m_l_14 hG dX9_mayPut_74 hf (fun hf => ?_)
          refine v_if_ne hG 163 dX9_mayPut_75 rfl hf (fun hf => ?_) (fun hf => ?_)
          · exact j163 s53.1 s53.2 hf
          · refine v_aload_n hG 0 rfl rfl dX9_mayPut_78 ?_
            refine v_iload hG 7 rfl dX9_mayPut_79 ?_
            refine v_iload_n hG 2 rfl rfl dX9_mayPut_81 ?_
            obtain ⟨r82, hr82, hf⟩ := bd_some hf
            refine v_callV hG (st := []) 0 9 (ct_X9_isTerm l g ad w s53.2 a1 r82 hr82) iw_X9_isTerm wk_1276 rfl rfl ⟨rfl, rfl, Nat.le_of_ble_eq_true rfl, Nat.le_of_ble_eq_true rfl⟩ ⟨Nat.le_of_ble_eq_true rfl, Nat.le_of_ble_eq_true rfl⟩ rfl rfl (Nat.le_of_ble_eq_true rfl) (mcells_fst _ _ _ _) dX9_mayPut_82 ?_
            refine (show V p l e (k2_rm 2 46) s m args below meth c (inW (mcells g ad w)) (EN below args s g (mcells g ad w) (mcells g ad w) (some (.int rr))) g 12 (mcells g ad w) 0 0 85 [(0, .ref (ad 0)), (1, .int a0), (2, .int a1), (3, .int a2), (4, .long a3), (6, .long a4), (8, .int s53.1), (9, .int s53.2)] [.int r82] from ?_)
            refine v_if_eq hG 163 dX9_mayPut_85 rfl hf (fun hf => ?_) (fun hf => ?_)
            · exact j163 s53.1 s53.2 hf
            · refine v_aload_n hG 0 rfl rfl dX9_mayPut_88 ?_
              refine m_g_0_20 hG wk_1086 dX9_mayPut_89 ?_
              refine v_bipush hG (v := 12) (by decide) dX9_mayPut_92 ?_
              refine v_iload hG 7 rfl dX9_mayPut_94 ?_
              refine v_imul hG dX9_mayPut_96 ?_
              refine v_iload_n hG 2 rfl rfl dX9_mayPut_97 ?_
              refine v_iadd hG dX9_mayPut_98 ?_
              refine m_l_17 hG dX9_mayPut_99 hf (fun hf => ?_)
              refine v_lstore hG [(10, _), (0, _), (1, _), (2, _), (3, _), (4, _), (6, _), (8, _), (9, _)] dX9_mayPut_100 (by decide) rfl ?_
              refine v_iload hG 7 rfl dX9_mayPut_102 ?_
              refine v_if_eq hG 160 dX9_mayPut_104 rfl hf (fun hf => ?_) (fun hf => ?_)
              · refine v_sub [(0, _), (1, _), (2, _), (3, _), (4, _), (6, _), (9, _)] [1, 2, 3, 4, 5, 6, 8] rfl ?_
                exact j160 s53.2 hf
              · refine v_aload_n hG 1 rfl rfl dX9_mayPut_107 ?_
                refine m_g_0_20 hG wk_1086 dX9_mayPut_108 ?_
                refine v_bipush hG (v := 12) (by decide) dX9_mayPut_111 ?_
                refine v_iload hG 8 rfl dX9_mayPut_113 ?_
                refine v_imul hG dX9_mayPut_115 ?_
                refine v_iload_n hG 4 rfl rfl dX9_mayPut_116 ?_
                refine v_iadd hG dX9_mayPut_117 ?_
                refine m_l_17 hG dX9_mayPut_118 hf (fun hf => ?_)
                refine v_lload hG 0 rfl dX9_mayPut_119 ?_
                refine v_lload hG 5 rfl dX9_mayPut_121 ?_
                refine v_lmul hG dX9_mayPut_123 ?_
                refine v_ladd hG dX9_mayPut_124 ?_
                obtain ⟨r125, hr125, hf⟩ := bd_some hf
                refine v_callP hG (st := []) (ct_X9_isCoefficient l g (((gM_coef w) ((12 * s53.2) + a2).toNatClampNeg) + (((gM_coef w) ((12 * s53.2) + a1).toNatClampNeg) * a3)) r125 hr125) sw_X9_isCoefficient wk_1361 ⟨rfl, rfl, Nat.le_of_ble_eq_true rfl, Nat.le_of_ble_eq_true rfl⟩ ⟨Nat.le_of_ble_eq_true rfl, Nat.le_of_ble_eq_true rfl⟩ rfl rfl (Nat.le_of_ble_eq_true rfl) dX9_mayPut_125 ?_
                refine (show V p l e (k2_rm 2 46) s m args below meth c (inW (mcells g ad w)) (EN below args s g (mcells g ad w) (mcells g ad w) (some (.int rr))) g 12 (mcells g ad w) 0 0 128 [(10, .long ((gM_coef w) ((12 * s53.2) + a1).toNatClampNeg)), (0, .ref (ad 0)), (1, .int a0), (2, .int a1), (3, .int a2), (4, .long a3), (6, .long a4), (8, .int s53.1), (9, .int s53.2)] [.int r125] from ?_)
                refine v_if_eq hG 160 dX9_mayPut_128 rfl hf (fun hf => ?_) (fun hf => ?_)
                · refine v_sub [(0, _), (1, _), (2, _), (3, _), (4, _), (6, _), (9, _)] [1, 2, 3, 4, 5, 6, 8] rfl ?_
                  exact j160 s53.2 hf
                · refine v_aload_n hG 1 rfl rfl dX9_mayPut_131 ?_
                  refine m_g_0_18 hG wk_1084 dX9_mayPut_132 ?_
                  refine v_iload hG 8 rfl dX9_mayPut_135 ?_
                  refine m_l_15 hG dX9_mayPut_137 hf (fun hf => ?_)
                  refine v_lload hG 0 rfl dX9_mayPut_138 ?_
                  refine v_lload hG 6 rfl dX9_mayPut_140 ?_
                  refine v_lmul hG dX9_mayPut_142 ?_
                  refine v_lsub hG dX9_mayPut_143 ?_
                  refine v_ldc2 hG wk_1366 dX9_mayPut_144 ?_
                  refine v_ldc2 hG wk_1367 dX9_mayPut_147 ?_
                  obtain ⟨r150, hr150, hf⟩ := bd_some hf
                  refine v_callP hG (st := []) (ct_X9_within l g (((gM_right w) s53.2.toNatClampNeg) - (((gM_coef w) ((12 * s53.2) + a1).toNatClampNeg) * a4)) (-100000000000) 100000000000 r150 hr150) sw_X9_within wk_1207 ⟨rfl, rfl, Nat.le_of_ble_eq_true rfl, Nat.le_of_ble_eq_true rfl⟩ ⟨Nat.le_of_ble_eq_true rfl, Nat.le_of_ble_eq_true rfl⟩ rfl rfl (Nat.le_of_ble_eq_true rfl) dX9_mayPut_150 ?_
                  refine (show V p l e (k2_rm 2 46) s m args below meth c (inW (mcells g ad w)) (EN below args s g (mcells g ad w) (mcells g ad w) (some (.int rr))) g 12 (mcells g ad w) 0 0 153 [(10, .long ((gM_coef w) ((12 * s53.2) + a1).toNatClampNeg)), (0, .ref (ad 0)), (1, .int a0), (2, .int a1), (3, .int a2), (4, .long a3), (6, .long a4), (8, .int s53.1), (9, .int s53.2)] [.int r150] from ?_)
                  refine v_if_eq hG 160 dX9_mayPut_153 rfl hf (fun hf => ?_) (fun hf => ?_)
                  · refine v_sub [(0, _), (1, _), (2, _), (3, _), (4, _), (6, _), (9, _)] [1, 2, 3, 4, 5, 6, 8] rfl ?_
                    exact j160 s53.2 hf
                  · refine v_iconst hG (v := 1) (by decide) dX9_mayPut_156 ?_
                    refine v_goto hG 161 dX9_mayPut_157 rfl ?_
                    refine v_sub [(0, _), (1, _), (2, _), (3, _), (4, _), (6, _), (9, _)] [1, 2, 3, 4, 5, 6, 8] rfl ?_
                    exact j161 s53.2 1 hf
    · show V p l e (k2_rm 2 46) s m args below meth c (inW (mcells g ad w)) (EN below args s g (mcells g ad w) (mcells g ad w) (some (.int rr))) g 12 (mcells g ad w) 0 0 169 [(8, .int z53)] []
      refine v_iload hG 0 rfl dX9_mayPut_169 ?_
      obtain ⟨hb, hf⟩ := gd_some hf
      cases hf
      exact v_zret hG hr (isB_nar hb) dX9_mayPut_171
  have j47 : X9_mayPut_J47 w a0 a1 a2 a3 a4 = some rr → V p l e (k2_rm 2 46) s m args below meth c (inW (mcells g ad w)) (EN below args s g (mcells g ad w) (mcells g ad w) (some (.int rr))) g 12 (mcells g ad w) 0 0 47 [(0, .ref (ad 0)), (1, .int a0), (2, .int a1), (3, .int a2), (4, .long a3), (6, .long a4)] [] := by
    intro hf
    unfold X9_mayPut_J47 at hf
    refine v_iconst hG (v := 0) (by decide) dX9_mayPut_47 ?_
    exact j48 0 hf
  refine v_aload_n hG 0 rfl rfl dX9_mayPut_0 ?_
  refine m_g_0_15 hG wk_1081 dX9_mayPut_1 ?_
  refine v_iload_n hG 3 rfl rfl dX9_mayPut_4 ?_
  refine m_l_12 hG dX9_mayPut_5 hf (fun hf => ?_)
  refine v_lload hG 4 rfl dX9_mayPut_6 ?_
  refine v_aload_n hG 0 rfl rfl dX9_mayPut_8 ?_
  refine m_g_0_15 hG wk_1081 dX9_mayPut_9 ?_
  refine v_iload_n hG 2 rfl rfl dX9_mayPut_12 ?_
  refine m_l_12 hG dX9_mayPut_13 hf (fun hf => ?_)
  refine v_lmul hG dX9_mayPut_14 ?_
  refine v_ladd hG dX9_mayPut_15 ?_
  obtain ⟨r16, hr16, hf⟩ := bd_some hf
  refine v_callP hG (st := []) (ct_X9_isCoefficient l g (((gM_cost w) a2.toNatClampNeg) + (a3 * ((gM_cost w) a1.toNatClampNeg))) r16 hr16) sw_X9_isCoefficient wk_1361 ⟨rfl, rfl, Nat.le_of_ble_eq_true rfl, Nat.le_of_ble_eq_true rfl⟩ ⟨Nat.le_of_ble_eq_true rfl, Nat.le_of_ble_eq_true rfl⟩ rfl rfl (Nat.le_of_ble_eq_true rfl) dX9_mayPut_16 ?_
  refine (show V p l e (k2_rm 2 46) s m args below meth c (inW (mcells g ad w)) (EN below args s g (mcells g ad w) (mcells g ad w) (some (.int rr))) g 12 (mcells g ad w) 0 0 19 [(0, .ref (ad 0)), (1, .int a0), (2, .int a1), (3, .int a2), (4, .long a3), (6, .long a4)] [.int r16] from ?_)
  refine v_if_eq hG 47 dX9_mayPut_19 rfl hf (fun hf => ?_) (fun hf => ?_)
  · exact j47  hf
  · refine v_lload hG 5 rfl dX9_mayPut_22 ?_
    refine v_aload_n hG 0 rfl rfl dX9_mayPut_24 ?_
    refine m_g_0_15 hG wk_1081 dX9_mayPut_25 ?_
    refine v_iload_n hG 2 rfl rfl dX9_mayPut_28 ?_
    refine m_l_12 hG dX9_mayPut_29 hf (fun hf => ?_)
    refine v_lmul hG dX9_mayPut_30 ?_
    refine v_ldc2 hG wk_1364 dX9_mayPut_31 ?_
    refine v_ldc2 hG wk_1365 dX9_mayPut_34 ?_
    obtain ⟨r37, hr37, hf⟩ := bd_some hf
    refine v_callP hG (st := []) (ct_X9_within l g (a4 * ((gM_cost w) a1.toNatClampNeg)) (-1000000000000000) 1000000000000000 r37 hr37) sw_X9_within wk_1207 ⟨rfl, rfl, Nat.le_of_ble_eq_true rfl, Nat.le_of_ble_eq_true rfl⟩ ⟨Nat.le_of_ble_eq_true rfl, Nat.le_of_ble_eq_true rfl⟩ rfl rfl (Nat.le_of_ble_eq_true rfl) dX9_mayPut_37 ?_
    refine (show V p l e (k2_rm 2 46) s m args below meth c (inW (mcells g ad w)) (EN below args s g (mcells g ad w) (mcells g ad w) (some (.int rr))) g 12 (mcells g ad w) 0 0 40 [(0, .ref (ad 0)), (1, .int a0), (2, .int a1), (3, .int a2), (4, .long a3), (6, .long a4)] [.int r37] from ?_)
    refine v_if_eq hG 47 dX9_mayPut_40 rfl hf (fun hf => ?_) (fun hf => ?_)
    · exact j47  hf
    · refine v_iconst hG (v := 1) (by decide) dX9_mayPut_43 ?_
      refine v_goto hG 48 dX9_mayPut_44 rfl ?_
      exact j48 1 hf
def X9_byBounds (w : MW) (a0 : Int32) (a1 : Int32) (a2 : Int32) (a3 : Int64) (a4 : Int64) : Option (MW) := (if inR a1 12 = true then (if inR a1 12 = true then (if inR a0 12 = true then (if inR a1 12 = true then (if inR a0 12 = true then (if inR a1 12 = true then (if a3 ≤ 0 then ((X9_down ((((gM_low w) a1.toNatClampNeg).toInt64) - a4) a3).bind (fun r107 : Int64 => ((X9_narrowHigh w 9 a0 a2 r107 (((gM_rest w) a0.toNatClampNeg) ||| ((gM_lowRest w) a1.toNatClampNeg))).bind (fun r112 : MW => ((X9_up ((((gM_high w) a1.toNatClampNeg).toInt64) - a4) a3).bind (fun r124 : Int64 => ((X9_narrowLow r112 9 a0 a2 r124 (((gM_rest w) a0.toNatClampNeg) ||| ((gM_highRest w) a1.toNatClampNeg))).bind (fun r129 : MW => (some r129))))))))) else ((X9_up ((((gM_low w) a1.toNatClampNeg).toInt64) - a4) a3).bind (fun r70 : Int64 => ((X9_narrowLow w 9 a0 a2 r70 (((gM_rest w) a0.toNatClampNeg) ||| ((gM_lowRest w) a1.toNatClampNeg))).bind (fun r75 : MW => ((X9_down ((((gM_high w) a1.toNatClampNeg).toInt64) - a4) a3).bind (fun r87 : Int64 => ((X9_narrowHigh r75 9 a0 a2 r87 (((gM_rest w) a0.toNatClampNeg) ||| ((gM_highRest w) a1.toNatClampNeg))).bind (fun r92 : MW => (some r92)))))))))) else none) else none) else none) else none) else none) else none)
set_option maxRecDepth 100000 in
set_option maxHeartbeats 4000000 in
theorem ct_X9_byBounds (l : Launch) (g : wG) (ad : Nat → Nat) (w : MW) (a0 : Int32) (a1 : Int32) (a2 : Int32) (a3 : Int64) (a4 : Int64) (rr : MW) (hf : X9_byBounds w a0 a1 a2 a3 a4 = some rr) : MetN l g yX9_byBounds cX9_byBounds 14 none (k2_rm 2 52) [.ref (ad 0), .int a0, .int a1, .int a2, .long a3, .long a4] (mcells g ad w) (mcells g ad rr) none := by
  refine MetN.of2 [(0, .ref (ad 0)), (1, .int a0), (2, .int a1), (3, .int a2), (4, .long a3), (6, .long a4)] rfl (by decide +kernel) (Nat.le_of_ble_eq_true rfl) ?_
  intro p e s m args below meth c hG hr
  unfold X9_byBounds at hf
  refine v_aload_n hG 0 rfl rfl dX9_byBounds_0 ?_
  refine m_g_0_11 hG wk_1077 dX9_byBounds_1 ?_
  refine v_iload_n hG 2 rfl rfl dX9_byBounds_4 ?_
  refine m_l_8 hG dX9_byBounds_5 hf (fun hf => ?_)
  refine v_i2l hG dX9_byBounds_6 ?_
  refine v_lload hG 5 rfl dX9_byBounds_7 ?_
  refine v_lsub hG dX9_byBounds_9 ?_
  refine v_lstore hG [(8, _), (0, _), (1, _), (2, _), (3, _), (4, _), (6, _)] dX9_byBounds_10 (by decide) rfl ?_
  refine v_aload_n hG 1 rfl rfl dX9_byBounds_12 ?_
  refine m_g_0_12 hG wk_1078 dX9_byBounds_13 ?_
  refine v_iload_n hG 3 rfl rfl dX9_byBounds_16 ?_
  refine m_l_9 hG dX9_byBounds_17 hf (fun hf => ?_)
  refine v_i2l hG dX9_byBounds_18 ?_
  refine v_lload hG 6 rfl dX9_byBounds_19 ?_
  refine v_lsub hG dX9_byBounds_21 ?_
  refine v_lstore hG [(10, _), (8, _), (0, _), (1, _), (2, _), (3, _), (4, _), (6, _)] dX9_byBounds_22 (by decide) rfl ?_
  refine v_aload_n hG 2 rfl rfl dX9_byBounds_24 ?_
  refine m_g_0_19 hG wk_1085 dX9_byBounds_25 ?_
  refine v_iload_n hG 3 rfl rfl dX9_byBounds_28 ?_
  refine m_l_16 hG dX9_byBounds_29 hf (fun hf => ?_)
  refine v_aload_n hG 2 rfl rfl dX9_byBounds_30 ?_
  refine m_g_0_13 hG wk_1079 dX9_byBounds_31 ?_
  refine v_iload_n hG 4 rfl rfl dX9_byBounds_34 ?_
  refine m_l_10 hG dX9_byBounds_35 hf (fun hf => ?_)
  refine v_ior hG dX9_byBounds_36 ?_
  refine v_istore hG [(12, _), (10, _), (8, _), (0, _), (1, _), (2, _), (3, _), (4, _), (6, _)] dX9_byBounds_37 (by decide) rfl ?_
  refine v_aload_n hG 3 rfl rfl dX9_byBounds_39 ?_
  refine m_g_0_19 hG wk_1085 dX9_byBounds_40 ?_
  refine v_iload_n hG 4 rfl rfl dX9_byBounds_43 ?_
  refine m_l_16 hG dX9_byBounds_44 hf (fun hf => ?_)
  refine v_aload_n hG 3 rfl rfl dX9_byBounds_45 ?_
  refine m_g_0_14 hG wk_1080 dX9_byBounds_46 ?_
  refine v_iload_n hG 5 rfl rfl dX9_byBounds_49 ?_
  refine m_l_11 hG dX9_byBounds_50 hf (fun hf => ?_)
  refine v_ior hG dX9_byBounds_51 ?_
  refine v_istore hG [(13, _), (12, _), (10, _), (8, _), (0, _), (1, _), (2, _), (3, _), (4, _), (6, _)] dX9_byBounds_52 (by decide) rfl ?_
  refine v_lload hG 8 rfl dX9_byBounds_54 ?_
  refine v_lconst hG (v := 0) (by decide) dX9_byBounds_56 ?_
  refine v_lcmp_le hG 98 dX9_byBounds_57 dX9_byBounds_58 rfl hf (fun hf => ?_) (fun hf => ?_)
  · refine v_aload_n hG 4 rfl rfl dX9_byBounds_98 ?_
    refine v_bipush hG (v := 9) (by decide) dX9_byBounds_99 ?_
    refine v_iload_n hG 5 rfl rfl dX9_byBounds_101 ?_
    refine v_iload_n hG 7 rfl rfl dX9_byBounds_102 ?_
    refine v_lload hG 3 rfl dX9_byBounds_103 ?_
    refine v_lload hG 8 rfl dX9_byBounds_105 ?_
    obtain ⟨r107, hr107, hf⟩ := bd_some hf
    refine v_callP hG (st := [.int a2, .int a0, .int 9, .ref (ad 0)]) (ct_X9_down l g ((((gM_low w) a1.toNatClampNeg).toInt64) - a4) a3 r107 hr107) sw_X9_down wk_1300 ⟨rfl, rfl, Nat.le_of_ble_eq_true rfl, Nat.le_of_ble_eq_true rfl⟩ ⟨Nat.le_of_ble_eq_true rfl, Nat.le_of_ble_eq_true rfl⟩ rfl rfl (Nat.le_of_ble_eq_true rfl) dX9_byBounds_107 ?_
    refine (show V p l e (k2_rm 2 52) s m args below meth c (inW (mcells g ad w)) (EN below args s g (mcells g ad w) (mcells g ad rr) none) g 14 (mcells g ad w) 0 0 110 [(13, .int (((gM_rest w) a0.toNatClampNeg) ||| ((gM_highRest w) a1.toNatClampNeg))), (12, .int (((gM_rest w) a0.toNatClampNeg) ||| ((gM_lowRest w) a1.toNatClampNeg))), (10, .long ((((gM_high w) a1.toNatClampNeg).toInt64) - a4)), (8, .long ((((gM_low w) a1.toNatClampNeg).toInt64) - a4)), (0, .ref (ad 0)), (1, .int a0), (2, .int a1), (3, .int a2), (4, .long a3), (6, .long a4)] [.long r107, .int a2, .int a0, .int 9, .ref (ad 0)] from ?_)
    refine v_iload hG 1 rfl dX9_byBounds_110 ?_
    obtain ⟨r112, hr112, hf⟩ := bd_some hf
    refine v_callV hG (st := []) 0 9 (ct_X9_narrowHigh l g ad w 9 a0 a2 r107 (((gM_rest w) a0.toNatClampNeg) ||| ((gM_lowRest w) a1.toNatClampNeg)) r112 hr112) iw_X9_narrowHigh wk_1314 rfl rfl ⟨rfl, rfl, Nat.le_of_ble_eq_true rfl, Nat.le_of_ble_eq_true rfl⟩ ⟨Nat.le_of_ble_eq_true rfl, Nat.le_of_ble_eq_true rfl⟩ rfl rfl (Nat.le_of_ble_eq_true rfl) (mcells_fst _ _ _ _) dX9_byBounds_112 ?_
    refine (show V p l e (k2_rm 2 52) s m args below meth c (inW (mcells g ad w)) (EN below args s g (mcells g ad w) (mcells g ad rr) none) g 14 (mcells g ad r112) 0 0 115 [(13, .int (((gM_rest w) a0.toNatClampNeg) ||| ((gM_highRest w) a1.toNatClampNeg))), (12, .int (((gM_rest w) a0.toNatClampNeg) ||| ((gM_lowRest w) a1.toNatClampNeg))), (10, .long ((((gM_high w) a1.toNatClampNeg).toInt64) - a4)), (8, .long ((((gM_low w) a1.toNatClampNeg).toInt64) - a4)), (0, .ref (ad 0)), (1, .int a0), (2, .int a1), (3, .int a2), (4, .long a3), (6, .long a4)] [] from ?_)
    refine v_aload_n hG 4 rfl rfl dX9_byBounds_115 ?_
    refine v_bipush hG (v := 9) (by decide) dX9_byBounds_116 ?_
    refine v_iload_n hG 5 rfl rfl dX9_byBounds_118 ?_
    refine v_iload_n hG 7 rfl rfl dX9_byBounds_119 ?_
    refine v_lload hG 2 rfl dX9_byBounds_120 ?_
    refine v_lload hG 8 rfl dX9_byBounds_122 ?_
    obtain ⟨r124, hr124, hf⟩ := bd_some hf
    refine v_callP hG (st := [.int a2, .int a0, .int 9, .ref (ad 0)]) (ct_X9_up l g ((((gM_high w) a1.toNatClampNeg).toInt64) - a4) a3 r124 hr124) sw_X9_up wk_1307 ⟨rfl, rfl, Nat.le_of_ble_eq_true rfl, Nat.le_of_ble_eq_true rfl⟩ ⟨Nat.le_of_ble_eq_true rfl, Nat.le_of_ble_eq_true rfl⟩ rfl rfl (Nat.le_of_ble_eq_true rfl) dX9_byBounds_124 ?_
    refine (show V p l e (k2_rm 2 52) s m args below meth c (inW (mcells g ad w)) (EN below args s g (mcells g ad w) (mcells g ad rr) none) g 14 (mcells g ad r112) 0 0 127 [(13, .int (((gM_rest w) a0.toNatClampNeg) ||| ((gM_highRest w) a1.toNatClampNeg))), (12, .int (((gM_rest w) a0.toNatClampNeg) ||| ((gM_lowRest w) a1.toNatClampNeg))), (10, .long ((((gM_high w) a1.toNatClampNeg).toInt64) - a4)), (8, .long ((((gM_low w) a1.toNatClampNeg).toInt64) - a4)), (0, .ref (ad 0)), (1, .int a0), (2, .int a1), (3, .int a2), (4, .long a3), (6, .long a4)] [.long r124, .int a2, .int a0, .int 9, .ref (ad 0)] from ?_)
    refine v_iload hG 0 rfl dX9_byBounds_127 ?_
    obtain ⟨r129, hr129, hf⟩ := bd_some hf
    refine v_callV hG (st := []) 0 9 (ct_X9_narrowLow l g ad r112 9 a0 a2 r124 (((gM_rest w) a0.toNatClampNeg) ||| ((gM_highRest w) a1.toNatClampNeg)) r129 hr129) iw_X9_narrowLow wk_1310 rfl rfl ⟨rfl, rfl, Nat.le_of_ble_eq_true rfl, Nat.le_of_ble_eq_true rfl⟩ ⟨Nat.le_of_ble_eq_true rfl, Nat.le_of_ble_eq_true rfl⟩ rfl rfl (Nat.le_of_ble_eq_true rfl) (mcells_fst _ _ _ _) dX9_byBounds_129 ?_
    refine (show V p l e (k2_rm 2 52) s m args below meth c (inW (mcells g ad w)) (EN below args s g (mcells g ad w) (mcells g ad rr) none) g 14 (mcells g ad r129) 0 0 132 [(13, .int (((gM_rest w) a0.toNatClampNeg) ||| ((gM_highRest w) a1.toNatClampNeg))), (12, .int (((gM_rest w) a0.toNatClampNeg) ||| ((gM_lowRest w) a1.toNatClampNeg))), (10, .long ((((gM_high w) a1.toNatClampNeg).toInt64) - a4)), (8, .long ((((gM_low w) a1.toNatClampNeg).toInt64) - a4)), (0, .ref (ad 0)), (1, .int a0), (2, .int a1), (3, .int a2), (4, .long a3), (6, .long a4)] [] from ?_)
    cases hf
    exact v_vret hG hr dX9_byBounds_132
  · refine v_aload_n hG 4 rfl rfl dX9_byBounds_61 ?_
    refine v_bipush hG (v := 9) (by decide) dX9_byBounds_62 ?_
    refine v_iload_n hG 5 rfl rfl dX9_byBounds_64 ?_
    refine v_iload_n hG 7 rfl rfl dX9_byBounds_65 ?_
    refine v_lload hG 3 rfl dX9_byBounds_66 ?_
    refine v_lload hG 8 rfl dX9_byBounds_68 ?_
    obtain ⟨r70, hr70, hf⟩ := bd_some hf
    refine v_callP hG (st := [.int a2, .int a0, .int 9, .ref (ad 0)]) (ct_X9_up l g ((((gM_low w) a1.toNatClampNeg).toInt64) - a4) a3 r70 hr70) sw_X9_up wk_1307 ⟨rfl, rfl, Nat.le_of_ble_eq_true rfl, Nat.le_of_ble_eq_true rfl⟩ ⟨Nat.le_of_ble_eq_true rfl, Nat.le_of_ble_eq_true rfl⟩ rfl rfl (Nat.le_of_ble_eq_true rfl) dX9_byBounds_70 ?_
    refine (show V p l e (k2_rm 2 52) s m args below meth c (inW (mcells g ad w)) (EN below args s g (mcells g ad w) (mcells g ad rr) none) g 14 (mcells g ad w) 0 0 73 [(13, .int (((gM_rest w) a0.toNatClampNeg) ||| ((gM_highRest w) a1.toNatClampNeg))), (12, .int (((gM_rest w) a0.toNatClampNeg) ||| ((gM_lowRest w) a1.toNatClampNeg))), (10, .long ((((gM_high w) a1.toNatClampNeg).toInt64) - a4)), (8, .long ((((gM_low w) a1.toNatClampNeg).toInt64) - a4)), (0, .ref (ad 0)), (1, .int a0), (2, .int a1), (3, .int a2), (4, .long a3), (6, .long a4)] [.long r70, .int a2, .int a0, .int 9, .ref (ad 0)] from ?_)
    refine v_iload hG 1 rfl dX9_byBounds_73 ?_
    obtain ⟨r75, hr75, hf⟩ := bd_some hf
    refine v_callV hG (st := []) 0 9 (ct_X9_narrowLow l g ad w 9 a0 a2 r70 (((gM_rest w) a0.toNatClampNeg) ||| ((gM_lowRest w) a1.toNatClampNeg)) r75 hr75) iw_X9_narrowLow wk_1310 rfl rfl ⟨rfl, rfl, Nat.le_of_ble_eq_true rfl, Nat.le_of_ble_eq_true rfl⟩ ⟨Nat.le_of_ble_eq_true rfl, Nat.le_of_ble_eq_true rfl⟩ rfl rfl (Nat.le_of_ble_eq_true rfl) (mcells_fst _ _ _ _) dX9_byBounds_75 ?_
    refine (show V p l e (k2_rm 2 52) s m args below meth c (inW (mcells g ad w)) (EN below args s g (mcells g ad w) (mcells g ad rr) none) g 14 (mcells g ad r75) 0 0 78 [(13, .int (((gM_rest w) a0.toNatClampNeg) ||| ((gM_highRest w) a1.toNatClampNeg))), (12, .int (((gM_rest w) a0.toNatClampNeg) ||| ((gM_lowRest w) a1.toNatClampNeg))), (10, .long ((((gM_high w) a1.toNatClampNeg).toInt64) - a4)), (8, .long ((((gM_low w) a1.toNatClampNeg).toInt64) - a4)), (0, .ref (ad 0)), (1, .int a0), (2, .int a1), (3, .int a2), (4, .long a3), (6, .long a4)] [] from ?_)
    refine v_aload_n hG 4 rfl rfl dX9_byBounds_78 ?_
    refine v_bipush hG (v := 9) (by decide) dX9_byBounds_79 ?_
    refine v_iload_n hG 5 rfl rfl dX9_byBounds_81 ?_
    refine v_iload_n hG 7 rfl rfl dX9_byBounds_82 ?_
    refine v_lload hG 2 rfl dX9_byBounds_83 ?_
    refine v_lload hG 8 rfl dX9_byBounds_85 ?_
    obtain ⟨r87, hr87, hf⟩ := bd_some hf
    refine v_callP hG (st := [.int a2, .int a0, .int 9, .ref (ad 0)]) (ct_X9_down l g ((((gM_high w) a1.toNatClampNeg).toInt64) - a4) a3 r87 hr87) sw_X9_down wk_1300 ⟨rfl, rfl, Nat.le_of_ble_eq_true rfl, Nat.le_of_ble_eq_true rfl⟩ ⟨Nat.le_of_ble_eq_true rfl, Nat.le_of_ble_eq_true rfl⟩ rfl rfl (Nat.le_of_ble_eq_true rfl) dX9_byBounds_87 ?_
    refine (show V p l e (k2_rm 2 52) s m args below meth c (inW (mcells g ad w)) (EN below args s g (mcells g ad w) (mcells g ad rr) none) g 14 (mcells g ad r75) 0 0 90 [(13, .int (((gM_rest w) a0.toNatClampNeg) ||| ((gM_highRest w) a1.toNatClampNeg))), (12, .int (((gM_rest w) a0.toNatClampNeg) ||| ((gM_lowRest w) a1.toNatClampNeg))), (10, .long ((((gM_high w) a1.toNatClampNeg).toInt64) - a4)), (8, .long ((((gM_low w) a1.toNatClampNeg).toInt64) - a4)), (0, .ref (ad 0)), (1, .int a0), (2, .int a1), (3, .int a2), (4, .long a3), (6, .long a4)] [.long r87, .int a2, .int a0, .int 9, .ref (ad 0)] from ?_)
    refine v_iload hG 0 rfl dX9_byBounds_90 ?_
    obtain ⟨r92, hr92, hf⟩ := bd_some hf
    refine v_callV hG (st := []) 0 9 (ct_X9_narrowHigh l g ad r75 9 a0 a2 r87 (((gM_rest w) a0.toNatClampNeg) ||| ((gM_highRest w) a1.toNatClampNeg)) r92 hr92) iw_X9_narrowHigh wk_1314 rfl rfl ⟨rfl, rfl, Nat.le_of_ble_eq_true rfl, Nat.le_of_ble_eq_true rfl⟩ ⟨Nat.le_of_ble_eq_true rfl, Nat.le_of_ble_eq_true rfl⟩ rfl rfl (Nat.le_of_ble_eq_true rfl) (mcells_fst _ _ _ _) dX9_byBounds_92 ?_
    refine (show V p l e (k2_rm 2 52) s m args below meth c (inW (mcells g ad w)) (EN below args s g (mcells g ad w) (mcells g ad rr) none) g 14 (mcells g ad r92) 0 0 95 [(13, .int (((gM_rest w) a0.toNatClampNeg) ||| ((gM_highRest w) a1.toNatClampNeg))), (12, .int (((gM_rest w) a0.toNatClampNeg) ||| ((gM_lowRest w) a1.toNatClampNeg))), (10, .long ((((gM_high w) a1.toNatClampNeg).toInt64) - a4)), (8, .long ((((gM_low w) a1.toNatClampNeg).toInt64) - a4)), (0, .ref (ad 0)), (1, .int a0), (2, .int a1), (3, .int a2), (4, .long a3), (6, .long a4)] [] from ?_)
    refine v_goto hG 132 dX9_byBounds_95 rfl ?_
    cases hf
    exact v_vret hG hr dX9_byBounds_132
def X9_goes (w : MW) (a0 : Int32) (a1 : Int32) (a2 : Int32) (a3 : Int64) : Option (MW) := (if inR a2 12 = true then (bnd (sM_offset w ((gM_offset w) + (a3 * ((gM_cost w) a2.toNatClampNeg)))) (fun w15 : MW => (if inR a2 12 = true then (bnd (sM_base w15 (vp_updL (gM_base w15) a2.toNatClampNeg a3)) (fun w25 : MW => (if inR (gM_putIns w25) 12 = true then (bnd (sM_putIn w25 (upd (gM_putIn w25) (gM_putIns w25).toNatClampNeg a2)) (fun w35 : MW => (bnd (sM_putIns w35 ((gM_putIns w35) + 1)) (fun w43 : MW => (if inR a2 12 = true then (bnd (sM_state w43 (upd (gM_state w43) a2.toNatClampNeg 2)) (fun w52 : MW => (if inR a1 12 = true then (bnd (sM_gone w52 (upd (gM_gone w52) a1.toNatClampNeg (vp_nar .boolean 1))) (fun w59 : MW => ((X9_act w59 a0 a1 a2 5 a3).bind (fun r67 : MW => (some r67))))) else none))) else none))))) else none))) else none))) else none)
set_option maxRecDepth 100000 in
set_option maxHeartbeats 4000000 in
theorem ct_X9_goes (l : Launch) (g : wG) (ad : Nat → Nat) (w : MW) (a0 : Int32) (a1 : Int32) (a2 : Int32) (a3 : Int64) (rr : MW) (hf : X9_goes w a0 a1 a2 a3 = some rr) : MetN l g yX9_goes cX9_goes 6 none (k2_rm 1 26) [.ref (ad 0), .int a0, .int a1, .int a2, .long a3] (mcells g ad w) (mcells g ad rr) none := by
  refine MetN.of2 [(0, .ref (ad 0)), (1, .int a0), (2, .int a1), (3, .int a2), (4, .long a3)] rfl (by decide +kernel) (Nat.le_of_ble_eq_true rfl) ?_
  intro p e s m args below meth c hG hr
  unfold X9_goes at hf
  refine v_aload_n hG 0 rfl rfl dX9_goes_0 ?_
  refine v_dup hG rfl dX9_goes_1 ?_
  refine m_g_0_21 hG wk_1087 dX9_goes_2 ?_
  refine v_lload hG 4 rfl dX9_goes_5 ?_
  refine v_aload_n hG 0 rfl rfl dX9_goes_7 ?_
  refine m_g_0_15 hG wk_1081 dX9_goes_8 ?_
  refine v_iload_n hG 3 rfl rfl dX9_goes_11 ?_
  refine m_l_12 hG dX9_goes_12 hf (fun hf => ?_)
  refine v_lmul hG dX9_goes_13 ?_
  refine v_ladd hG dX9_goes_14 ?_
  refine m_p_0_21 hG wk_1087 dX9_goes_15 hf (fun w15 hf => ?_)
  refine v_aload_n hG 0 rfl rfl dX9_goes_18 ?_
  refine m_g_0_31 hG wk_1097 dX9_goes_19 ?_
  refine v_iload_n hG 3 rfl rfl dX9_goes_22 ?_
  refine v_lload hG 4 rfl dX9_goes_23 ?_
  refine m_s_24 hG dX9_goes_25 hf (fun w25 hf => ?_)
  refine v_aload_n hG 0 rfl rfl dX9_goes_26 ?_
  refine m_g_0_30 hG wk_1096 dX9_goes_27 ?_
  refine v_aload_n hG 0 rfl rfl dX9_goes_30 ?_
  refine m_g_0_29 hG wk_1095 dX9_goes_31 ?_
  refine v_iload_n hG 3 rfl rfl dX9_goes_34 ?_
  refine m_s_23 hG dX9_goes_35 hf (fun w35 hf => ?_)
  refine v_aload_n hG 0 rfl rfl dX9_goes_36 ?_
  refine v_dup hG rfl dX9_goes_37 ?_
  refine m_g_0_29 hG wk_1095 dX9_goes_38 ?_
  refine v_iconst hG (v := 1) (by decide) dX9_goes_41 ?_
  refine v_iadd hG dX9_goes_42 ?_
  refine m_p_0_29 hG wk_1095 dX9_goes_43 hf (fun w43 hf => ?_)
  refine v_aload_n hG 0 rfl rfl dX9_goes_46 ?_
  refine m_g_0_10 hG wk_1076 dX9_goes_47 ?_
  refine v_iload_n hG 3 rfl rfl dX9_goes_50 ?_
  refine v_iconst hG (v := 2) (by decide) dX9_goes_51 ?_
  refine m_s_7 hG dX9_goes_52 hf (fun w52 hf => ?_)
  refine v_aload_n hG 0 rfl rfl dX9_goes_53 ?_
  refine m_g_0_17 hG wk_1083 dX9_goes_54 ?_
  refine v_iload_n hG 2 rfl rfl dX9_goes_57 ?_
  refine v_iconst hG (v := 1) (by decide) dX9_goes_58 ?_
  refine m_s_14 hG dX9_goes_59 hf (fun w59 hf => ?_)
  refine v_aload_n hG 0 rfl rfl dX9_goes_60 ?_
  refine v_iload_n hG 1 rfl rfl dX9_goes_61 ?_
  refine v_iload_n hG 2 rfl rfl dX9_goes_62 ?_
  refine v_iload_n hG 3 rfl rfl dX9_goes_63 ?_
  refine v_iconst hG (v := 5) (by decide) dX9_goes_64 ?_
  refine v_lload hG 4 rfl dX9_goes_65 ?_
  obtain ⟨r67, hr67, hf⟩ := bd_some hf
  refine v_callV hG (st := []) 0 9 (ct_X9_act l g ad w59 a0 a1 a2 5 a3 r67 hr67) iw_X9_act wk_1284 rfl rfl ⟨rfl, rfl, Nat.le_of_ble_eq_true rfl, Nat.le_of_ble_eq_true rfl⟩ ⟨Nat.le_of_ble_eq_true rfl, Nat.le_of_ble_eq_true rfl⟩ rfl rfl (Nat.le_of_ble_eq_true rfl) (mcells_fst _ _ _ _) dX9_goes_67 ?_
  refine (show V p l e (k2_rm 1 26) s m args below meth c (inW (mcells g ad w)) (EN below args s g (mcells g ad w) (mcells g ad rr) none) g 6 (mcells g ad r67) 0 0 70 [(0, .ref (ad 0)), (1, .int a0), (2, .int a1), (3, .int a2), (4, .long a3)] [] from ?_)
  cases hf
  exact v_vret hG hr dX9_goes_70
def X9_puts_J51  (j51_0 : Int32) (j51_1 : Int32) (j51_2 : Int32) : Option ((Int32 × Int32 × Int32) ⊕ ((Int32 × Int32))) := (some (.inl (j51_0, j51_1, (j51_2 + 1))))
def X9_puts_L27 (w : MW) (a0 : Int32) (s27 : Int32 × Int32 × Int32) : Option ((Int32 × Int32 × Int32) ⊕ ((Int32 × Int32))) := (if (gM_columns w) ≤ s27.2.2 then (some (.inr (s27.1, s27.2.1))) else ((X9_isTerm w a0 s27.2.2).bind (fun r40 : Int32 => (if r40 = 0 then (X9_puts_J51 s27.1 s27.2.1 s27.2.2) else (X9_puts_J51 s27.2.1 s27.2.2 s27.2.2)))))
def X9_puts_J285  (j285_0 : MW) (j285_1 : Int32) : Option ((MW × Int32) ⊕ ((MW))) := (some (.inl (j285_0, (j285_1 + 1))))
def X9_puts_L182 (a0 : Int32) (j79_0 : MW) (j79_1 : Int32) (j79_2 : Int32) (j79_3 : Int32) (s182 : MW × Int32) : Option ((MW × Int32) ⊕ ((MW))) := (if (gM_rows s182.1) ≤ s182.2 then (some (.inr s182.1)) else (if s182.2 = a0 then (X9_puts_J285 s182.1 s182.2) else (if inR s182.2 12 = true then (if ((gM_gone s182.1) s182.2.toNatClampNeg) = 0 then ((X9_isTerm s182.1 s182.2 j79_3).bind (fun r212 : Int32 => (if r212 = 0 then (X9_puts_J285 s182.1 s182.2) else (if inR ((12 * s182.2) + j79_3) 144 = true then (if inR ((12 * s182.2) + ((j79_1 + j79_2) - j79_3)) 144 = true then (if inR ((12 * s182.2) + ((j79_1 + j79_2) - j79_3)) 144 = true then (bnd (sM_coef s182.1 (vp_updL (gM_coef s182.1) ((12 * s182.2) + ((j79_1 + j79_2) - j79_3)).toNatClampNeg (((gM_coef s182.1) ((12 * s182.2) + ((j79_1 + j79_2) - j79_3)).toNatClampNeg) + (((gM_coef s182.1) ((12 * s182.2) + j79_3).toNatClampNeg) * ((-((gM_coef j79_0) ((12 * a0) + j79_3).toNatClampNeg)) * ((gM_coef j79_0) ((12 * a0) + ((j79_1 + j79_2) - j79_3)).toNatClampNeg)))))) (fun w253 : MW => (if inR s182.2 12 = true then (if inR s182.2 12 = true then (bnd (sM_right w253 (vp_updL (gM_right w253) s182.2.toNatClampNeg (((gM_right w253) s182.2.toNatClampNeg) - (((gM_coef s182.1) ((12 * s182.2) + j79_3).toNatClampNeg) * (((gM_coef j79_0) ((12 * a0) + j79_3).toNatClampNeg) * ((gM_right j79_0) a0.toNatClampNeg)))))) (fun w268 : MW => (if inR s182.2 12 = true then (if inR a0 12 = true then (if inR s182.2 12 = true then (bnd (sM_rest w268 (upd (gM_rest w268) s182.2.toNatClampNeg (((gM_rest w268) s182.2.toNatClampNeg) ||| ((gM_rest w268) a0.toNatClampNeg)))) (fun w284 : MW => (X9_puts_J285 w284 s182.2))) else none) else none) else none))) else none) else none))) else none) else none) else none)))) else (X9_puts_J285 s182.1 s182.2)) else none)))
def X9_puts_J348  (j348_0 : MW) (j348_1 : Int32) (j348_2 : Int32) (j348_3 : Int64) : Option ((MW × Int32) ⊕ ((MW))) := (if inR j348_2 144 = true then (bnd (sM_often j348_0 (vp_updL (gM_often j348_0) j348_2.toNatClampNeg j348_3)) (fun w348 : MW => (some (.inl (w348, (j348_1 + 1)))))) else none)
def X9_puts_L314 (a0 : Int32) (j79_0 : MW) (j79_1 : Int32) (j79_2 : Int32) (j79_3 : Int32) (s314 : MW × Int32) : Option ((MW × Int32) ⊕ ((MW))) := (if (gM_columns s314.1) ≤ s314.2 then (some (.inr s314.1)) else (if s314.2 = ((j79_1 + j79_2) - j79_3) then (X9_puts_J348 s314.1 s314.2 ((12 * j79_3) + s314.2) ((-((gM_coef j79_0) ((12 * a0) + j79_3).toNatClampNeg)) * ((gM_coef j79_0) ((12 * a0) + ((j79_1 + j79_2) - j79_3)).toNatClampNeg))) else (X9_puts_J348 s314.1 s314.2 ((12 * j79_3) + s314.2) 0)))
def X9_puts_J79 (a0 : Int32) (j79_0 : MW) (j79_1 : Int32) (j79_2 : Int32) (j79_3 : Int32) : Option (MW) := (if inR ((12 * a0) + j79_3) 144 = true then ((X9_isUnit ((gM_coef j79_0) ((12 * a0) + j79_3).toNatClampNeg)).bind (fun r105 : Int32 => (if r105 = 0 then (some j79_0) else (if inR ((12 * a0) + ((j79_1 + j79_2) - j79_3)) 144 = true then (if inR a0 12 = true then ((X9_mayPut j79_0 a0 j79_3 ((j79_1 + j79_2) - j79_3) ((-((gM_coef j79_0) ((12 * a0) + j79_3).toNatClampNeg)) * ((gM_coef j79_0) ((12 * a0) + ((j79_1 + j79_2) - j79_3)).toNatClampNeg)) (((gM_coef j79_0) ((12 * a0) + j79_3).toNatClampNeg) * ((gM_right j79_0) a0.toNatClampNeg))).bind (fun r151 : Int32 => (if r151 = 0 then (some j79_0) else ((X9_byBounds j79_0 a0 j79_3 ((j79_1 + j79_2) - j79_3) ((-((gM_coef j79_0) ((12 * a0) + j79_3).toNatClampNeg)) * ((gM_coef j79_0) ((12 * a0) + ((j79_1 + j79_2) - j79_3)).toNatClampNeg)) (((gM_coef j79_0) ((12 * a0) + j79_3).toNatClampNeg) * ((gM_right j79_0) a0.toNatClampNeg))).bind (fun r168 : MW => ((X9_goesOn r168).bind (fun r172 : Int32 => (if r172 = 0 then (some r168) else ((iter (X9_puts_L182 a0 j79_0 j79_1 j79_2 j79_3) 5000 (r168, 0)).bind (fun z182 : (MW) => (if inR ((j79_1 + j79_2) - j79_3) 12 = true then (if inR j79_3 12 = true then (if inR ((j79_1 + j79_2) - j79_3) 12 = true then (bnd (sM_cost z182 (vp_updL (gM_cost z182) ((j79_1 + j79_2) - j79_3).toNatClampNeg (((gM_cost z182) ((j79_1 + j79_2) - j79_3).toNatClampNeg) + (((-((gM_coef j79_0) ((12 * a0) + j79_3).toNatClampNeg)) * ((gM_coef j79_0) ((12 * a0) + ((j79_1 + j79_2) - j79_3)).toNatClampNeg)) * ((gM_cost z182) j79_3.toNatClampNeg))))) (fun w310 : MW => ((iter (X9_puts_L314 a0 j79_0 j79_1 j79_2 j79_3) 5000 (w310, 0)).bind (fun z314 : (MW) => ((X9_goes z314 9 a0 j79_3 (((gM_coef j79_0) ((12 * a0) + j79_3).toNatClampNeg) * ((gM_right j79_0) a0.toNatClampNeg))).bind (fun r363 : MW => (some r363))))))) else none) else none) else none))))))))))) else none) else none)))) else none)
def X9_puts (w : MW) (a0 : Int32) : Option (MW) := (if inR a0 12 = true then (if ((gM_kind w) a0.toNatClampNeg) = 1 then ((X9_terms w a0).bind (fun r12 : Int32 => (if r12 = 2 then ((iter (X9_puts_L27 w a0) 5000 ((-1), (-1), 0)).bind (fun z27 : (Int32 × Int32) => (if inR ((12 * a0) + z27.2) 144 = true then ((X9_isUnit ((gM_coef w) ((12 * a0) + z27.2).toNatClampNeg)).bind (fun r68 : Int32 => (if r68 = 0 then (X9_puts_J79 a0 w z27.1 z27.2 z27.1) else (X9_puts_J79 a0 w z27.1 z27.2 z27.2)))) else none))) else (some w)))) else (some w)) else none)
set_option maxRecDepth 100000 in
set_option maxHeartbeats 4000000 in
theorem ct_X9_puts (l : Launch) (g : wG) (ad : Nat → Nat) (w : MW) (a0 : Int32) (rr : MW) (hf : X9_puts w a0 = some rr) : MetN l g yX9_puts cX9_puts 15 none (k2_rm 3 85) [.ref (ad 0), .int a0] (mcells g ad w) (mcells g ad rr) none := by
  refine MetN.of2 [(0, .ref (ad 0)), (1, .int a0)] rfl (by decide +kernel) (Nat.le_of_ble_eq_true rfl) ?_
  intro p e s m args below meth c hG hr
  unfold X9_puts at hf
  have j79 : ∀ (j79_0 : MW) (j79_1 : Int32) (j79_2 : Int32) (j79_3 : Int32), X9_puts_J79 a0 j79_0 j79_1 j79_2 j79_3 = some rr → V p l e (k2_rm 3 85) s m args below meth c (inW (mcells g ad w)) (EN below args s g (mcells g ad w) (mcells g ad rr) none) g 15 (mcells g ad j79_0) 0 0 79 [(0, .ref (ad 0)), (1, .int a0), (2, .int j79_1), (3, .int j79_2)] [.int j79_3] := by
    intro j79_0 j79_1 j79_2 j79_3 hf
    unfold X9_puts_J79 at hf
    refine v_istore hG [(4, _), (0, _), (1, _), (2, _), (3, _)] dX9_puts_79 (by decide) rfl ?_
    refine v_iload_n hG 3 rfl rfl dX9_puts_81 ?_
    refine v_iload_n hG 4 rfl rfl dX9_puts_82 ?_
    refine v_iadd hG dX9_puts_83 ?_
    refine v_iload hG 0 rfl dX9_puts_84 ?_
    refine v_isub hG dX9_puts_86 ?_
    refine v_istore hG [(5, _), (4, _), (0, _), (1, _), (2, _), (3, _)] dX9_puts_87 (by decide) rfl ?_
    refine v_aload_n hG 2 rfl rfl dX9_puts_89 ?_
    refine m_g_0_20 hG wk_1086 dX9_puts_90 ?_
    refine v_bipush hG (v := 12) (by decide) dX9_puts_93 ?_
    refine v_iload_n hG 3 rfl rfl dX9_puts_95 ?_
    refine v_imul hG dX9_puts_96 ?_
    refine v_iload hG 1 rfl dX9_puts_97 ?_
    refine v_iadd hG dX9_puts_99 ?_
    refine m_l_17 hG dX9_puts_100 hf (fun hf => ?_)
    refine v_lstore hG [(6, _), (5, _), (4, _), (0, _), (1, _), (2, _), (3, _)] dX9_puts_101 (by decide) rfl ?_
    refine v_lload hG 0 rfl dX9_puts_103 ?_
    obtain ⟨r105, hr105, hf⟩ := bd_some hf
    refine v_callP hG (st := []) (ct_X9_isUnit l g ((gM_coef j79_0) ((12 * a0) + j79_3).toNatClampNeg) r105 hr105) sw_X9_isUnit wk_1354 ⟨rfl, rfl, Nat.le_of_ble_eq_true rfl, Nat.le_of_ble_eq_true rfl⟩ ⟨Nat.le_of_ble_eq_true rfl, Nat.le_of_ble_eq_true rfl⟩ rfl rfl (Nat.le_of_ble_eq_true rfl) dX9_puts_105 ?_
    refine (show V p l e (k2_rm 3 85) s m args below meth c (inW (mcells g ad w)) (EN below args s g (mcells g ad w) (mcells g ad rr) none) g 15 (mcells g ad j79_0) 0 0 108 [(6, .long ((gM_coef j79_0) ((12 * a0) + j79_3).toNatClampNeg)), (5, .int ((j79_1 + j79_2) - j79_3)), (4, .int j79_3), (0, .ref (ad 0)), (1, .int a0), (2, .int j79_1), (3, .int j79_2)] [.int r105] from ?_)
    refine v_if_ne hG 112 dX9_puts_108 rfl hf (fun hf => ?_) (fun hf => ?_)
    · refine v_lload hG 0 rfl dX9_puts_112 ?_
      refine v_lneg hG dX9_puts_114 ?_
      refine v_aload_n hG 3 rfl rfl dX9_puts_115 ?_
      refine m_g_0_20 hG wk_1086 dX9_puts_116 ?_
      refine v_bipush hG (v := 12) (by decide) dX9_puts_119 ?_
      refine v_iload_n hG 4 rfl rfl dX9_puts_121 ?_
      refine v_imul hG dX9_puts_122 ?_
      refine v_iload hG 1 rfl dX9_puts_123 ?_
      refine v_iadd hG dX9_puts_125 ?_
      refine m_l_17 hG dX9_puts_126 hf (fun hf => ?_)
      refine v_lmul hG dX9_puts_127 ?_
      refine v_lstore hG [(8, _), (6, _), (5, _), (4, _), (0, _), (1, _), (2, _), (3, _)] dX9_puts_128 (by decide) rfl ?_
      refine v_lload hG 1 rfl dX9_puts_130 ?_
      refine v_aload_n hG 4 rfl rfl dX9_puts_132 ?_
      refine m_g_0_18 hG wk_1084 dX9_puts_133 ?_
      refine v_iload_n hG 5 rfl rfl dX9_puts_136 ?_
      refine m_l_15 hG dX9_puts_137 hf (fun hf => ?_)
      refine v_lmul hG dX9_puts_138 ?_
      refine v_lstore hG [(10, _), (8, _), (6, _), (5, _), (4, _), (0, _), (1, _), (2, _), (3, _)] dX9_puts_139 (by decide) rfl ?_
      refine v_aload_n hG 5 rfl rfl dX9_puts_141 ?_
      refine v_iload_n hG 6 rfl rfl dX9_puts_142 ?_
      refine v_iload hG 4 rfl dX9_puts_143 ?_
      refine v_iload hG 3 rfl dX9_puts_145 ?_
      refine v_lload hG 1 rfl dX9_puts_147 ?_
      refine v_lload hG 0 rfl dX9_puts_149 ?_
      obtain ⟨r151, hr151, hf⟩ := bd_some hf
      refine v_callV hG (st := []) 0 9 (ct_X9_mayPut l g ad j79_0 a0 j79_3 ((j79_1 + j79_2) - j79_3) ((-((gM_coef j79_0) ((12 * a0) + j79_3).toNatClampNeg)) * ((gM_coef j79_0) ((12 * a0) + ((j79_1 + j79_2) - j79_3)).toNatClampNeg)) (((gM_coef j79_0) ((12 * a0) + j79_3).toNatClampNeg) * ((gM_right j79_0) a0.toNatClampNeg)) r151 hr151) iw_X9_mayPut wk_1357 rfl rfl ⟨rfl, rfl, Nat.le_of_ble_eq_true rfl, Nat.le_of_ble_eq_true rfl⟩ ⟨Nat.le_of_ble_eq_true rfl, Nat.le_of_ble_eq_true rfl⟩ rfl rfl (Nat.le_of_ble_eq_true rfl) (mcells_fst _ _ _ _) dX9_puts_151 ?_
      refine (show V p l e (k2_rm 3 85) s m args below meth c (inW (mcells g ad w)) (EN below args s g (mcells g ad w) (mcells g ad rr) none) g 15 (mcells g ad j79_0) 0 0 154 [(10, .long (((gM_coef j79_0) ((12 * a0) + j79_3).toNatClampNeg) * ((gM_right j79_0) a0.toNatClampNeg))), (8, .long ((-((gM_coef j79_0) ((12 * a0) + j79_3).toNatClampNeg)) * ((gM_coef j79_0) ((12 * a0) + ((j79_1 + j79_2) - j79_3)).toNatClampNeg))), (6, .long ((gM_coef j79_0) ((12 * a0) + j79_3).toNatClampNeg)), (5, .int ((j79_1 + j79_2) - j79_3)), (4, .int j79_3), (0, .ref (ad 0)), (1, .int a0), (2, .int j79_1), (3, .int j79_2)] [.int r151] from ?_)
      refine v_if_ne hG 158 dX9_puts_154 rfl hf (fun hf => ?_) (fun hf => ?_)
      · refine v_aload_n hG 5 rfl rfl dX9_puts_158 ?_
        refine v_iload_n hG 6 rfl rfl dX9_puts_159 ?_
        refine v_iload hG 4 rfl dX9_puts_160 ?_
        refine v_iload hG 3 rfl dX9_puts_162 ?_
        refine v_lload hG 1 rfl dX9_puts_164 ?_
        refine v_lload hG 0 rfl dX9_puts_166 ?_
        obtain ⟨r168, hr168, hf⟩ := bd_some hf
        refine v_callV hG (st := []) 0 9 (ct_X9_byBounds l g ad j79_0 a0 j79_3 ((j79_1 + j79_2) - j79_3) ((-((gM_coef j79_0) ((12 * a0) + j79_3).toNatClampNeg)) * ((gM_coef j79_0) ((12 * a0) + ((j79_1 + j79_2) - j79_3)).toNatClampNeg)) (((gM_coef j79_0) ((12 * a0) + j79_3).toNatClampNeg) * ((gM_right j79_0) a0.toNatClampNeg)) r168 hr168) iw_X9_byBounds wk_1368 rfl rfl ⟨rfl, rfl, Nat.le_of_ble_eq_true rfl, Nat.le_of_ble_eq_true rfl⟩ ⟨Nat.le_of_ble_eq_true rfl, Nat.le_of_ble_eq_true rfl⟩ rfl rfl (Nat.le_of_ble_eq_true rfl) (mcells_fst _ _ _ _) dX9_puts_168 ?_
        refine (show V p l e (k2_rm 3 85) s m args below meth c (inW (mcells g ad w)) (EN below args s g (mcells g ad w) (mcells g ad rr) none) g 15 (mcells g ad r168) 0 0 171 [(10, .long (((gM_coef j79_0) ((12 * a0) + j79_3).toNatClampNeg) * ((gM_right j79_0) a0.toNatClampNeg))), (8, .long ((-((gM_coef j79_0) ((12 * a0) + j79_3).toNatClampNeg)) * ((gM_coef j79_0) ((12 * a0) + ((j79_1 + j79_2) - j79_3)).toNatClampNeg))), (6, .long ((gM_coef j79_0) ((12 * a0) + j79_3).toNatClampNeg)), (5, .int ((j79_1 + j79_2) - j79_3)), (4, .int j79_3), (0, .ref (ad 0)), (1, .int a0), (2, .int j79_1), (3, .int j79_2)] [] from ?_)
        refine v_aload_n hG 5 rfl rfl dX9_puts_171 ?_
        obtain ⟨r172, hr172, hf⟩ := bd_some hf
        refine v_callV hG (st := []) 0 9 (ct_X9_goesOn l g ad r168  r172 hr172) iw_X9_goesOn wk_1256 rfl rfl ⟨rfl, rfl, Nat.le_of_ble_eq_true rfl, Nat.le_of_ble_eq_true rfl⟩ ⟨Nat.le_of_ble_eq_true rfl, Nat.le_of_ble_eq_true rfl⟩ rfl rfl (Nat.le_of_ble_eq_true rfl) (mcells_fst _ _ _ _) dX9_puts_172 ?_
        refine (show V p l e (k2_rm 3 85) s m args below meth c (inW (mcells g ad w)) (EN below args s g (mcells g ad w) (mcells g ad rr) none) g 15 (mcells g ad r168) 0 0 175 [(10, .long (((gM_coef j79_0) ((12 * a0) + j79_3).toNatClampNeg) * ((gM_right j79_0) a0.toNatClampNeg))), (8, .long ((-((gM_coef j79_0) ((12 * a0) + j79_3).toNatClampNeg)) * ((gM_coef j79_0) ((12 * a0) + ((j79_1 + j79_2) - j79_3)).toNatClampNeg))), (6, .long ((gM_coef j79_0) ((12 * a0) + j79_3).toNatClampNeg)), (5, .int ((j79_1 + j79_2) - j79_3)), (4, .int j79_3), (0, .ref (ad 0)), (1, .int a0), (2, .int j79_1), (3, .int j79_2)] [.int r172] from ?_)
        refine v_if_ne hG 179 dX9_puts_175 rfl hf (fun hf => ?_) (fun hf => ?_)
        · refine v_iconst hG (v := 0) (by decide) dX9_puts_179 ?_
          refine v_istore hG [(12, _), (10, _), (8, _), (6, _), (5, _), (4, _), (0, _), (1, _), (2, _), (3, _)] dX9_puts_180 (by decide) rfl ?_
          refine v_sub [(0, _), (1, _), (4, _), (5, _), (8, _), (10, _), (12, _)] [6, 7, 5, 4, 2, 1, 0] rfl ?_
          obtain ⟨z182, hlz182, hf⟩ := bd_some hf
          refine loop_v (step := X9_puts_L182 a0 j79_0 j79_1 j79_2 j79_3) (fun s182 : MW × Int32 => V p l e (k2_rm 3 85) s m args below meth c (inW (mcells g ad w)) (EN below args s g (mcells g ad w) (mcells g ad rr) none) g 15 (mcells g ad s182.1) 0 0 182 [(0, .ref (ad 0)), (1, .int a0), (4, .int j79_3), (5, .int ((j79_1 + j79_2) - j79_3)), (8, .long ((-((gM_coef j79_0) ((12 * a0) + j79_3).toNatClampNeg)) * ((gM_coef j79_0) ((12 * a0) + ((j79_1 + j79_2) - j79_3)).toNatClampNeg))), (10, .long (((gM_coef j79_0) ((12 * a0) + j79_3).toNatClampNeg) * ((gM_right j79_0) a0.toNatClampNeg))), (12, .int s182.2)] []) (fun z182_q : (MW) => V p l e (k2_rm 3 85) s m args below meth c (inW (mcells g ad w)) (EN below args s g (mcells g ad w) (mcells g ad rr) none) g 15 (mcells g ad z182_q) 0 0 291 [(0, .ref (ad 0)), (1, .int a0), (4, .int j79_3), (5, .int ((j79_1 + j79_2) - j79_3)), (8, .long ((-((gM_coef j79_0) ((12 * a0) + j79_3).toNatClampNeg)) * ((gM_coef j79_0) ((12 * a0) + ((j79_1 + j79_2) - j79_3)).toNatClampNeg))), (10, .long (((gM_coef j79_0) ((12 * a0) + j79_3).toNatClampNeg) * ((gM_right j79_0) a0.toNatClampNeg)))] []) ?_ 5000 (r168, 0) z182 hlz182 ?_
          · intro s182 rL hf hin hout
            unfold X9_puts_L182 at hf
            have j285 : ∀ (j285_0 : MW) (j285_1 : Int32), X9_puts_J285 j285_0 j285_1 = some rL → V p l e (k2_rm 3 85) s m args below meth c (inW (mcells g ad w)) (EN below args s g (mcells g ad w) (mcells g ad rr) none) g 15 (mcells g ad j285_0) 0 0 285 [(0, .ref (ad 0)), (1, .int a0), (4, .int j79_3), (5, .int ((j79_1 + j79_2) - j79_3)), (8, .long ((-((gM_coef j79_0) ((12 * a0) + j79_3).toNatClampNeg)) * ((gM_coef j79_0) ((12 * a0) + ((j79_1 + j79_2) - j79_3)).toNatClampNeg))), (10, .long (((gM_coef j79_0) ((12 * a0) + j79_3).toNatClampNeg) * ((gM_right j79_0) a0.toNatClampNeg))), (12, .int j285_1)] [] := by
              intro j285_0 j285_1 hf
              unfold X9_puts_J285 at hf
              refine v_iinc hG 6 (v := j285_1 + 1) [(12, _), (0, _), (1, _), (4, _), (5, _), (8, _), (10, _)] dX9_puts_285 rfl rfl (by decide) rfl ?_
              refine v_goto hG 182 dX9_puts_288 rfl ?_
              refine v_sub [(0, _), (1, _), (4, _), (5, _), (8, _), (10, _), (12, _)] [1, 2, 3, 4, 5, 6, 0] rfl ?_
              exact hin _ (Option.some.inj hf).symm
            refine v_iload hG 6 rfl dX9_puts_182 ?_
            refine v_aload_n hG 0 rfl rfl dX9_puts_184 ?_
            refine m_g_0_2 hG wk_1068 dX9_puts_185 ?_
            refine v_icmp_ge hG 291 dX9_puts_188 rfl hf (fun hf => ?_) (fun hf => ?_)
            · refine v_sub [(0, _), (1, _), (4, _), (5, _), (8, _), (10, _)] [0, 1, 2, 3, 4, 5] rfl ?_
              exact hout _ (Option.some.inj hf).symm
            · refine v_iload hG 6 rfl dX9_puts_191 ?_
              refine v_iload_n hG 1 rfl rfl dX9_puts_193 ?_
              refine v_icmp_eq hG 285 dX9_puts_194 rfl hf (fun hf => ?_) (fun hf => ?_)
              · exact j285 s182.1 s182.2 hf
              · refine v_aload_n hG 0 rfl rfl dX9_puts_197 ?_
                refine m_g_0_17 hG wk_1083 dX9_puts_198 ?_
                refine v_iload hG 6 rfl dX9_puts_201 ?_
                refine m_l_14 hG dX9_puts_203 hf (fun hf => ?_)
                refine v_if_ne hG 285 dX9_puts_204 rfl hf (fun hf => ?_) (fun hf => ?_)
                · exact j285 s182.1 s182.2 hf
                · refine v_aload_n hG 0 rfl rfl dX9_puts_207 ?_
                  refine v_iload hG 6 rfl dX9_puts_208 ?_
                  refine v_iload hG 2 rfl dX9_puts_210 ?_
                  obtain ⟨r212, hr212, hf⟩ := bd_some hf
                  refine v_callV hG (st := []) 0 9 (ct_X9_isTerm l g ad s182.1 s182.2 j79_3 r212 hr212) iw_X9_isTerm wk_1276 rfl rfl ⟨rfl, rfl, Nat.le_of_ble_eq_true rfl, Nat.le_of_ble_eq_true rfl⟩ ⟨Nat.le_of_ble_eq_true rfl, Nat.le_of_ble_eq_true rfl⟩ rfl rfl (Nat.le_of_ble_eq_true rfl) (mcells_fst _ _ _ _) dX9_puts_212 ?_
                  refine (show V p l e (k2_rm 3 85) s m args below meth c (inW (mcells g ad w)) (EN below args s g (mcells g ad w) (mcells g ad rr) none) g 15 (mcells g ad s182.1) 0 0 215 [(0, .ref (ad 0)), (1, .int a0), (4, .int j79_3), (5, .int ((j79_1 + j79_2) - j79_3)), (8, .long ((-((gM_coef j79_0) ((12 * a0) + j79_3).toNatClampNeg)) * ((gM_coef j79_0) ((12 * a0) + ((j79_1 + j79_2) - j79_3)).toNatClampNeg))), (10, .long (((gM_coef j79_0) ((12 * a0) + j79_3).toNatClampNeg) * ((gM_right j79_0) a0.toNatClampNeg))), (12, .int s182.2)] [.int r212] from ?_)
                  refine v_if_eq hG 285 dX9_puts_215 rfl hf (fun hf => ?_) (fun hf => ?_)
                  · exact j285 s182.1 s182.2 hf
                  · refine v_aload_n hG 0 rfl rfl dX9_puts_218 ?_
                    refine m_g_0_20 hG wk_1086 dX9_puts_219 ?_
                    refine v_bipush hG (v := 12) (by decide) dX9_puts_222 ?_
                    refine v_iload hG 6 rfl dX9_puts_224 ?_
                    refine v_imul hG dX9_puts_226 ?_
                    refine v_iload hG 2 rfl dX9_puts_227 ?_
                    refine v_iadd hG dX9_puts_229 ?_
                    refine m_l_17 hG dX9_puts_230 hf (fun hf => ?_)
                    refine v_lstore hG [(13, _), (0, _), (1, _), (4, _), (5, _), (8, _), (10, _), (12, _)] dX9_puts_231 (by decide) rfl ?_
                    refine v_aload_n hG 1 rfl rfl dX9_puts_233 ?_
                    refine m_g_0_20 hG wk_1086 dX9_puts_234 ?_
                    refine v_bipush hG (v := 12) (by decide) dX9_puts_237 ?_
                    refine v_iload hG 7 rfl dX9_puts_239 ?_
                    refine v_imul hG dX9_puts_241 ?_
                    refine v_iload hG 4 rfl dX9_puts_242 ?_
                    refine v_iadd hG dX9_puts_244 ?_
                    refine v_dup2 hG rfl rfl dX9_puts_245 ?_
                    refine m_l_17 hG dX9_puts_246 hf (fun hf => ?_)
                    refine v_lload hG 0 rfl dX9_puts_247 ?_
                    refine v_lload hG 5 rfl dX9_puts_249 ?_
                    refine v_lmul hG dX9_puts_251 ?_
                    refine v_ladd hG dX9_puts_252 ?_
                    refine m_s_17 hG dX9_puts_253 hf (fun w253 hf => ?_)
                    refine v_aload_n hG 1 rfl rfl dX9_puts_254 ?_
                    refine m_g_0_18 hG wk_1084 dX9_puts_255 ?_
                    refine v_iload hG 7 rfl dX9_puts_258 ?_
                    refine v_dup2 hG rfl rfl dX9_puts_260 ?_
                    refine m_l_15 hG dX9_puts_261 hf (fun hf => ?_)
                    refine v_lload hG 0 rfl dX9_puts_262 ?_
                    refine v_lload hG 6 rfl dX9_puts_264 ?_
                    refine v_lmul hG dX9_puts_266 ?_
                    refine v_lsub hG dX9_puts_267 ?_
                    refine m_s_15 hG dX9_puts_268 hf (fun w268 hf => ?_)
                    refine v_aload_n hG 1 rfl rfl dX9_puts_269 ?_
                    refine m_g_0_19 hG wk_1085 dX9_puts_270 ?_
                    refine v_iload hG 7 rfl dX9_puts_273 ?_
                    refine v_dup2 hG rfl rfl dX9_puts_275 ?_
                    refine m_l_16 hG dX9_puts_276 hf (fun hf => ?_)
                    refine v_aload_n hG 1 rfl rfl dX9_puts_277 ?_
                    refine m_g_0_19 hG wk_1085 dX9_puts_278 ?_
                    refine v_iload_n hG 2 rfl rfl dX9_puts_281 ?_
                    refine m_l_16 hG dX9_puts_282 hf (fun hf => ?_)
                    refine v_ior hG dX9_puts_283 ?_
                    refine m_s_16 hG dX9_puts_284 hf (fun w284 hf => ?_)
                    refine v_sub [(0, _), (1, _), (4, _), (5, _), (8, _), (10, _), (12, _)] [1, 2, 3, 4, 5, 6, 7] rfl ?_
                    exact j285 w284 s182.2 hf
          · show V p l e (k2_rm 3 85) s m args below meth c (inW (mcells g ad w)) (EN below args s g (mcells g ad w) (mcells g ad rr) none) g 15 (mcells g ad z182) 0 0 291 [(0, .ref (ad 0)), (1, .int a0), (4, .int j79_3), (5, .int ((j79_1 + j79_2) - j79_3)), (8, .long ((-((gM_coef j79_0) ((12 * a0) + j79_3).toNatClampNeg)) * ((gM_coef j79_0) ((12 * a0) + ((j79_1 + j79_2) - j79_3)).toNatClampNeg))), (10, .long (((gM_coef j79_0) ((12 * a0) + j79_3).toNatClampNeg) * ((gM_right j79_0) a0.toNatClampNeg)))] []
            refine v_aload_n hG 0 rfl rfl dX9_puts_291 ?_
            refine m_g_0_15 hG wk_1081 dX9_puts_292 ?_
            refine v_iload hG 3 rfl dX9_puts_295 ?_
            refine v_dup2 hG rfl rfl dX9_puts_297 ?_
            refine m_l_12 hG dX9_puts_298 hf (fun hf => ?_)
            refine v_lload hG 4 rfl dX9_puts_299 ?_
            refine v_aload_n hG 0 rfl rfl dX9_puts_301 ?_
            refine m_g_0_15 hG wk_1081 dX9_puts_302 ?_
            refine v_iload hG 2 rfl dX9_puts_305 ?_
            refine m_l_12 hG dX9_puts_307 hf (fun hf => ?_)
            refine v_lmul hG dX9_puts_308 ?_
            refine v_ladd hG dX9_puts_309 ?_
            refine m_s_12 hG dX9_puts_310 hf (fun w310 hf => ?_)
            refine v_iconst hG (v := 0) (by decide) dX9_puts_311 ?_
            refine v_istore hG [(12, _), (0, _), (1, _), (4, _), (5, _), (8, _), (10, _)] dX9_puts_312 (by decide) rfl ?_
            refine v_sub [(0, _), (1, _), (4, _), (5, _), (8, _), (10, _), (12, _)] [1, 2, 3, 4, 5, 6, 0] rfl ?_
            obtain ⟨z314, hlz314, hf⟩ := bd_some hf
            refine loop_v (step := X9_puts_L314 a0 j79_0 j79_1 j79_2 j79_3) (fun s314 : MW × Int32 => V p l e (k2_rm 3 85) s m args below meth c (inW (mcells g ad w)) (EN below args s g (mcells g ad w) (mcells g ad rr) none) g 15 (mcells g ad s314.1) 0 0 314 [(0, .ref (ad 0)), (1, .int a0), (4, .int j79_3), (5, .int ((j79_1 + j79_2) - j79_3)), (8, .long ((-((gM_coef j79_0) ((12 * a0) + j79_3).toNatClampNeg)) * ((gM_coef j79_0) ((12 * a0) + ((j79_1 + j79_2) - j79_3)).toNatClampNeg))), (10, .long (((gM_coef j79_0) ((12 * a0) + j79_3).toNatClampNeg) * ((gM_right j79_0) a0.toNatClampNeg))), (12, .int s314.2)] []) (fun z314_q : (MW) => V p l e (k2_rm 3 85) s m args below meth c (inW (mcells g ad w)) (EN below args s g (mcells g ad w) (mcells g ad rr) none) g 15 (mcells g ad z314_q) 0 0 355 [(0, .ref (ad 0)), (1, .int a0), (4, .int j79_3), (10, .long (((gM_coef j79_0) ((12 * a0) + j79_3).toNatClampNeg) * ((gM_right j79_0) a0.toNatClampNeg)))] []) ?_ 5000 (w310, 0) z314 hlz314 ?_
            · intro s314 rL hf hin hout
              unfold X9_puts_L314 at hf
              have j348 : ∀ (j348_0 : MW) (j348_1 : Int32) (j348_2 : Int32) (j348_3 : Int64), X9_puts_J348 j348_0 j348_1 j348_2 j348_3 = some rL → V p l e (k2_rm 3 85) s m args below meth c (inW (mcells g ad w)) (EN below args s g (mcells g ad w) (mcells g ad rr) none) g 15 (mcells g ad j348_0) 0 0 348 [(0, .ref (ad 0)), (1, .int a0), (4, .int j79_3), (5, .int ((j79_1 + j79_2) - j79_3)), (8, .long ((-((gM_coef j79_0) ((12 * a0) + j79_3).toNatClampNeg)) * ((gM_coef j79_0) ((12 * a0) + ((j79_1 + j79_2) - j79_3)).toNatClampNeg))), (10, .long (((gM_coef j79_0) ((12 * a0) + j79_3).toNatClampNeg) * ((gM_right j79_0) a0.toNatClampNeg))), (12, .int j348_1)] [.long j348_3, .int j348_2, .ref (ad 25)] := by
                intro j348_0 j348_1 j348_2 j348_3 hf
                unfold X9_puts_J348 at hf
                refine m_s_25 hG dX9_puts_348 hf (fun w348 hf => ?_)
                refine v_iinc hG 6 (v := j348_1 + 1) [(12, _), (0, _), (1, _), (4, _), (5, _), (8, _), (10, _)] dX9_puts_349 rfl rfl (by decide) rfl ?_
                refine v_goto hG 314 dX9_puts_352 rfl ?_
                refine v_sub [(0, _), (1, _), (4, _), (5, _), (8, _), (10, _), (12, _)] [1, 2, 3, 4, 5, 6, 0] rfl ?_
                exact hin _ (Option.some.inj hf).symm
              refine v_iload hG 6 rfl dX9_puts_314 ?_
              refine v_aload_n hG 0 rfl rfl dX9_puts_316 ?_
              refine m_g_0_1 hG wk_1067 dX9_puts_317 ?_
              refine v_icmp_ge hG 355 dX9_puts_320 rfl hf (fun hf => ?_) (fun hf => ?_)
              · refine v_sub [(0, _), (1, _), (4, _), (10, _)] [0, 1, 2, 5] rfl ?_
                exact hout _ (Option.some.inj hf).symm
              · refine v_aload_n hG 0 rfl rfl dX9_puts_323 ?_
                refine m_g_0_32 hG wk_1098 dX9_puts_324 ?_
                refine v_bipush hG (v := 12) (by decide) dX9_puts_327 ?_
                refine v_iload hG 2 rfl dX9_puts_329 ?_
                refine v_imul hG dX9_puts_331 ?_
                refine v_iload hG 6 rfl dX9_puts_332 ?_
                refine v_iadd hG dX9_puts_334 ?_
                refine v_iload hG 6 rfl dX9_puts_335 ?_
                refine v_iload hG 3 rfl dX9_puts_337 ?_
                refine v_icmp_ne hG 347 dX9_puts_339 rfl hf (fun hf => ?_) (fun hf => ?_)
                · refine v_lconst hG (v := 0) (by decide) dX9_puts_347 ?_
                  exact j348 s314.1 s314.2 ((12 * j79_3) + s314.2) 0 hf
                · refine v_lload hG 4 rfl dX9_puts_342 ?_
                  refine v_goto hG 348 dX9_puts_344 rfl ?_
                  exact j348 s314.1 s314.2 ((12 * j79_3) + s314.2) ((-((gM_coef j79_0) ((12 * a0) + j79_3).toNatClampNeg)) * ((gM_coef j79_0) ((12 * a0) + ((j79_1 + j79_2) - j79_3)).toNatClampNeg)) hf
            · show V p l e (k2_rm 3 85) s m args below meth c (inW (mcells g ad w)) (EN below args s g (mcells g ad w) (mcells g ad rr) none) g 15 (mcells g ad z314) 0 0 355 [(0, .ref (ad 0)), (1, .int a0), (4, .int j79_3), (10, .long (((gM_coef j79_0) ((12 * a0) + j79_3).toNatClampNeg) * ((gM_right j79_0) a0.toNatClampNeg)))] []
              refine v_aload_n hG 0 rfl rfl dX9_puts_355 ?_
              refine v_bipush hG (v := 9) (by decide) dX9_puts_356 ?_
              refine v_iload_n hG 1 rfl rfl dX9_puts_358 ?_
              refine v_iload hG 2 rfl dX9_puts_359 ?_
              refine v_lload hG 3 rfl dX9_puts_361 ?_
              obtain ⟨r363, hr363, hf⟩ := bd_some hf
              refine v_callV hG (st := []) 0 9 (ct_X9_goes l g ad z314 9 a0 j79_3 (((gM_coef j79_0) ((12 * a0) + j79_3).toNatClampNeg) * ((gM_right j79_0) a0.toNatClampNeg)) r363 hr363) iw_X9_goes wk_1372 rfl rfl ⟨rfl, rfl, Nat.le_of_ble_eq_true rfl, Nat.le_of_ble_eq_true rfl⟩ ⟨Nat.le_of_ble_eq_true rfl, Nat.le_of_ble_eq_true rfl⟩ rfl rfl (Nat.le_of_ble_eq_true rfl) (mcells_fst _ _ _ _) dX9_puts_363 ?_
              refine (show V p l e (k2_rm 3 85) s m args below meth c (inW (mcells g ad w)) (EN below args s g (mcells g ad w) (mcells g ad rr) none) g 15 (mcells g ad r363) 0 0 366 [(0, .ref (ad 0)), (1, .int a0), (4, .int j79_3), (10, .long (((gM_coef j79_0) ((12 * a0) + j79_3).toNatClampNeg) * ((gM_right j79_0) a0.toNatClampNeg)))] [] from ?_)
              cases hf
              exact v_vret hG hr dX9_puts_366
        · cases hf
          exact v_vret hG hr dX9_puts_178
      · cases hf
        exact v_vret hG hr dX9_puts_157
    · cases hf
      exact v_vret hG hr dX9_puts_111
  refine v_aload_n hG 0 rfl rfl dX9_puts_0 ?_
  refine m_g_0_16 hG wk_1082 dX9_puts_1 ?_
  refine v_iload_n hG 1 rfl rfl dX9_puts_4 ?_
  refine m_l_13 hG dX9_puts_5 hf (fun hf => ?_)
  refine v_iconst hG (v := 1) (by decide) dX9_puts_6 ?_
  refine v_icmp_ne hG 19 dX9_puts_7 rfl hf (fun hf => ?_) (fun hf => ?_)
  · cases hf
    exact v_vret hG hr dX9_puts_19
  · refine v_aload_n hG 0 rfl rfl dX9_puts_10 ?_
    refine v_iload_n hG 1 rfl rfl dX9_puts_11 ?_
    obtain ⟨r12, hr12, hf⟩ := bd_some hf
    refine v_callV hG (st := []) 0 9 (ct_X9_terms l g ad w a0 r12 hr12) iw_X9_terms wk_1272 rfl rfl ⟨rfl, rfl, Nat.le_of_ble_eq_true rfl, Nat.le_of_ble_eq_true rfl⟩ ⟨Nat.le_of_ble_eq_true rfl, Nat.le_of_ble_eq_true rfl⟩ rfl rfl (Nat.le_of_ble_eq_true rfl) (mcells_fst _ _ _ _) dX9_puts_12 ?_
    refine (show V p l e (k2_rm 3 85) s m args below meth c (inW (mcells g ad w)) (EN below args s g (mcells g ad w) (mcells g ad rr) none) g 15 (mcells g ad w) 0 0 15 [(0, .ref (ad 0)), (1, .int a0)] [.int r12] from ?_)
    refine v_iconst hG (v := 2) (by decide) dX9_puts_15 ?_
    refine v_icmp_eq hG 20 dX9_puts_16 rfl hf (fun hf => ?_) (fun hf => ?_)
    · refine v_iconst hG (v := -1) (by decide) dX9_puts_20 ?_
      refine v_istore_n hG [(2, _), (0, _), (1, _)] dX9_puts_21 rfl (by decide) rfl ?_
      refine v_iconst hG (v := -1) (by decide) dX9_puts_22 ?_
      refine v_istore_n hG [(3, _), (2, _), (0, _), (1, _)] dX9_puts_23 rfl (by decide) rfl ?_
      refine v_iconst hG (v := 0) (by decide) dX9_puts_24 ?_
      refine v_istore hG [(4, _), (3, _), (2, _), (0, _), (1, _)] dX9_puts_25 (by decide) rfl ?_
      refine v_sub [(0, _), (1, _), (2, _), (3, _), (4, _)] [3, 4, 2, 1, 0] rfl ?_
      obtain ⟨z27, hlz27, hf⟩ := bd_some hf
      refine loop_v (step := X9_puts_L27 w a0) (fun s27 : Int32 × Int32 × Int32 => V p l e (k2_rm 3 85) s m args below meth c (inW (mcells g ad w)) (EN below args s g (mcells g ad w) (mcells g ad rr) none) g 15 (mcells g ad w) 0 0 27 [(0, .ref (ad 0)), (1, .int a0), (2, .int s27.1), (3, .int s27.2.1), (4, .int s27.2.2)] []) (fun z27_q : (Int32 × Int32) => V p l e (k2_rm 3 85) s m args below meth c (inW (mcells g ad w)) (EN below args s g (mcells g ad w) (mcells g ad rr) none) g 15 (mcells g ad w) 0 0 57 [(0, .ref (ad 0)), (1, .int a0), (2, .int z27_q.1), (3, .int z27_q.2)] []) ?_ 5000 ((-1), (-1), 0) z27 hlz27 ?_
      · intro s27 rL hf hin hout
        unfold X9_puts_L27 at hf
        have j51 : ∀ (j51_0 : Int32) (j51_1 : Int32) (j51_2 : Int32), X9_puts_J51 j51_0 j51_1 j51_2 = some rL → V p l e (k2_rm 3 85) s m args below meth c (inW (mcells g ad w)) (EN below args s g (mcells g ad w) (mcells g ad rr) none) g 15 (mcells g ad w) 0 0 51 [(0, .ref (ad 0)), (1, .int a0), (2, .int j51_0), (3, .int j51_1), (4, .int j51_2)] [] := by
          intro j51_0 j51_1 j51_2 hf
          unfold X9_puts_J51 at hf
          refine v_iinc hG 4 (v := j51_2 + 1) [(4, _), (0, _), (1, _), (2, _), (3, _)] dX9_puts_51 rfl rfl (by decide) rfl ?_
          refine v_goto hG 27 dX9_puts_54 rfl ?_
          refine v_sub [(0, _), (1, _), (2, _), (3, _), (4, _)] [1, 2, 3, 4, 0] rfl ?_
          exact hin _ (Option.some.inj hf).symm
        refine v_iload hG 4 rfl dX9_puts_27 ?_
        refine v_aload_n hG 0 rfl rfl dX9_puts_29 ?_
        refine m_g_0_1 hG wk_1067 dX9_puts_30 ?_
        refine v_icmp_ge hG 57 dX9_puts_33 rfl hf (fun hf => ?_) (fun hf => ?_)
        · refine v_sub [(0, _), (1, _), (2, _), (3, _)] [0, 1, 2, 3] rfl ?_
          exact hout _ (Option.some.inj hf).symm
        · refine v_aload_n hG 0 rfl rfl dX9_puts_36 ?_
          refine v_iload_n hG 1 rfl rfl dX9_puts_37 ?_
          refine v_iload hG 4 rfl dX9_puts_38 ?_
          obtain ⟨r40, hr40, hf⟩ := bd_some hf
          refine v_callV hG (st := []) 0 9 (ct_X9_isTerm l g ad w a0 s27.2.2 r40 hr40) iw_X9_isTerm wk_1276 rfl rfl ⟨rfl, rfl, Nat.le_of_ble_eq_true rfl, Nat.le_of_ble_eq_true rfl⟩ ⟨Nat.le_of_ble_eq_true rfl, Nat.le_of_ble_eq_true rfl⟩ rfl rfl (Nat.le_of_ble_eq_true rfl) (mcells_fst _ _ _ _) dX9_puts_40 ?_
          refine (show V p l e (k2_rm 3 85) s m args below meth c (inW (mcells g ad w)) (EN below args s g (mcells g ad w) (mcells g ad rr) none) g 15 (mcells g ad w) 0 0 43 [(0, .ref (ad 0)), (1, .int a0), (2, .int s27.1), (3, .int s27.2.1), (4, .int s27.2.2)] [.int r40] from ?_)
          refine v_if_eq hG 51 dX9_puts_43 rfl hf (fun hf => ?_) (fun hf => ?_)
          · exact j51 s27.1 s27.2.1 s27.2.2 hf
          · refine v_iload_n hG 3 rfl rfl dX9_puts_46 ?_
            refine v_istore_n hG [(2, _), (0, _), (1, _), (3, _), (4, _)] dX9_puts_47 rfl (by decide) rfl ?_
            refine v_iload hG 4 rfl dX9_puts_48 ?_
            refine v_istore_n hG [(3, _), (2, _), (0, _), (1, _), (4, _)] dX9_puts_50 rfl (by decide) rfl ?_
            refine v_sub [(0, _), (1, _), (2, _), (3, _), (4, _)] [2, 3, 1, 0, 4] rfl ?_
            exact j51 s27.2.1 s27.2.2 s27.2.2 hf
      · show V p l e (k2_rm 3 85) s m args below meth c (inW (mcells g ad w)) (EN below args s g (mcells g ad w) (mcells g ad rr) none) g 15 (mcells g ad w) 0 0 57 [(0, .ref (ad 0)), (1, .int a0), (2, .int z27.1), (3, .int z27.2)] []
        refine v_aload_n hG 0 rfl rfl dX9_puts_57 ?_
        refine m_g_0_20 hG wk_1086 dX9_puts_58 ?_
        refine v_bipush hG (v := 12) (by decide) dX9_puts_61 ?_
        refine v_iload_n hG 1 rfl rfl dX9_puts_63 ?_
        refine v_imul hG dX9_puts_64 ?_
        refine v_iload_n hG 3 rfl rfl dX9_puts_65 ?_
        refine v_iadd hG dX9_puts_66 ?_
        refine m_l_17 hG dX9_puts_67 hf (fun hf => ?_)
        obtain ⟨r68, hr68, hf⟩ := bd_some hf
        refine v_callP hG (st := []) (ct_X9_isUnit l g ((gM_coef w) ((12 * a0) + z27.2).toNatClampNeg) r68 hr68) sw_X9_isUnit wk_1354 ⟨rfl, rfl, Nat.le_of_ble_eq_true rfl, Nat.le_of_ble_eq_true rfl⟩ ⟨Nat.le_of_ble_eq_true rfl, Nat.le_of_ble_eq_true rfl⟩ rfl rfl (Nat.le_of_ble_eq_true rfl) dX9_puts_68 ?_
        refine (show V p l e (k2_rm 3 85) s m args below meth c (inW (mcells g ad w)) (EN below args s g (mcells g ad w) (mcells g ad rr) none) g 15 (mcells g ad w) 0 0 71 [(0, .ref (ad 0)), (1, .int a0), (2, .int z27.1), (3, .int z27.2)] [.int r68] from ?_)
        refine v_if_eq hG 78 dX9_puts_71 rfl hf (fun hf => ?_) (fun hf => ?_)
        · refine v_iload_n hG 2 rfl rfl dX9_puts_78 ?_
          exact j79 w z27.1 z27.2 z27.1 hf
        · refine v_iload_n hG 3 rfl rfl dX9_puts_74 ?_
          refine v_goto hG 79 dX9_puts_75 rfl ?_
          exact j79 w z27.1 z27.2 z27.2 hf
    · cases hf
      exact v_vret hG hr dX9_puts_19
def X9_less_J262  (j262_0 : MW) (j262_1 : Int32) : Option ((MW × Int32) ⊕ ((MW))) := (some (.inl (j262_0, (j262_1 + 1))))
def X9_less_J246 (a0 : Int32) (j246_0 : MW) (j246_1 : Int32) (j246_2 : Int32) (j246_3 : Int64) : Option ((MW × Int32) ⊕ ((MW))) := (if inR j246_2 12 = true then (bnd (sM_right j246_0 (vp_updL (gM_right j246_0) j246_2.toNatClampNeg j246_3)) (fun w246 : MW => (if inR a0 12 = true then ((X9_act w246 10 a0 (-1) 3 ((gM_right w246) a0.toNatClampNeg)).bind (fun r259 : MW => (X9_less_J262 r259 j246_1))) else none))) else none)
def X9_less_J224 (a0 : Int32) (j224_0 : MW) (j224_1 : Int32) (j224_2 : Int64) (j224_3 : Int32) (j224_4 : Int32) (j224_5 : Int64) : Option ((MW × Int32) ⊕ ((MW))) := (if inR j224_4 144 = true then (bnd (sM_coef j224_0 (vp_updL (gM_coef j224_0) j224_4.toNatClampNeg j224_5)) (fun w224 : MW => (if j224_3 = 0 then (if inR a0 12 = true then (X9_less_J246 a0 w224 j224_1 a0 ((gM_right w224) a0.toNatClampNeg)) else none) else (X9_less_J246 a0 w224 j224_1 a0 j224_2)))) else none)
def X9_less_J156 (a0 : Int32) (j156_0 : MW) (j156_1 : Int32) (j156_2 : Int64) (j156_3 : Int64) (j156_4 : Int32) : Option ((MW × Int32) ⊕ ((MW))) := (if inR a0 12 = true then ((X9_from j156_0 a0 j156_1 1).bind (fun r167 : Int32 => (if inR j156_1 12 = true then (if inR j156_1 12 = true then (if inR a0 12 = true then (bnd (sM_rest j156_0 (upd (gM_rest j156_0) a0.toNatClampNeg (((gM_rest j156_0) a0.toNatClampNeg) ||| ((r167 ||| ((gM_lowRest j156_0) j156_1.toNatClampNeg)) ||| ((gM_highRest j156_0) j156_1.toNatClampNeg))))) (fun w185 : MW => (if j156_4 = 0 then (if inR a0 12 = true then (X9_less_J224 a0 w185 j156_1 j156_3 j156_4 ((12 * a0) + j156_1) (((gM_right w185) a0.toNatClampNeg) - j156_3)) else none) else (if inR a0 12 = true then (X9_less_J224 a0 w185 j156_1 j156_3 j156_4 ((12 * a0) + j156_1) (j156_2 - (((gM_right w185) a0.toNatClampNeg) - j156_3))) else none)))) else none) else none) else none))) else none)
def X9_less_J144 (a0 : Int32) (j144_0 : MW) (j144_1 : Int32) (j144_2 : Int64) (j144_3 : Int64) (j144_4 : Int32) (j144_5 : Int32) : Option ((MW × Int32) ⊕ ((MW))) := (if j144_4 = 0 then (if j144_5 = 0 then (X9_less_J262 j144_0 j144_1) else (X9_less_J156 a0 j144_0 j144_1 j144_2 j144_3 j144_4)) else (X9_less_J156 a0 j144_0 j144_1 j144_2 j144_3 j144_4))
def X9_less_J143 (a0 : Int32) (j143_0 : MW) (j143_1 : Int32) (j143_2 : Int64) (j143_3 : Int64) (j143_4 : Int32) : Option ((MW × Int32) ⊕ ((MW))) := (X9_less_J144 a0 j143_0 j143_1 j143_2 j143_3 j143_4 0)
def X9_less_J105 (a0 : Int32) (j105_0 : MW) (j105_1 : Int32) (j105_2 : Int64) (j105_3 : Int64) (j105_4 : Int32) : Option ((MW × Int32) ⊕ ((MW))) := (if 0 ≤ j105_2 then (X9_less_J143 a0 j105_0 j105_1 j105_2 j105_3 j105_4) else (if inR a0 12 = true then (if ((gM_right j105_0) a0.toNatClampNeg) ≤ (j105_3 + j105_2) then (X9_less_J143 a0 j105_0 j105_1 j105_2 j105_3 j105_4) else (if inR a0 12 = true then (if j105_3 ≤ ((gM_right j105_0) a0.toNatClampNeg) then (X9_less_J143 a0 j105_0 j105_1 j105_2 j105_3 j105_4) else (X9_less_J144 a0 j105_0 j105_1 j105_2 j105_3 j105_4 1)) else none)) else none))
def X9_less_J104 (a0 : Int32) (j104_0 : MW) (j104_1 : Int32) (j104_2 : Int64) (j104_3 : Int64) : Option ((MW × Int32) ⊕ ((MW))) := (X9_less_J105 a0 j104_0 j104_1 j104_2 j104_3 0)
def X9_less_L2 (a0 : Int32) (s2 : MW × Int32) : Option ((MW × Int32) ⊕ ((MW))) := (if (gM_columns s2.1) ≤ s2.2 then (some (.inr s2.1)) else (if inR a0 12 = true then (if ((gM_kind s2.1) a0.toNatClampNeg) = 0 then ((X9_isTerm s2.1 a0 s2.2).bind (fun r22 : Int32 => (if r22 = 0 then (X9_less_J262 s2.1 s2.2) else (if inR s2.2 12 = true then (if ((gM_low s2.1) s2.2.toNatClampNeg) = 0 then (if inR s2.2 12 = true then (if ((gM_high s2.1) s2.2.toNatClampNeg) = 1 then (if inR ((12 * a0) + s2.2) 144 = true then ((X9_end s2.1 a0 s2.2 1).bind (fun r63 : Int64 => (if ((gM_coef s2.1) ((12 * a0) + s2.2).toNatClampNeg) ≤ 0 then (X9_less_J104 a0 s2.1 s2.2 ((gM_coef s2.1) ((12 * a0) + s2.2).toNatClampNeg) r63) else (if inR a0 12 = true then (if ((gM_right s2.1) a0.toNatClampNeg) ≤ r63 then (X9_less_J104 a0 s2.1 s2.2 ((gM_coef s2.1) ((12 * a0) + s2.2).toNatClampNeg) r63) else (if inR a0 12 = true then (if (r63 + ((gM_coef s2.1) ((12 * a0) + s2.2).toNatClampNeg)) ≤ ((gM_right s2.1) a0.toNatClampNeg) then (X9_less_J104 a0 s2.1 s2.2 ((gM_coef s2.1) ((12 * a0) + s2.2).toNatClampNeg) r63) else (X9_less_J105 a0 s2.1 s2.2 ((gM_coef s2.1) ((12 * a0) + s2.2).toNatClampNeg) r63 1)) else none)) else none)))) else none) else (X9_less_J262 s2.1 s2.2)) else none) else (X9_less_J262 s2.1 s2.2)) else none)))) else (some (.inr s2.1))) else none))
def X9_less (w : MW) (a0 : Int32) : Option (MW) := ((iter (X9_less_L2 a0) 5000 (w, 0)).bind (fun z2 : (MW) => (some z2)))
set_option maxRecDepth 100000 in
set_option maxHeartbeats 4000000 in
theorem ct_X9_less (l : Launch) (g : wG) (ad : Nat → Nat) (w : MW) (a0 : Int32) (rr : MW) (hf : X9_less w a0 = some rr) : MetN l g yX9_less cX9_less 9 none (k2_rm 2 50) [.ref (ad 0), .int a0] (mcells g ad w) (mcells g ad rr) none := by
  refine MetN.of2 [(0, .ref (ad 0)), (1, .int a0)] rfl (by decide +kernel) (Nat.le_of_ble_eq_true rfl) ?_
  intro p e s m args below meth c hG hr
  unfold X9_less at hf
  refine v_iconst hG (v := 0) (by decide) dX9_less_0 ?_
  refine v_istore_n hG [(2, _), (0, _), (1, _)] dX9_less_1 rfl (by decide) rfl ?_
  refine v_sub [(0, _), (1, _), (2, _)] [1, 2, 0] rfl ?_
  obtain ⟨z2, hlz2, hf⟩ := bd_some hf
  refine loop_v (step := X9_less_L2 a0) (fun s2 : MW × Int32 => V p l e (k2_rm 2 50) s m args below meth c (inW (mcells g ad w)) (EN below args s g (mcells g ad w) (mcells g ad rr) none) g 9 (mcells g ad s2.1) 0 0 2 [(0, .ref (ad 0)), (1, .int a0), (2, .int s2.2)] []) (fun z2_q : (MW) => V p l e (k2_rm 2 50) s m args below meth c (inW (mcells g ad w)) (EN below args s g (mcells g ad w) (mcells g ad rr) none) g 9 (mcells g ad z2_q) 0 0 268 [] []) ?_ 5000 (w, 0) z2 hlz2 ?_
  · intro s2 rL hf hin hout
    unfold X9_less_L2 at hf
    have j262 : ∀ (j262_0 : MW) (j262_1 : Int32), X9_less_J262 j262_0 j262_1 = some rL → V p l e (k2_rm 2 50) s m args below meth c (inW (mcells g ad w)) (EN below args s g (mcells g ad w) (mcells g ad rr) none) g 9 (mcells g ad j262_0) 0 0 262 [(0, .ref (ad 0)), (1, .int a0), (2, .int j262_1)] [] := by
      intro j262_0 j262_1 hf
      unfold X9_less_J262 at hf
      refine v_iinc hG 2 (v := j262_1 + 1) [(2, _), (0, _), (1, _)] dX9_less_262 rfl rfl (by decide) rfl ?_
      refine v_goto hG 2 dX9_less_265 rfl ?_
      refine v_sub [(0, _), (1, _), (2, _)] [1, 2, 0] rfl ?_
      exact hin _ (Option.some.inj hf).symm
    have j246 : ∀ (j246_0 : MW) (j246_1 : Int32) (j246_2 : Int32) (j246_3 : Int64), X9_less_J246 a0 j246_0 j246_1 j246_2 j246_3 = some rL → V p l e (k2_rm 2 50) s m args below meth c (inW (mcells g ad w)) (EN below args s g (mcells g ad w) (mcells g ad rr) none) g 9 (mcells g ad j246_0) 0 0 246 [(0, .ref (ad 0)), (1, .int a0), (2, .int j246_1)] [.long j246_3, .int j246_2, .ref (ad 15)] := by
      intro j246_0 j246_1 j246_2 j246_3 hf
      unfold X9_less_J246 at hf
      refine m_s_15 hG dX9_less_246 hf (fun w246 hf => ?_)
      refine v_aload_n hG 0 rfl rfl dX9_less_247 ?_
      refine v_bipush hG (v := 10) (by decide) dX9_less_248 ?_
      refine v_iload_n hG 1 rfl rfl dX9_less_250 ?_
      refine v_iconst hG (v := -1) (by decide) dX9_less_251 ?_
      refine v_iconst hG (v := 3) (by decide) dX9_less_252 ?_
      refine v_aload_n hG 0 rfl rfl dX9_less_253 ?_
      refine m_g_0_18 hG wk_1084 dX9_less_254 ?_
      refine v_iload_n hG 1 rfl rfl dX9_less_257 ?_
      refine m_l_15 hG dX9_less_258 hf (fun hf => ?_)
      obtain ⟨r259, hr259, hf⟩ := bd_some hf
      refine v_callV hG (st := []) 0 9 (ct_X9_act l g ad w246 10 a0 (-1) 3 ((gM_right w246) a0.toNatClampNeg) r259 hr259) iw_X9_act wk_1284 rfl rfl ⟨rfl, rfl, Nat.le_of_ble_eq_true rfl, Nat.le_of_ble_eq_true rfl⟩ ⟨Nat.le_of_ble_eq_true rfl, Nat.le_of_ble_eq_true rfl⟩ rfl rfl (Nat.le_of_ble_eq_true rfl) (mcells_fst _ _ _ _) dX9_less_259 ?_
      refine (show V p l e (k2_rm 2 50) s m args below meth c (inW (mcells g ad w)) (EN below args s g (mcells g ad w) (mcells g ad rr) none) g 9 (mcells g ad r259) 0 0 262 [(0, .ref (ad 0)), (1, .int a0), (2, .int j246_1)] [] from ?_)
      exact j262 r259 j246_1 hf
    have j224 : ∀ (j224_0 : MW) (j224_1 : Int32) (j224_2 : Int64) (j224_3 : Int32) (j224_4 : Int32) (j224_5 : Int64), X9_less_J224 a0 j224_0 j224_1 j224_2 j224_3 j224_4 j224_5 = some rL → V p l e (k2_rm 2 50) s m args below meth c (inW (mcells g ad w)) (EN below args s g (mcells g ad w) (mcells g ad rr) none) g 9 (mcells g ad j224_0) 0 0 224 [(0, .ref (ad 0)), (1, .int a0), (2, .int j224_1), (5, .long j224_2), (7, .int j224_3)] [.long j224_5, .int j224_4, .ref (ad 17)] := by
      intro j224_0 j224_1 j224_2 j224_3 j224_4 j224_5 hf
      unfold X9_less_J224 at hf
      refine m_s_17 hG dX9_less_224 hf (fun w224 hf => ?_)
      refine v_aload_n hG 0 rfl rfl dX9_less_225 ?_
      refine m_g_0_18 hG wk_1084 dX9_less_226 ?_
      refine v_iload_n hG 1 rfl rfl dX9_less_229 ?_
      refine v_iload hG 4 rfl dX9_less_230 ?_
      refine v_if_eq hG 240 dX9_less_232 rfl hf (fun hf => ?_) (fun hf => ?_)
      · refine v_aload_n hG 0 rfl rfl dX9_less_240 ?_
        refine m_g_0_18 hG wk_1084 dX9_less_241 ?_
        refine v_iload_n hG 1 rfl rfl dX9_less_244 ?_
        refine m_l_15 hG dX9_less_245 hf (fun hf => ?_)
        refine v_sub [(0, _), (1, _), (2, _)] [0, 1, 2] rfl ?_
        exact j246 w224 j224_1 a0 ((gM_right w224) a0.toNatClampNeg) hf
      · refine v_lload hG 3 rfl dX9_less_235 ?_
        refine v_goto hG 246 dX9_less_237 rfl ?_
        refine v_sub [(0, _), (1, _), (2, _)] [0, 1, 2] rfl ?_
        exact j246 w224 j224_1 a0 j224_2 hf
    have j156 : ∀ (j156_0 : MW) (j156_1 : Int32) (j156_2 : Int64) (j156_3 : Int64) (j156_4 : Int32), X9_less_J156 a0 j156_0 j156_1 j156_2 j156_3 j156_4 = some rL → V p l e (k2_rm 2 50) s m args below meth c (inW (mcells g ad w)) (EN below args s g (mcells g ad w) (mcells g ad rr) none) g 9 (mcells g ad j156_0) 0 0 156 [(0, .ref (ad 0)), (1, .int a0), (2, .int j156_1), (3, .long j156_2), (5, .long j156_3), (7, .int j156_4)] [] := by
      intro j156_0 j156_1 j156_2 j156_3 j156_4 hf
      unfold X9_less_J156 at hf
      refine v_aload_n hG 0 rfl rfl dX9_less_156 ?_
      refine m_g_0_19 hG wk_1085 dX9_less_157 ?_
      refine v_iload_n hG 1 rfl rfl dX9_less_160 ?_
      refine v_dup2 hG rfl rfl dX9_less_161 ?_
      refine m_l_16 hG dX9_less_162 hf (fun hf => ?_)
      refine v_aload_n hG 0 rfl rfl dX9_less_163 ?_
      refine v_iload_n hG 1 rfl rfl dX9_less_164 ?_
      refine v_iload_n hG 2 rfl rfl dX9_less_165 ?_
      refine v_iconst hG (v := 1) (by decide) dX9_less_166 ?_
      obtain ⟨r167, hr167, hf⟩ := bd_some hf
      refine v_callV hG (st := [.int ((gM_rest j156_0) a0.toNatClampNeg), .int a0, .ref (ad 16)]) 0 9 (ct_X9_from l g ad j156_0 a0 j156_1 1 r167 hr167) iw_X9_from wk_1326 rfl rfl ⟨rfl, rfl, Nat.le_of_ble_eq_true rfl, Nat.le_of_ble_eq_true rfl⟩ ⟨Nat.le_of_ble_eq_true rfl, Nat.le_of_ble_eq_true rfl⟩ rfl rfl (Nat.le_of_ble_eq_true rfl) (mcells_fst _ _ _ _) dX9_less_167 ?_
      refine (show V p l e (k2_rm 2 50) s m args below meth c (inW (mcells g ad w)) (EN below args s g (mcells g ad w) (mcells g ad rr) none) g 9 (mcells g ad j156_0) 0 0 170 [(0, .ref (ad 0)), (1, .int a0), (2, .int j156_1), (3, .long j156_2), (5, .long j156_3), (7, .int j156_4)] [.int r167, .int ((gM_rest j156_0) a0.toNatClampNeg), .int a0, .ref (ad 16)] from ?_)
      refine v_aload_n hG 0 rfl rfl dX9_less_170 ?_
      refine m_g_0_13 hG wk_1079 dX9_less_171 ?_
      refine v_iload_n hG 2 rfl rfl dX9_less_174 ?_
      refine m_l_10 hG dX9_less_175 hf (fun hf => ?_)
      refine v_ior hG dX9_less_176 ?_
      refine v_aload_n hG 0 rfl rfl dX9_less_177 ?_
      refine m_g_0_14 hG wk_1080 dX9_less_178 ?_
      refine v_iload_n hG 2 rfl rfl dX9_less_181 ?_
      refine m_l_11 hG dX9_less_182 hf (fun hf => ?_)
      refine v_ior hG dX9_less_183 ?_
      refine v_ior hG dX9_less_184 ?_
      refine m_s_16 hG dX9_less_185 hf (fun w185 hf => ?_)
      refine v_aload_n hG 0 rfl rfl dX9_less_186 ?_
      refine m_g_0_20 hG wk_1086 dX9_less_187 ?_
      refine v_bipush hG (v := 12) (by decide) dX9_less_190 ?_
      refine v_iload_n hG 1 rfl rfl dX9_less_192 ?_
      refine v_imul hG dX9_less_193 ?_
      refine v_iload_n hG 2 rfl rfl dX9_less_194 ?_
      refine v_iadd hG dX9_less_195 ?_
      refine v_iload hG 5 rfl dX9_less_196 ?_
      refine v_if_eq hG 215 dX9_less_198 rfl hf (fun hf => ?_) (fun hf => ?_)
      · refine v_aload_n hG 0 rfl rfl dX9_less_215 ?_
        refine m_g_0_18 hG wk_1084 dX9_less_216 ?_
        refine v_iload_n hG 1 rfl rfl dX9_less_219 ?_
        refine m_l_15 hG dX9_less_220 hf (fun hf => ?_)
        refine v_lload hG 4 rfl dX9_less_221 ?_
        refine v_lsub hG dX9_less_223 ?_
        refine v_sub [(0, _), (1, _), (2, _), (5, _), (7, _)] [0, 1, 2, 4, 5] rfl ?_
        exact j224 w185 j156_1 j156_3 j156_4 ((12 * a0) + j156_1) (((gM_right w185) a0.toNatClampNeg) - j156_3) hf
      · refine v_lload_n hG 3 rfl rfl dX9_less_201 ?_
        refine v_aload_n hG 0 rfl rfl dX9_less_202 ?_
        refine m_g_0_18 hG wk_1084 dX9_less_203 ?_
        refine v_iload_n hG 1 rfl rfl dX9_less_206 ?_
        refine m_l_15 hG dX9_less_207 hf (fun hf => ?_)
        refine v_lload hG 4 rfl dX9_less_208 ?_
        refine v_lsub hG dX9_less_210 ?_
        refine v_lsub hG dX9_less_211 ?_
        refine v_goto hG 224 dX9_less_212 rfl ?_
        refine v_sub [(0, _), (1, _), (2, _), (5, _), (7, _)] [0, 1, 2, 4, 5] rfl ?_
        exact j224 w185 j156_1 j156_3 j156_4 ((12 * a0) + j156_1) (j156_2 - (((gM_right w185) a0.toNatClampNeg) - j156_3)) hf
    have j144 : ∀ (j144_0 : MW) (j144_1 : Int32) (j144_2 : Int64) (j144_3 : Int64) (j144_4 : Int32) (j144_5 : Int32), X9_less_J144 a0 j144_0 j144_1 j144_2 j144_3 j144_4 j144_5 = some rL → V p l e (k2_rm 2 50) s m args below meth c (inW (mcells g ad w)) (EN below args s g (mcells g ad w) (mcells g ad rr) none) g 9 (mcells g ad j144_0) 0 0 144 [(0, .ref (ad 0)), (1, .int a0), (2, .int j144_1), (3, .long j144_2), (5, .long j144_3), (7, .int j144_4)] [.int j144_5] := by
      intro j144_0 j144_1 j144_2 j144_3 j144_4 j144_5 hf
      unfold X9_less_J144 at hf
      refine v_istore hG [(8, _), (0, _), (1, _), (2, _), (3, _), (5, _), (7, _)] dX9_less_144 (by decide) rfl ?_
      refine v_iload hG 6 rfl dX9_less_146 ?_
      refine v_if_ne hG 156 dX9_less_148 rfl hf (fun hf => ?_) (fun hf => ?_)
      · refine v_sub [(0, _), (1, _), (2, _), (3, _), (5, _), (7, _)] [1, 2, 3, 4, 5, 6] rfl ?_
        exact j156 j144_0 j144_1 j144_2 j144_3 j144_4 hf
      · refine v_iload hG 0 rfl dX9_less_151 ?_
        refine v_if_eq hG 262 dX9_less_153 rfl hf (fun hf => ?_) (fun hf => ?_)
        · refine v_sub [(0, _), (1, _), (2, _)] [1, 2, 3] rfl ?_
          exact j262 j144_0 j144_1 hf
        · refine v_sub [(0, _), (1, _), (2, _), (3, _), (5, _), (7, _)] [1, 2, 3, 4, 5, 6] rfl ?_
          exact j156 j144_0 j144_1 j144_2 j144_3 j144_4 hf
    have j143 : ∀ (j143_0 : MW) (j143_1 : Int32) (j143_2 : Int64) (j143_3 : Int64) (j143_4 : Int32), X9_less_J143 a0 j143_0 j143_1 j143_2 j143_3 j143_4 = some rL → V p l e (k2_rm 2 50) s m args below meth c (inW (mcells g ad w)) (EN below args s g (mcells g ad w) (mcells g ad rr) none) g 9 (mcells g ad j143_0) 0 0 143 [(0, .ref (ad 0)), (1, .int a0), (2, .int j143_1), (3, .long j143_2), (5, .long j143_3), (7, .int j143_4)] [] := by
      intro j143_0 j143_1 j143_2 j143_3 j143_4 hf
      unfold X9_less_J143 at hf
      refine v_iconst hG (v := 0) (by decide) dX9_less_143 ?_
      exact j144 j143_0 j143_1 j143_2 j143_3 j143_4 0 hf
    have j105 : ∀ (j105_0 : MW) (j105_1 : Int32) (j105_2 : Int64) (j105_3 : Int64) (j105_4 : Int32), X9_less_J105 a0 j105_0 j105_1 j105_2 j105_3 j105_4 = some rL → V p l e (k2_rm 2 50) s m args below meth c (inW (mcells g ad w)) (EN below args s g (mcells g ad w) (mcells g ad rr) none) g 9 (mcells g ad j105_0) 0 0 105 [(0, .ref (ad 0)), (1, .int a0), (2, .int j105_1), (3, .long j105_2), (5, .long j105_3)] [.int j105_4] := by
      intro j105_0 j105_1 j105_2 j105_3 j105_4 hf
      unfold X9_less_J105 at hf
      refine v_istore hG [(7, _), (0, _), (1, _), (2, _), (3, _), (5, _)] dX9_less_105 (by decide) rfl ?_
      refine v_lload_n hG 4 rfl rfl dX9_less_107 ?_
      refine v_lconst hG (v := 0) (by decide) dX9_less_108 ?_
      refine v_lcmp_ge hG 143 dX9_less_109 dX9_less_110 rfl hf (fun hf => ?_) (fun hf => ?_)
      · refine v_sub [(0, _), (1, _), (2, _), (3, _), (5, _), (7, _)] [1, 2, 3, 4, 5, 0] rfl ?_
        exact j143 j105_0 j105_1 j105_2 j105_3 j105_4 hf
      · refine v_lload hG 5 rfl dX9_less_113 ?_
        refine v_lload_n hG 4 rfl rfl dX9_less_115 ?_
        refine v_ladd hG dX9_less_116 ?_
        refine v_aload_n hG 1 rfl rfl dX9_less_117 ?_
        refine m_g_0_18 hG wk_1084 dX9_less_118 ?_
        refine v_iload_n hG 2 rfl rfl dX9_less_121 ?_
        refine m_l_15 hG dX9_less_122 hf (fun hf => ?_)
        refine v_lcmp_ge hG 143 dX9_less_123 dX9_less_124 rfl hf (fun hf => ?_) (fun hf => ?_)
        · refine v_sub [(0, _), (1, _), (2, _), (3, _), (5, _), (7, _)] [1, 2, 3, 4, 5, 0] rfl ?_
          exact j143 j105_0 j105_1 j105_2 j105_3 j105_4 hf
        · refine v_lload hG 5 rfl dX9_less_127 ?_
          refine v_aload_n hG 1 rfl rfl dX9_less_129 ?_
          refine m_g_0_18 hG wk_1084 dX9_less_130 ?_
          refine v_iload_n hG 2 rfl rfl dX9_less_133 ?_
          refine m_l_15 hG dX9_less_134 hf (fun hf => ?_)
          refine v_lcmp_le hG 143 dX9_less_135 dX9_less_136 rfl hf (fun hf => ?_) (fun hf => ?_)
          · refine v_sub [(0, _), (1, _), (2, _), (3, _), (5, _), (7, _)] [1, 2, 3, 4, 5, 0] rfl ?_
            exact j143 j105_0 j105_1 j105_2 j105_3 j105_4 hf
          · refine v_iconst hG (v := 1) (by decide) dX9_less_139 ?_
            refine v_goto hG 144 dX9_less_140 rfl ?_
            refine v_sub [(0, _), (1, _), (2, _), (3, _), (5, _), (7, _)] [1, 2, 3, 4, 5, 0] rfl ?_
            exact j144 j105_0 j105_1 j105_2 j105_3 j105_4 1 hf
    have j104 : ∀ (j104_0 : MW) (j104_1 : Int32) (j104_2 : Int64) (j104_3 : Int64), X9_less_J104 a0 j104_0 j104_1 j104_2 j104_3 = some rL → V p l e (k2_rm 2 50) s m args below meth c (inW (mcells g ad w)) (EN below args s g (mcells g ad w) (mcells g ad rr) none) g 9 (mcells g ad j104_0) 0 0 104 [(0, .ref (ad 0)), (1, .int a0), (2, .int j104_1), (3, .long j104_2), (5, .long j104_3)] [] := by
      intro j104_0 j104_1 j104_2 j104_3 hf
      unfold X9_less_J104 at hf
      refine v_iconst hG (v := 0) (by decide) dX9_less_104 ?_
      exact j105 j104_0 j104_1 j104_2 j104_3 0 hf
    refine v_iload_n hG 2 rfl rfl dX9_less_2 ?_
    refine v_aload_n hG 0 rfl rfl dX9_less_3 ?_
    refine m_g_0_1 hG wk_1067 dX9_less_4 ?_
    refine v_icmp_ge hG 268 dX9_less_7 rfl hf (fun hf => ?_) (fun hf => ?_)
    · refine v_sub [] [] rfl ?_
      exact hout _ (Option.some.inj hf).symm
    · refine v_aload_n hG 0 rfl rfl dX9_less_10 ?_
      refine m_g_0_16 hG wk_1082 dX9_less_11 ?_
      refine v_iload_n hG 1 rfl rfl dX9_less_14 ?_
      refine m_l_13 hG dX9_less_15 hf (fun hf => ?_)
      refine v_if_ne hG 268 dX9_less_16 rfl hf (fun hf => ?_) (fun hf => ?_)
      · refine v_sub [] [] rfl ?_
        exact hout _ (Option.some.inj hf).symm
      · refine v_aload_n hG 0 rfl rfl dX9_less_19 ?_
        refine v_iload_n hG 1 rfl rfl dX9_less_20 ?_
        refine v_iload_n hG 2 rfl rfl dX9_less_21 ?_
        obtain ⟨r22, hr22, hf⟩ := bd_some hf
        refine v_callV hG (st := []) 0 9 (ct_X9_isTerm l g ad s2.1 a0 s2.2 r22 hr22) iw_X9_isTerm wk_1276 rfl rfl ⟨rfl, rfl, Nat.le_of_ble_eq_true rfl, Nat.le_of_ble_eq_true rfl⟩ ⟨Nat.le_of_ble_eq_true rfl, Nat.le_of_ble_eq_true rfl⟩ rfl rfl (Nat.le_of_ble_eq_true rfl) (mcells_fst _ _ _ _) dX9_less_22 ?_
        refine (show V p l e (k2_rm 2 50) s m args below meth c (inW (mcells g ad w)) (EN below args s g (mcells g ad w) (mcells g ad rr) none) g 9 (mcells g ad s2.1) 0 0 25 [(0, .ref (ad 0)), (1, .int a0), (2, .int s2.2)] [.int r22] from ?_)
        refine v_if_eq hG 262 dX9_less_25 rfl hf (fun hf => ?_) (fun hf => ?_)
        · exact j262 s2.1 s2.2 hf
        · refine v_aload_n hG 0 rfl rfl dX9_less_28 ?_
          refine m_g_0_11 hG wk_1077 dX9_less_29 ?_
          refine v_iload_n hG 2 rfl rfl dX9_less_32 ?_
          refine m_l_8 hG dX9_less_33 hf (fun hf => ?_)
          refine v_if_ne hG 262 dX9_less_34 rfl hf (fun hf => ?_) (fun hf => ?_)
          · exact j262 s2.1 s2.2 hf
          · refine v_aload_n hG 0 rfl rfl dX9_less_37 ?_
            refine m_g_0_12 hG wk_1078 dX9_less_38 ?_
            refine v_iload_n hG 2 rfl rfl dX9_less_41 ?_
            refine m_l_9 hG dX9_less_42 hf (fun hf => ?_)
            refine v_iconst hG (v := 1) (by decide) dX9_less_43 ?_
            refine v_icmp_ne hG 262 dX9_less_44 rfl hf (fun hf => ?_) (fun hf => ?_)
            · exact j262 s2.1 s2.2 hf
            · refine v_aload_n hG 0 rfl rfl dX9_less_47 ?_
              refine m_g_0_20 hG wk_1086 dX9_less_48 ?_
              refine v_bipush hG (v := 12) (by decide) dX9_less_51 ?_
              refine v_iload_n hG 1 rfl rfl dX9_less_53 ?_
              refine v_imul hG dX9_less_54 ?_
              refine v_iload_n hG 2 rfl rfl dX9_less_55 ?_
              refine v_iadd hG dX9_less_56 ?_
              refine m_l_17 hG dX9_less_57 hf (fun hf => ?_)
              refine v_lstore_n hG [(3, _), (0, _), (1, _), (2, _)] dX9_less_58 rfl (by decide) rfl ?_
              refine v_aload_n hG 1 rfl rfl dX9_less_59 ?_
              refine v_iload_n hG 2 rfl rfl dX9_less_60 ?_
              refine v_iload_n hG 3 rfl rfl dX9_less_61 ?_
              refine v_iconst hG (v := 1) (by decide) dX9_less_62 ?_
              obtain ⟨r63, hr63, hf⟩ := bd_some hf
              refine v_callV hG (st := []) 0 9 (ct_X9_end l g ad s2.1 a0 s2.2 1 r63 hr63) iw_X9_end wk_1322 rfl rfl ⟨rfl, rfl, Nat.le_of_ble_eq_true rfl, Nat.le_of_ble_eq_true rfl⟩ ⟨Nat.le_of_ble_eq_true rfl, Nat.le_of_ble_eq_true rfl⟩ rfl rfl (Nat.le_of_ble_eq_true rfl) (mcells_fst _ _ _ _) dX9_less_63 ?_
              refine (show V p l e (k2_rm 2 50) s m args below meth c (inW (mcells g ad w)) (EN below args s g (mcells g ad w) (mcells g ad rr) none) g 9 (mcells g ad s2.1) 0 0 66 [(3, .long ((gM_coef s2.1) ((12 * a0) + s2.2).toNatClampNeg)), (0, .ref (ad 0)), (1, .int a0), (2, .int s2.2)] [.long r63] from ?_)
              refine v_lstore hG [(5, _), (3, _), (0, _), (1, _), (2, _)] dX9_less_66 (by decide) rfl ?_
              refine v_lload_n hG 1 rfl rfl dX9_less_68 ?_
              refine v_lconst hG (v := 0) (by decide) dX9_less_69 ?_
              refine v_lcmp_le hG 104 dX9_less_70 dX9_less_71 rfl hf (fun hf => ?_) (fun hf => ?_)
              · refine v_sub [(0, _), (1, _), (2, _), (3, _), (5, _)] [2, 3, 4, 1, 0] rfl ?_
                exact j104 s2.1 s2.2 ((gM_coef s2.1) ((12 * a0) + s2.2).toNatClampNeg) r63 hf
              · refine v_lload hG 0 rfl dX9_less_74 ?_
                refine v_aload_n hG 2 rfl rfl dX9_less_76 ?_
                refine m_g_0_18 hG wk_1084 dX9_less_77 ?_
                refine v_iload_n hG 3 rfl rfl dX9_less_80 ?_
                refine m_l_15 hG dX9_less_81 hf (fun hf => ?_)
                refine v_lcmp_ge hG 104 dX9_less_82 dX9_less_83 rfl hf (fun hf => ?_) (fun hf => ?_)
                · refine v_sub [(0, _), (1, _), (2, _), (3, _), (5, _)] [2, 3, 4, 1, 0] rfl ?_
                  exact j104 s2.1 s2.2 ((gM_coef s2.1) ((12 * a0) + s2.2).toNatClampNeg) r63 hf
                · refine v_lload hG 0 rfl dX9_less_86 ?_
                  refine v_lload_n hG 1 rfl rfl dX9_less_88 ?_
                  refine v_ladd hG dX9_less_89 ?_
                  refine v_aload_n hG 2 rfl rfl dX9_less_90 ?_
                  refine m_g_0_18 hG wk_1084 dX9_less_91 ?_
                  refine v_iload_n hG 3 rfl rfl dX9_less_94 ?_
                  refine m_l_15 hG dX9_less_95 hf (fun hf => ?_)
                  refine v_lcmp_le hG 104 dX9_less_96 dX9_less_97 rfl hf (fun hf => ?_) (fun hf => ?_)
                  · refine v_sub [(0, _), (1, _), (2, _), (3, _), (5, _)] [2, 3, 4, 1, 0] rfl ?_
                    exact j104 s2.1 s2.2 ((gM_coef s2.1) ((12 * a0) + s2.2).toNatClampNeg) r63 hf
                  · refine v_iconst hG (v := 1) (by decide) dX9_less_100 ?_
                    refine v_goto hG 105 dX9_less_101 rfl ?_
                    refine v_sub [(0, _), (1, _), (2, _), (3, _), (5, _)] [2, 3, 4, 1, 0] rfl ?_
                    exact j105 s2.1 s2.2 ((gM_coef s2.1) ((12 * a0) + s2.2).toNatClampNeg) r63 1 hf
  · show V p l e (k2_rm 2 50) s m args below meth c (inW (mcells g ad w)) (EN below args s g (mcells g ad w) (mcells g ad rr) none) g 9 (mcells g ad z2) 0 0 268 [] []
    cases hf
    exact v_vret hG hr dX9_less_268
def X9_free_J42  (j42_0 : Int32) (j42_1 : Int32) (j42_2 : Int32) : Option ((Int32 × Int32 × Int32) ⊕ ((Int32 × Int32))) := (some (.inl (j42_0, j42_1, (j42_2 + 1))))
def X9_free_L7 (w : MW) (a0 : Int32) (s7 : Int32 × Int32 × Int32) : Option ((Int32 × Int32 × Int32) ⊕ ((Int32 × Int32))) := (if (gM_rows w) ≤ s7.2.2 then (some (.inr (s7.1, s7.2.1))) else (if inR s7.2.2 12 = true then (if ((gM_gone w) s7.2.2.toNatClampNeg) = 0 then ((X9_isTerm w s7.2.2 a0).bind (fun r30 : Int32 => (if r30 = 0 then (X9_free_J42 s7.1 s7.2.1 s7.2.2) else (X9_free_J42 s7.2.2 (s7.2.1 + 1) s7.2.2)))) else (X9_free_J42 s7.1 s7.2.1 s7.2.2)) else none))
def X9_free_J320  (j320_0 : Int32) (j320_1 : Int32) : Option ((Int32 × Int32) ⊕ ((Int32))) := (some (.inl (j320_1, (j320_0 + 1))))
def X9_free_J319  (j319_0 : Int32) : Option ((Int32 × Int32) ⊕ ((Int32))) := (X9_free_J320 j319_0 0)
def X9_free_J315  (j315_0 : Int32) : Option ((Int32 × Int32) ⊕ ((Int32))) := (X9_free_J320 j315_0 1)
def X9_free_L249 (a0 : Int32) (j244_0 : MW) (j244_1 : Int32) (j244_2 : Int64) (s249 : Int32 × Int32) : Option ((Int32 × Int32) ⊕ ((Int32))) := (if (gM_columns j244_0) ≤ s249.2 then (some (.inr s249.1)) else (if s249.1 = 0 then (X9_free_J319 s249.2) else (if s249.2 = a0 then (X9_free_J315 s249.2) else ((X9_isTerm j244_0 j244_1 s249.2).bind (fun r273 : Int32 => (if r273 = 0 then (X9_free_J315 s249.2) else (if inR s249.2 12 = true then (if inR ((12 * j244_1) + s249.2) 144 = true then (if inR a0 12 = true then ((X9_isCoefficient (((gM_cost j244_0) s249.2.toNatClampNeg) - ((j244_2 * ((gM_coef j244_0) ((12 * j244_1) + s249.2).toNatClampNeg)) * ((gM_cost j244_0) a0.toNatClampNeg)))).bind (fun r309 : Int32 => (if r309 = 0 then (X9_free_J319 s249.2) else (X9_free_J315 s249.2)))) else none) else none) else none)))))))
def X9_free_J405 (a0 : Int32) (j405_0 : MW) (j405_1 : Int32) (j405_2 : Int32) (j405_3 : Int64) : Option ((MW × Int32) ⊕ ((MW))) := (if inR j405_2 144 = true then (bnd (sM_often j405_0 (vp_updL (gM_often j405_0) j405_2.toNatClampNeg j405_3)) (fun w405 : MW => (if inR j405_1 12 = true then (if inR ((12 * a0) + j405_1) 144 = true then (if inR a0 12 = true then (if inR j405_1 12 = true then (bnd (sM_cost w405 (vp_updL (gM_cost w405) j405_1.toNatClampNeg (((gM_cost w405) j405_1.toNatClampNeg) + (((gM_often w405) ((12 * a0) + j405_1).toNatClampNeg) * ((gM_cost w405) a0.toNatClampNeg))))) (fun w434 : MW => (some (.inl (w434, (j405_1 + 1)))))) else none) else none) else none) else none))) else none)
def X9_free_J367 (a0 : Int32) (j244_1 : Int32) (j244_2 : Int64) (j367_0 : MW) (j367_1 : Int32) (j367_2 : Int32) : Option ((MW × Int32) ⊕ ((MW))) := (if j367_2 = 0 then (X9_free_J405 a0 j367_0 j367_1 ((12 * a0) + j367_1) 0) else (if inR ((12 * j244_1) + j367_1) 144 = true then (X9_free_J405 a0 j367_0 j367_1 ((12 * a0) + j367_1) ((-j244_2) * ((gM_coef j367_0) ((12 * j244_1) + j367_1).toNatClampNeg))) else none))
def X9_free_J366 (a0 : Int32) (j244_1 : Int32) (j244_2 : Int64) (j366_0 : MW) (j366_1 : Int32) : Option ((MW × Int32) ⊕ ((MW))) := (X9_free_J367 a0 j244_1 j244_2 j366_0 j366_1 0)
def X9_free_L337 (a0 : Int32) (j244_1 : Int32) (j244_2 : Int64) (s337 : MW × Int32) : Option ((MW × Int32) ⊕ ((MW))) := (if (gM_columns s337.1) ≤ s337.2 then (some (.inr s337.1)) else (if s337.2 = a0 then (X9_free_J366 a0 j244_1 j244_2 s337.1 s337.2) else ((X9_isTerm s337.1 j244_1 s337.2).bind (fun r356 : Int32 => (if r356 = 0 then (X9_free_J366 a0 j244_1 j244_2 s337.1 s337.2) else (X9_free_J367 a0 j244_1 j244_2 s337.1 s337.2 1))))))
def X9_free_J244 (a0 : Int32) (j244_0 : MW) (j244_1 : Int32) (j244_2 : Int64) (j244_3 : Int64) (j244_4 : Int32) : Option (MW) := ((iter (X9_free_L249 a0 j244_0 j244_1 j244_2) 5000 (j244_4, 0)).bind (fun z249 : (Int32) => (if z249 = 0 then (some j244_0) else ((iter (X9_free_L337 a0 j244_1 j244_2) 5000 (j244_0, 0)).bind (fun z337 : (MW) => ((X9_goes z337 11 j244_1 a0 j244_3).bind (fun r448 : MW => (some r448))))))))
def X9_free_J243 (a0 : Int32) (j243_0 : MW) (j243_1 : Int32) (j243_2 : Int64) (j243_3 : Int64) : Option (MW) := (X9_free_J244 a0 j243_0 j243_1 j243_2 j243_3 0)
def X9_free_J179 (a0 : Int32) (j179_0 : MW) (j179_1 : Int32) (j179_2 : Int64) (j179_3 : Int64) (j179_4 : Int64) : Option (MW) := (if inR j179_1 12 = true then (if inR a0 12 = true then (if j179_3 < (((gM_low j179_0) a0.toNatClampNeg).toInt64) then (X9_free_J243 a0 j179_0 j179_1 j179_2 (j179_2 * ((gM_right j179_0) j179_1.toNatClampNeg))) else (if inR a0 12 = true then (if (((gM_high j179_0) a0.toNatClampNeg).toInt64) < j179_4 then (X9_free_J243 a0 j179_0 j179_1 j179_2 (j179_2 * ((gM_right j179_0) j179_1.toNatClampNeg))) else (if inR a0 12 = true then ((X9_within ((j179_2 * ((gM_right j179_0) j179_1.toNatClampNeg)) * ((gM_cost j179_0) a0.toNatClampNeg)) (-1000000000000000) 1000000000000000).bind (fun r233 : Int32 => (if r233 = 0 then (X9_free_J243 a0 j179_0 j179_1 j179_2 (j179_2 * ((gM_right j179_0) j179_1.toNatClampNeg))) else (X9_free_J244 a0 j179_0 j179_1 j179_2 (j179_2 * ((gM_right j179_0) j179_1.toNatClampNeg)) 1)))) else none)) else none)) else none) else none)
def X9_free_J149 (a0 : Int32) (j149_0 : MW) (j149_1 : Int32) (j149_2 : Int64) (j149_3 : Int64) (j149_4 : Int64) (j149_5 : Int64) : Option (MW) := (if j149_2 = 1 then (if inR j149_1 12 = true then (X9_free_J179 a0 j149_0 j149_1 j149_2 j149_5 (((gM_right j149_0) j149_1.toNatClampNeg) - j149_3)) else none) else (if inR j149_1 12 = true then (X9_free_J179 a0 j149_0 j149_1 j149_2 j149_5 (j149_4 - ((gM_right j149_0) j149_1.toNatClampNeg))) else none))
def X9_free (w : MW) (a0 : Int32) : Option (MW) := ((iter (X9_free_L7 w a0) 5000 ((-1), 0, 0)).bind (fun z7 : (Int32 × Int32) => (if z7.2 = 1 then (if inR z7.1 12 = true then (if ((gM_kind w) z7.1.toNatClampNeg) = 1 then ((X9_terms w z7.1).bind (fun r65 : Int32 => (if r65 < 2 then (some w) else (if inR ((12 * z7.1) + a0) 144 = true then ((X9_isUnit ((gM_coef w) ((12 * z7.1) + a0).toNatClampNeg)).bind (fun r83 : Int32 => (if r83 = 0 then (some w) else (if inR ((12 * z7.1) + a0) 144 = true then ((X9_end w z7.1 a0 0).bind (fun r107 : Int64 => ((X9_end w z7.1 a0 1).bind (fun r116 : Int64 => (if ((gM_coef w) ((12 * z7.1) + a0).toNatClampNeg) = 1 then (if inR z7.1 12 = true then (X9_free_J149 a0 w z7.1 ((gM_coef w) ((12 * z7.1) + a0).toNatClampNeg) r107 r116 (((gM_right w) z7.1.toNatClampNeg) - r116)) else none) else (if inR z7.1 12 = true then (X9_free_J149 a0 w z7.1 ((gM_coef w) ((12 * z7.1) + a0).toNatClampNeg) r107 r116 (r107 - ((gM_right w) z7.1.toNatClampNeg))) else none)))))) else none)))) else none)))) else (some w)) else none) else (some w))))
set_option maxRecDepth 100000 in
set_option maxHeartbeats 4000000 in
theorem ct_X9_free (l : Launch) (g : wG) (ad : Nat → Nat) (w : MW) (a0 : Int32) (rr : MW) (hf : X9_free w a0 = some rr) : MetN l g yX9_free cX9_free 19 none (k2_rm 2 51) [.ref (ad 0), .int a0] (mcells g ad w) (mcells g ad rr) none := by
  refine MetN.of2 [(0, .ref (ad 0)), (1, .int a0)] rfl (by decide +kernel) (Nat.le_of_ble_eq_true rfl) ?_
  intro p e s m args below meth c hG hr
  unfold X9_free at hf
  have j244 : ∀ (j244_0 : MW) (j244_1 : Int32) (j244_2 : Int64) (j244_3 : Int64) (j244_4 : Int32), X9_free_J244 a0 j244_0 j244_1 j244_2 j244_3 j244_4 = some rr → V p l e (k2_rm 2 51) s m args below meth c (inW (mcells g ad w)) (EN below args s g (mcells g ad w) (mcells g ad rr) none) g 19 (mcells g ad j244_0) 0 0 244 [(0, .ref (ad 0)), (1, .int a0), (2, .int j244_1), (4, .long j244_2), (14, .long j244_3)] [.int j244_4] := by
    intro j244_0 j244_1 j244_2 j244_3 j244_4 hf
    unfold X9_free_J244 at hf
    refine v_istore hG [(16, _), (0, _), (1, _), (2, _), (4, _), (14, _)] dX9_free_244 (by decide) rfl ?_
    refine v_iconst hG (v := 0) (by decide) dX9_free_246 ?_
    refine v_istore hG [(17, _), (16, _), (0, _), (1, _), (2, _), (4, _), (14, _)] dX9_free_247 (by decide) rfl ?_
    refine v_sub [(0, _), (1, _), (2, _), (4, _), (14, _), (16, _), (17, _)] [2, 3, 4, 5, 6, 1, 0] rfl ?_
    obtain ⟨z249, hlz249, hf⟩ := bd_some hf
    refine loop_v (step := X9_free_L249 a0 j244_0 j244_1 j244_2) (fun s249 : Int32 × Int32 => V p l e (k2_rm 2 51) s m args below meth c (inW (mcells g ad w)) (EN below args s g (mcells g ad w) (mcells g ad rr) none) g 19 (mcells g ad j244_0) 0 0 249 [(0, .ref (ad 0)), (1, .int a0), (2, .int j244_1), (4, .long j244_2), (14, .long j244_3), (16, .int s249.1), (17, .int s249.2)] []) (fun z249_q : (Int32) => V p l e (k2_rm 2 51) s m args below meth c (inW (mcells g ad w)) (EN below args s g (mcells g ad w) (mcells g ad rr) none) g 19 (mcells g ad j244_0) 0 0 328 [(0, .ref (ad 0)), (1, .int a0), (2, .int j244_1), (4, .long j244_2), (14, .long j244_3), (16, .int z249_q)] []) ?_ 5000 (j244_4, 0) z249 hlz249 ?_
    · intro s249 rL hf hin hout
      unfold X9_free_L249 at hf
      have j320 : ∀ (j320_0 : Int32) (j320_1 : Int32), X9_free_J320 j320_0 j320_1 = some rL → V p l e (k2_rm 2 51) s m args below meth c (inW (mcells g ad w)) (EN below args s g (mcells g ad w) (mcells g ad rr) none) g 19 (mcells g ad j244_0) 0 0 320 [(0, .ref (ad 0)), (1, .int a0), (2, .int j244_1), (4, .long j244_2), (14, .long j244_3), (17, .int j320_0)] [.int j320_1] := by
        intro j320_0 j320_1 hf
        unfold X9_free_J320 at hf
        refine v_istore hG [(16, _), (0, _), (1, _), (2, _), (4, _), (14, _), (17, _)] dX9_free_320 (by decide) rfl ?_
        refine v_iinc hG 6 (v := j320_0 + 1) [(17, _), (16, _), (0, _), (1, _), (2, _), (4, _), (14, _)] dX9_free_322 rfl rfl (by decide) rfl ?_
        refine v_goto hG 249 dX9_free_325 rfl ?_
        refine v_sub [(0, _), (1, _), (2, _), (4, _), (14, _), (16, _), (17, _)] [2, 3, 4, 5, 6, 1, 0] rfl ?_
        exact hin _ (Option.some.inj hf).symm
      have j319 : ∀ (j319_0 : Int32), X9_free_J319 j319_0 = some rL → V p l e (k2_rm 2 51) s m args below meth c (inW (mcells g ad w)) (EN below args s g (mcells g ad w) (mcells g ad rr) none) g 19 (mcells g ad j244_0) 0 0 319 [(0, .ref (ad 0)), (1, .int a0), (2, .int j244_1), (4, .long j244_2), (14, .long j244_3), (17, .int j319_0)] [] := by
        intro j319_0 hf
        unfold X9_free_J319 at hf
        refine v_iconst hG (v := 0) (by decide) dX9_free_319 ?_
        exact j320 j319_0 0 hf
      have j315 : ∀ (j315_0 : Int32), X9_free_J315 j315_0 = some rL → V p l e (k2_rm 2 51) s m args below meth c (inW (mcells g ad w)) (EN below args s g (mcells g ad w) (mcells g ad rr) none) g 19 (mcells g ad j244_0) 0 0 315 [(0, .ref (ad 0)), (1, .int a0), (2, .int j244_1), (4, .long j244_2), (14, .long j244_3), (17, .int j315_0)] [] := by
        intro j315_0 hf
        unfold X9_free_J315 at hf
        refine v_iconst hG (v := 1) (by decide) dX9_free_315 ?_
        refine v_goto hG 320 dX9_free_316 rfl ?_
        exact j320 j315_0 1 hf
      refine v_iload hG 6 rfl dX9_free_249 ?_
      refine v_aload_n hG 0 rfl rfl dX9_free_251 ?_
      refine m_g_0_1 hG wk_1067 dX9_free_252 ?_
      refine v_icmp_ge hG 328 dX9_free_255 rfl hf (fun hf => ?_) (fun hf => ?_)
      · refine v_sub [(0, _), (1, _), (2, _), (4, _), (14, _), (16, _)] [0, 1, 2, 3, 4, 5] rfl ?_
        exact hout _ (Option.some.inj hf).symm
      · refine v_iload hG 5 rfl dX9_free_258 ?_
        refine v_if_eq hG 319 dX9_free_260 rfl hf (fun hf => ?_) (fun hf => ?_)
        · refine v_sub [(0, _), (1, _), (2, _), (4, _), (14, _), (17, _)] [0, 1, 2, 3, 4, 6] rfl ?_
          exact j319 s249.2 hf
        · refine v_iload hG 6 rfl dX9_free_263 ?_
          refine v_iload_n hG 1 rfl rfl dX9_free_265 ?_
          refine v_icmp_eq hG 315 dX9_free_266 rfl hf (fun hf => ?_) (fun hf => ?_)
          · refine v_sub [(0, _), (1, _), (2, _), (4, _), (14, _), (17, _)] [0, 1, 2, 3, 4, 6] rfl ?_
            exact j315 s249.2 hf
          · refine v_aload_n hG 0 rfl rfl dX9_free_269 ?_
            refine v_iload_n hG 2 rfl rfl dX9_free_270 ?_
            refine v_iload hG 6 rfl dX9_free_271 ?_
            obtain ⟨r273, hr273, hf⟩ := bd_some hf
            refine v_callV hG (st := []) 0 9 (ct_X9_isTerm l g ad j244_0 j244_1 s249.2 r273 hr273) iw_X9_isTerm wk_1276 rfl rfl ⟨rfl, rfl, Nat.le_of_ble_eq_true rfl, Nat.le_of_ble_eq_true rfl⟩ ⟨Nat.le_of_ble_eq_true rfl, Nat.le_of_ble_eq_true rfl⟩ rfl rfl (Nat.le_of_ble_eq_true rfl) (mcells_fst _ _ _ _) dX9_free_273 ?_
            refine (show V p l e (k2_rm 2 51) s m args below meth c (inW (mcells g ad w)) (EN below args s g (mcells g ad w) (mcells g ad rr) none) g 19 (mcells g ad j244_0) 0 0 276 [(0, .ref (ad 0)), (1, .int a0), (2, .int j244_1), (4, .long j244_2), (14, .long j244_3), (16, .int s249.1), (17, .int s249.2)] [.int r273] from ?_)
            refine v_if_eq hG 315 dX9_free_276 rfl hf (fun hf => ?_) (fun hf => ?_)
            · refine v_sub [(0, _), (1, _), (2, _), (4, _), (14, _), (17, _)] [0, 1, 2, 3, 4, 6] rfl ?_
              exact j315 s249.2 hf
            · refine v_aload_n hG 0 rfl rfl dX9_free_279 ?_
              refine m_g_0_15 hG wk_1081 dX9_free_280 ?_
              refine v_iload hG 6 rfl dX9_free_283 ?_
              refine m_l_12 hG dX9_free_285 hf (fun hf => ?_)
              refine v_lload hG 3 rfl dX9_free_286 ?_
              refine v_aload_n hG 0 rfl rfl dX9_free_288 ?_
              refine m_g_0_20 hG wk_1086 dX9_free_289 ?_
              refine v_bipush hG (v := 12) (by decide) dX9_free_292 ?_
              refine v_iload_n hG 2 rfl rfl dX9_free_294 ?_
              refine v_imul hG dX9_free_295 ?_
              refine v_iload hG 6 rfl dX9_free_296 ?_
              refine v_iadd hG dX9_free_298 ?_
              refine m_l_17 hG dX9_free_299 hf (fun hf => ?_)
              refine v_lmul hG dX9_free_300 ?_
              refine v_aload_n hG 0 rfl rfl dX9_free_301 ?_
              refine m_g_0_15 hG wk_1081 dX9_free_302 ?_
              refine v_iload_n hG 1 rfl rfl dX9_free_305 ?_
              refine m_l_12 hG dX9_free_306 hf (fun hf => ?_)
              refine v_lmul hG dX9_free_307 ?_
              refine v_lsub hG dX9_free_308 ?_
              obtain ⟨r309, hr309, hf⟩ := bd_some hf
              refine v_callP hG (st := []) (ct_X9_isCoefficient l g (((gM_cost j244_0) s249.2.toNatClampNeg) - ((j244_2 * ((gM_coef j244_0) ((12 * j244_1) + s249.2).toNatClampNeg)) * ((gM_cost j244_0) a0.toNatClampNeg))) r309 hr309) sw_X9_isCoefficient wk_1361 ⟨rfl, rfl, Nat.le_of_ble_eq_true rfl, Nat.le_of_ble_eq_true rfl⟩ ⟨Nat.le_of_ble_eq_true rfl, Nat.le_of_ble_eq_true rfl⟩ rfl rfl (Nat.le_of_ble_eq_true rfl) dX9_free_309 ?_
              refine (show V p l e (k2_rm 2 51) s m args below meth c (inW (mcells g ad w)) (EN below args s g (mcells g ad w) (mcells g ad rr) none) g 19 (mcells g ad j244_0) 0 0 312 [(0, .ref (ad 0)), (1, .int a0), (2, .int j244_1), (4, .long j244_2), (14, .long j244_3), (16, .int s249.1), (17, .int s249.2)] [.int r309] from ?_)
              refine v_if_eq hG 319 dX9_free_312 rfl hf (fun hf => ?_) (fun hf => ?_)
              · refine v_sub [(0, _), (1, _), (2, _), (4, _), (14, _), (17, _)] [0, 1, 2, 3, 4, 6] rfl ?_
                exact j319 s249.2 hf
              · refine v_sub [(0, _), (1, _), (2, _), (4, _), (14, _), (17, _)] [0, 1, 2, 3, 4, 6] rfl ?_
                exact j315 s249.2 hf
    · show V p l e (k2_rm 2 51) s m args below meth c (inW (mcells g ad w)) (EN below args s g (mcells g ad w) (mcells g ad rr) none) g 19 (mcells g ad j244_0) 0 0 328 [(0, .ref (ad 0)), (1, .int a0), (2, .int j244_1), (4, .long j244_2), (14, .long j244_3), (16, .int z249)] []
      refine v_iload hG 5 rfl dX9_free_328 ?_
      refine v_if_ne hG 334 dX9_free_330 rfl hf (fun hf => ?_) (fun hf => ?_)
      · refine v_iconst hG (v := 0) (by decide) dX9_free_334 ?_
        refine v_istore hG [(17, _), (0, _), (1, _), (2, _), (4, _), (14, _), (16, _)] dX9_free_335 (by decide) rfl ?_
        refine v_sub [(0, _), (1, _), (2, _), (4, _), (14, _), (17, _)] [1, 2, 3, 4, 5, 0] rfl ?_
        obtain ⟨z337, hlz337, hf⟩ := bd_some hf
        refine loop_v (step := X9_free_L337 a0 j244_1 j244_2) (fun s337 : MW × Int32 => V p l e (k2_rm 2 51) s m args below meth c (inW (mcells g ad w)) (EN below args s g (mcells g ad w) (mcells g ad rr) none) g 19 (mcells g ad s337.1) 0 0 337 [(0, .ref (ad 0)), (1, .int a0), (2, .int j244_1), (4, .long j244_2), (14, .long j244_3), (17, .int s337.2)] []) (fun z337_q : (MW) => V p l e (k2_rm 2 51) s m args below meth c (inW (mcells g ad w)) (EN below args s g (mcells g ad w) (mcells g ad rr) none) g 19 (mcells g ad z337_q) 0 0 441 [(0, .ref (ad 0)), (1, .int a0), (2, .int j244_1), (14, .long j244_3)] []) ?_ 5000 (j244_0, 0) z337 hlz337 ?_
        · intro s337 rL hf hin hout
          unfold X9_free_L337 at hf
          have j405 : ∀ (j405_0 : MW) (j405_1 : Int32) (j405_2 : Int32) (j405_3 : Int64), X9_free_J405 a0 j405_0 j405_1 j405_2 j405_3 = some rL → V p l e (k2_rm 2 51) s m args below meth c (inW (mcells g ad w)) (EN below args s g (mcells g ad w) (mcells g ad rr) none) g 19 (mcells g ad j405_0) 0 0 405 [(0, .ref (ad 0)), (1, .int a0), (2, .int j244_1), (4, .long j244_2), (14, .long j244_3), (17, .int j405_1)] [.long j405_3, .int j405_2, .ref (ad 25)] := by
            intro j405_0 j405_1 j405_2 j405_3 hf
            unfold X9_free_J405 at hf
            refine m_s_25 hG dX9_free_405 hf (fun w405 hf => ?_)
            refine v_aload_n hG 0 rfl rfl dX9_free_406 ?_
            refine m_g_0_15 hG wk_1081 dX9_free_407 ?_
            refine v_iload hG 5 rfl dX9_free_410 ?_
            refine v_dup2 hG rfl rfl dX9_free_412 ?_
            refine m_l_12 hG dX9_free_413 hf (fun hf => ?_)
            refine v_aload_n hG 0 rfl rfl dX9_free_414 ?_
            refine m_g_0_32 hG wk_1098 dX9_free_415 ?_
            refine v_bipush hG (v := 12) (by decide) dX9_free_418 ?_
            refine v_iload_n hG 1 rfl rfl dX9_free_420 ?_
            refine v_imul hG dX9_free_421 ?_
            refine v_iload hG 5 rfl dX9_free_422 ?_
            refine v_iadd hG dX9_free_424 ?_
            refine m_l_25 hG dX9_free_425 hf (fun hf => ?_)
            refine v_aload_n hG 0 rfl rfl dX9_free_426 ?_
            refine m_g_0_15 hG wk_1081 dX9_free_427 ?_
            refine v_iload_n hG 1 rfl rfl dX9_free_430 ?_
            refine m_l_12 hG dX9_free_431 hf (fun hf => ?_)
            refine v_lmul hG dX9_free_432 ?_
            refine v_ladd hG dX9_free_433 ?_
            refine m_s_12 hG dX9_free_434 hf (fun w434 hf => ?_)
            refine v_iinc hG 5 (v := j405_1 + 1) [(17, _), (0, _), (1, _), (2, _), (4, _), (14, _)] dX9_free_435 rfl rfl (by decide) rfl ?_
            refine v_goto hG 337 dX9_free_438 rfl ?_
            refine v_sub [(0, _), (1, _), (2, _), (4, _), (14, _), (17, _)] [1, 2, 3, 4, 5, 0] rfl ?_
            exact hin _ (Option.some.inj hf).symm
          have j367 : ∀ (j367_0 : MW) (j367_1 : Int32) (j367_2 : Int32), X9_free_J367 a0 j244_1 j244_2 j367_0 j367_1 j367_2 = some rL → V p l e (k2_rm 2 51) s m args below meth c (inW (mcells g ad w)) (EN below args s g (mcells g ad w) (mcells g ad rr) none) g 19 (mcells g ad j367_0) 0 0 367 [(0, .ref (ad 0)), (1, .int a0), (2, .int j244_1), (4, .long j244_2), (14, .long j244_3), (17, .int j367_1)] [.int j367_2] := by
            intro j367_0 j367_1 j367_2 hf
            unfold X9_free_J367 at hf
            refine v_istore hG [(18, _), (0, _), (1, _), (2, _), (4, _), (14, _), (17, _)] dX9_free_367 (by decide) rfl ?_
            refine v_aload_n hG 1 rfl rfl dX9_free_369 ?_
            refine m_g_0_32 hG wk_1098 dX9_free_370 ?_
            refine v_bipush hG (v := 12) (by decide) dX9_free_373 ?_
            refine v_iload_n hG 2 rfl rfl dX9_free_375 ?_
            refine v_imul hG dX9_free_376 ?_
            refine v_iload hG 6 rfl dX9_free_377 ?_
            refine v_iadd hG dX9_free_379 ?_
            refine v_iload hG 0 rfl dX9_free_380 ?_
            refine v_if_eq hG 404 dX9_free_382 rfl hf (fun hf => ?_) (fun hf => ?_)
            · refine v_lconst hG (v := 0) (by decide) dX9_free_404 ?_
              refine v_sub [(0, _), (1, _), (2, _), (4, _), (14, _), (17, _)] [1, 2, 3, 4, 5, 6] rfl ?_
              exact j405 j367_0 j367_1 ((12 * a0) + j367_1) 0 hf
            · refine v_lload hG 4 rfl dX9_free_385 ?_
              refine v_lneg hG dX9_free_387 ?_
              refine v_aload_n hG 1 rfl rfl dX9_free_388 ?_
              refine m_g_0_20 hG wk_1086 dX9_free_389 ?_
              refine v_bipush hG (v := 12) (by decide) dX9_free_392 ?_
              refine v_iload_n hG 3 rfl rfl dX9_free_394 ?_
              refine v_imul hG dX9_free_395 ?_
              refine v_iload hG 6 rfl dX9_free_396 ?_
              refine v_iadd hG dX9_free_398 ?_
              refine m_l_17 hG dX9_free_399 hf (fun hf => ?_)
              refine v_lmul hG dX9_free_400 ?_
              refine v_goto hG 405 dX9_free_401 rfl ?_
              refine v_sub [(0, _), (1, _), (2, _), (4, _), (14, _), (17, _)] [1, 2, 3, 4, 5, 6] rfl ?_
              exact j405 j367_0 j367_1 ((12 * a0) + j367_1) ((-j244_2) * ((gM_coef j367_0) ((12 * j244_1) + j367_1).toNatClampNeg)) hf
          have j366 : ∀ (j366_0 : MW) (j366_1 : Int32), X9_free_J366 a0 j244_1 j244_2 j366_0 j366_1 = some rL → V p l e (k2_rm 2 51) s m args below meth c (inW (mcells g ad w)) (EN below args s g (mcells g ad w) (mcells g ad rr) none) g 19 (mcells g ad j366_0) 0 0 366 [(0, .ref (ad 0)), (1, .int a0), (2, .int j244_1), (4, .long j244_2), (14, .long j244_3), (17, .int j366_1)] [] := by
            intro j366_0 j366_1 hf
            unfold X9_free_J366 at hf
            refine v_iconst hG (v := 0) (by decide) dX9_free_366 ?_
            exact j367 j366_0 j366_1 0 hf
          refine v_iload hG 5 rfl dX9_free_337 ?_
          refine v_aload_n hG 0 rfl rfl dX9_free_339 ?_
          refine m_g_0_1 hG wk_1067 dX9_free_340 ?_
          refine v_icmp_ge hG 441 dX9_free_343 rfl hf (fun hf => ?_) (fun hf => ?_)
          · refine v_sub [(0, _), (1, _), (2, _), (14, _)] [0, 1, 2, 4] rfl ?_
            exact hout _ (Option.some.inj hf).symm
          · refine v_iload hG 5 rfl dX9_free_346 ?_
            refine v_iload_n hG 1 rfl rfl dX9_free_348 ?_
            refine v_icmp_eq hG 366 dX9_free_349 rfl hf (fun hf => ?_) (fun hf => ?_)
            · exact j366 s337.1 s337.2 hf
            · refine v_aload_n hG 0 rfl rfl dX9_free_352 ?_
              refine v_iload_n hG 2 rfl rfl dX9_free_353 ?_
              refine v_iload hG 5 rfl dX9_free_354 ?_
              obtain ⟨r356, hr356, hf⟩ := bd_some hf
              refine v_callV hG (st := []) 0 9 (ct_X9_isTerm l g ad s337.1 j244_1 s337.2 r356 hr356) iw_X9_isTerm wk_1276 rfl rfl ⟨rfl, rfl, Nat.le_of_ble_eq_true rfl, Nat.le_of_ble_eq_true rfl⟩ ⟨Nat.le_of_ble_eq_true rfl, Nat.le_of_ble_eq_true rfl⟩ rfl rfl (Nat.le_of_ble_eq_true rfl) (mcells_fst _ _ _ _) dX9_free_356 ?_
              refine (show V p l e (k2_rm 2 51) s m args below meth c (inW (mcells g ad w)) (EN below args s g (mcells g ad w) (mcells g ad rr) none) g 19 (mcells g ad s337.1) 0 0 359 [(0, .ref (ad 0)), (1, .int a0), (2, .int j244_1), (4, .long j244_2), (14, .long j244_3), (17, .int s337.2)] [.int r356] from ?_)
              refine v_if_eq hG 366 dX9_free_359 rfl hf (fun hf => ?_) (fun hf => ?_)
              · exact j366 s337.1 s337.2 hf
              · refine v_iconst hG (v := 1) (by decide) dX9_free_362 ?_
                refine v_goto hG 367 dX9_free_363 rfl ?_
                exact j367 s337.1 s337.2 1 hf
        · show V p l e (k2_rm 2 51) s m args below meth c (inW (mcells g ad w)) (EN below args s g (mcells g ad w) (mcells g ad rr) none) g 19 (mcells g ad z337) 0 0 441 [(0, .ref (ad 0)), (1, .int a0), (2, .int j244_1), (14, .long j244_3)] []
          refine v_aload_n hG 0 rfl rfl dX9_free_441 ?_
          refine v_bipush hG (v := 11) (by decide) dX9_free_442 ?_
          refine v_iload_n hG 2 rfl rfl dX9_free_444 ?_
          refine v_iload_n hG 1 rfl rfl dX9_free_445 ?_
          refine v_lload hG 3 rfl dX9_free_446 ?_
          obtain ⟨r448, hr448, hf⟩ := bd_some hf
          refine v_callV hG (st := []) 0 9 (ct_X9_goes l g ad z337 11 j244_1 a0 j244_3 r448 hr448) iw_X9_goes wk_1372 rfl rfl ⟨rfl, rfl, Nat.le_of_ble_eq_true rfl, Nat.le_of_ble_eq_true rfl⟩ ⟨Nat.le_of_ble_eq_true rfl, Nat.le_of_ble_eq_true rfl⟩ rfl rfl (Nat.le_of_ble_eq_true rfl) (mcells_fst _ _ _ _) dX9_free_448 ?_
          refine (show V p l e (k2_rm 2 51) s m args below meth c (inW (mcells g ad w)) (EN below args s g (mcells g ad w) (mcells g ad rr) none) g 19 (mcells g ad r448) 0 0 451 [(0, .ref (ad 0)), (1, .int a0), (2, .int j244_1), (14, .long j244_3)] [] from ?_)
          cases hf
          exact v_vret hG hr dX9_free_451
      · cases hf
        exact v_vret hG hr dX9_free_333
  have j243 : ∀ (j243_0 : MW) (j243_1 : Int32) (j243_2 : Int64) (j243_3 : Int64), X9_free_J243 a0 j243_0 j243_1 j243_2 j243_3 = some rr → V p l e (k2_rm 2 51) s m args below meth c (inW (mcells g ad w)) (EN below args s g (mcells g ad w) (mcells g ad rr) none) g 19 (mcells g ad j243_0) 0 0 243 [(0, .ref (ad 0)), (1, .int a0), (2, .int j243_1), (4, .long j243_2), (14, .long j243_3)] [] := by
    intro j243_0 j243_1 j243_2 j243_3 hf
    unfold X9_free_J243 at hf
    refine v_iconst hG (v := 0) (by decide) dX9_free_243 ?_
    exact j244 j243_0 j243_1 j243_2 j243_3 0 hf
  have j179 : ∀ (j179_0 : MW) (j179_1 : Int32) (j179_2 : Int64) (j179_3 : Int64) (j179_4 : Int64), X9_free_J179 a0 j179_0 j179_1 j179_2 j179_3 j179_4 = some rr → V p l e (k2_rm 2 51) s m args below meth c (inW (mcells g ad w)) (EN below args s g (mcells g ad w) (mcells g ad rr) none) g 19 (mcells g ad j179_0) 0 0 179 [(0, .ref (ad 0)), (1, .int a0), (2, .int j179_1), (4, .long j179_2), (10, .long j179_3)] [.long j179_4] := by
    intro j179_0 j179_1 j179_2 j179_3 j179_4 hf
    unfold X9_free_J179 at hf
    refine v_lstore hG [(12, _), (0, _), (1, _), (2, _), (4, _), (10, _)] dX9_free_179 (by decide) rfl ?_
    refine v_lload hG 4 rfl dX9_free_181 ?_
    refine v_aload_n hG 1 rfl rfl dX9_free_183 ?_
    refine m_g_0_18 hG wk_1084 dX9_free_184 ?_
    refine v_iload_n hG 3 rfl rfl dX9_free_187 ?_
    refine m_l_15 hG dX9_free_188 hf (fun hf => ?_)
    refine v_lmul hG dX9_free_189 ?_
    refine v_lstore hG [(14, _), (12, _), (0, _), (1, _), (2, _), (4, _), (10, _)] dX9_free_190 (by decide) rfl ?_
    refine v_lload hG 6 rfl dX9_free_192 ?_
    refine v_aload_n hG 2 rfl rfl dX9_free_194 ?_
    refine m_g_0_11 hG wk_1077 dX9_free_195 ?_
    refine v_iload_n hG 3 rfl rfl dX9_free_198 ?_
    refine m_l_8 hG dX9_free_199 hf (fun hf => ?_)
    refine v_i2l hG dX9_free_200 ?_
    refine v_lcmp_lt hG 243 dX9_free_201 dX9_free_202 rfl hf (fun hf => ?_) (fun hf => ?_)
    · refine v_sub [(0, _), (1, _), (2, _), (4, _), (14, _)] [2, 3, 4, 5, 0] rfl ?_
      exact j243 j179_0 j179_1 j179_2 (j179_2 * ((gM_right j179_0) j179_1.toNatClampNeg)) hf
    · refine v_lload hG 1 rfl dX9_free_205 ?_
      refine v_aload_n hG 2 rfl rfl dX9_free_207 ?_
      refine m_g_0_12 hG wk_1078 dX9_free_208 ?_
      refine v_iload_n hG 3 rfl rfl dX9_free_211 ?_
      refine m_l_9 hG dX9_free_212 hf (fun hf => ?_)
      refine v_i2l hG dX9_free_213 ?_
      refine v_lcmp_gt hG 243 dX9_free_214 dX9_free_215 rfl hf (fun hf => ?_) (fun hf => ?_)
      · refine v_sub [(0, _), (1, _), (2, _), (4, _), (14, _)] [2, 3, 4, 5, 0] rfl ?_
        exact j243 j179_0 j179_1 j179_2 (j179_2 * ((gM_right j179_0) j179_1.toNatClampNeg)) hf
      · refine v_lload hG 0 rfl dX9_free_218 ?_
        refine v_aload_n hG 2 rfl rfl dX9_free_220 ?_
        refine m_g_0_15 hG wk_1081 dX9_free_221 ?_
        refine v_iload_n hG 3 rfl rfl dX9_free_224 ?_
        refine m_l_12 hG dX9_free_225 hf (fun hf => ?_)
        refine v_lmul hG dX9_free_226 ?_
        refine v_ldc2 hG wk_1364 dX9_free_227 ?_
        refine v_ldc2 hG wk_1365 dX9_free_230 ?_
        obtain ⟨r233, hr233, hf⟩ := bd_some hf
        refine v_callP hG (st := []) (ct_X9_within l g ((j179_2 * ((gM_right j179_0) j179_1.toNatClampNeg)) * ((gM_cost j179_0) a0.toNatClampNeg)) (-1000000000000000) 1000000000000000 r233 hr233) sw_X9_within wk_1207 ⟨rfl, rfl, Nat.le_of_ble_eq_true rfl, Nat.le_of_ble_eq_true rfl⟩ ⟨Nat.le_of_ble_eq_true rfl, Nat.le_of_ble_eq_true rfl⟩ rfl rfl (Nat.le_of_ble_eq_true rfl) dX9_free_233 ?_
        refine (show V p l e (k2_rm 2 51) s m args below meth c (inW (mcells g ad w)) (EN below args s g (mcells g ad w) (mcells g ad rr) none) g 19 (mcells g ad j179_0) 0 0 236 [(14, .long (j179_2 * ((gM_right j179_0) j179_1.toNatClampNeg))), (12, .long j179_4), (0, .ref (ad 0)), (1, .int a0), (2, .int j179_1), (4, .long j179_2), (10, .long j179_3)] [.int r233] from ?_)
        refine v_if_eq hG 243 dX9_free_236 rfl hf (fun hf => ?_) (fun hf => ?_)
        · refine v_sub [(0, _), (1, _), (2, _), (4, _), (14, _)] [2, 3, 4, 5, 0] rfl ?_
          exact j243 j179_0 j179_1 j179_2 (j179_2 * ((gM_right j179_0) j179_1.toNatClampNeg)) hf
        · refine v_iconst hG (v := 1) (by decide) dX9_free_239 ?_
          refine v_goto hG 244 dX9_free_240 rfl ?_
          refine v_sub [(0, _), (1, _), (2, _), (4, _), (14, _)] [2, 3, 4, 5, 0] rfl ?_
          exact j244 j179_0 j179_1 j179_2 (j179_2 * ((gM_right j179_0) j179_1.toNatClampNeg)) 1 hf
  have j149 : ∀ (j149_0 : MW) (j149_1 : Int32) (j149_2 : Int64) (j149_3 : Int64) (j149_4 : Int64) (j149_5 : Int64), X9_free_J149 a0 j149_0 j149_1 j149_2 j149_3 j149_4 j149_5 = some rr → V p l e (k2_rm 2 51) s m args below meth c (inW (mcells g ad w)) (EN below args s g (mcells g ad w) (mcells g ad rr) none) g 19 (mcells g ad j149_0) 0 0 149 [(0, .ref (ad 0)), (1, .int a0), (2, .int j149_1), (4, .long j149_2), (6, .long j149_3), (8, .long j149_4)] [.long j149_5] := by
    intro j149_0 j149_1 j149_2 j149_3 j149_4 j149_5 hf
    unfold X9_free_J149 at hf
    refine v_lstore hG [(10, _), (0, _), (1, _), (2, _), (4, _), (6, _), (8, _)] dX9_free_149 (by decide) rfl ?_
    refine v_lload hG 4 rfl dX9_free_151 ?_
    refine v_lconst hG (v := 1) (by decide) dX9_free_153 ?_
    refine v_lcmp_ne hG 170 dX9_free_154 dX9_free_155 rfl hf (fun hf => ?_) (fun hf => ?_)
    · refine v_lload hG 6 rfl dX9_free_170 ?_
      refine v_aload_n hG 1 rfl rfl dX9_free_172 ?_
      refine m_g_0_18 hG wk_1084 dX9_free_173 ?_
      refine v_iload_n hG 3 rfl rfl dX9_free_176 ?_
      refine m_l_15 hG dX9_free_177 hf (fun hf => ?_)
      refine v_lsub hG dX9_free_178 ?_
      refine v_sub [(0, _), (1, _), (2, _), (4, _), (10, _)] [1, 2, 3, 4, 0] rfl ?_
      exact j179 j149_0 j149_1 j149_2 j149_5 (j149_4 - ((gM_right j149_0) j149_1.toNatClampNeg)) hf
    · refine v_aload_n hG 1 rfl rfl dX9_free_158 ?_
      refine m_g_0_18 hG wk_1084 dX9_free_159 ?_
      refine v_iload_n hG 3 rfl rfl dX9_free_162 ?_
      refine m_l_15 hG dX9_free_163 hf (fun hf => ?_)
      refine v_lload hG 5 rfl dX9_free_164 ?_
      refine v_lsub hG dX9_free_166 ?_
      refine v_goto hG 179 dX9_free_167 rfl ?_
      refine v_sub [(0, _), (1, _), (2, _), (4, _), (10, _)] [1, 2, 3, 4, 0] rfl ?_
      exact j179 j149_0 j149_1 j149_2 j149_5 (((gM_right j149_0) j149_1.toNatClampNeg) - j149_3) hf
  refine v_iconst hG (v := -1) (by decide) dX9_free_0 ?_
  refine v_istore_n hG [(2, _), (0, _), (1, _)] dX9_free_1 rfl (by decide) rfl ?_
  refine v_iconst hG (v := 0) (by decide) dX9_free_2 ?_
  refine v_istore_n hG [(3, _), (2, _), (0, _), (1, _)] dX9_free_3 rfl (by decide) rfl ?_
  refine v_iconst hG (v := 0) (by decide) dX9_free_4 ?_
  refine v_istore hG [(4, _), (3, _), (2, _), (0, _), (1, _)] dX9_free_5 (by decide) rfl ?_
  refine v_sub [(0, _), (1, _), (2, _), (3, _), (4, _)] [3, 4, 2, 1, 0] rfl ?_
  obtain ⟨z7, hlz7, hf⟩ := bd_some hf
  refine loop_v (step := X9_free_L7 w a0) (fun s7 : Int32 × Int32 × Int32 => V p l e (k2_rm 2 51) s m args below meth c (inW (mcells g ad w)) (EN below args s g (mcells g ad w) (mcells g ad rr) none) g 19 (mcells g ad w) 0 0 7 [(0, .ref (ad 0)), (1, .int a0), (2, .int s7.1), (3, .int s7.2.1), (4, .int s7.2.2)] []) (fun z7_q : (Int32 × Int32) => V p l e (k2_rm 2 51) s m args below meth c (inW (mcells g ad w)) (EN below args s g (mcells g ad w) (mcells g ad rr) none) g 19 (mcells g ad w) 0 0 48 [(0, .ref (ad 0)), (1, .int a0), (2, .int z7_q.1), (3, .int z7_q.2)] []) ?_ 5000 ((-1), 0, 0) z7 hlz7 ?_
  · intro s7 rL hf hin hout
    unfold X9_free_L7 at hf
    have j42 : ∀ (j42_0 : Int32) (j42_1 : Int32) (j42_2 : Int32), X9_free_J42 j42_0 j42_1 j42_2 = some rL → V p l e (k2_rm 2 51) s m args below meth c (inW (mcells g ad w)) (EN below args s g (mcells g ad w) (mcells g ad rr) none) g 19 (mcells g ad w) 0 0 42 [(0, .ref (ad 0)), (1, .int a0), (2, .int j42_0), (3, .int j42_1), (4, .int j42_2)] [] := by
      intro j42_0 j42_1 j42_2 hf
      unfold X9_free_J42 at hf
      refine v_iinc hG 4 (v := j42_2 + 1) [(4, _), (0, _), (1, _), (2, _), (3, _)] dX9_free_42 rfl rfl (by decide) rfl ?_
      refine v_goto hG 7 dX9_free_45 rfl ?_
      refine v_sub [(0, _), (1, _), (2, _), (3, _), (4, _)] [1, 2, 3, 4, 0] rfl ?_
      exact hin _ (Option.some.inj hf).symm
    refine v_iload hG 4 rfl dX9_free_7 ?_
    refine v_aload_n hG 0 rfl rfl dX9_free_9 ?_
    refine m_g_0_2 hG wk_1068 dX9_free_10 ?_
    refine v_icmp_ge hG 48 dX9_free_13 rfl hf (fun hf => ?_) (fun hf => ?_)
    · refine v_sub [(0, _), (1, _), (2, _), (3, _)] [0, 1, 2, 3] rfl ?_
      exact hout _ (Option.some.inj hf).symm
    · refine v_aload_n hG 0 rfl rfl dX9_free_16 ?_
      refine m_g_0_17 hG wk_1083 dX9_free_17 ?_
      refine v_iload hG 4 rfl dX9_free_20 ?_
      refine m_l_14 hG dX9_free_22 hf (fun hf => ?_)
      refine v_if_ne hG 42 dX9_free_23 rfl hf (fun hf => ?_) (fun hf => ?_)
      · exact j42 s7.1 s7.2.1 s7.2.2 hf
      · refine v_aload_n hG 0 rfl rfl dX9_free_26 ?_
        refine v_iload hG 4 rfl dX9_free_27 ?_
        refine v_iload_n hG 1 rfl rfl dX9_free_29 ?_
        obtain ⟨r30, hr30, hf⟩ := bd_some hf
        refine v_callV hG (st := []) 0 9 (ct_X9_isTerm l g ad w s7.2.2 a0 r30 hr30) iw_X9_isTerm wk_1276 rfl rfl ⟨rfl, rfl, Nat.le_of_ble_eq_true rfl, Nat.le_of_ble_eq_true rfl⟩ ⟨Nat.le_of_ble_eq_true rfl, Nat.le_of_ble_eq_true rfl⟩ rfl rfl (Nat.le_of_ble_eq_true rfl) (mcells_fst _ _ _ _) dX9_free_30 ?_
        refine (show V p l e (k2_rm 2 51) s m args below meth c (inW (mcells g ad w)) (EN below args s g (mcells g ad w) (mcells g ad rr) none) g 19 (mcells g ad w) 0 0 33 [(0, .ref (ad 0)), (1, .int a0), (2, .int s7.1), (3, .int s7.2.1), (4, .int s7.2.2)] [.int r30] from ?_)
        refine v_if_eq hG 42 dX9_free_33 rfl hf (fun hf => ?_) (fun hf => ?_)
        · exact j42 s7.1 s7.2.1 s7.2.2 hf
        · refine v_iload hG 4 rfl dX9_free_36 ?_
          refine v_istore_n hG [(2, _), (0, _), (1, _), (3, _), (4, _)] dX9_free_38 rfl (by decide) rfl ?_
          refine v_iinc hG 3 (v := s7.2.1 + 1) [(3, _), (2, _), (0, _), (1, _), (4, _)] dX9_free_39 rfl rfl (by decide) rfl ?_
          refine v_sub [(0, _), (1, _), (2, _), (3, _), (4, _)] [2, 3, 1, 0, 4] rfl ?_
          exact j42 s7.2.2 (s7.2.1 + 1) s7.2.2 hf
  · show V p l e (k2_rm 2 51) s m args below meth c (inW (mcells g ad w)) (EN below args s g (mcells g ad w) (mcells g ad rr) none) g 19 (mcells g ad w) 0 0 48 [(0, .ref (ad 0)), (1, .int a0), (2, .int z7.1), (3, .int z7.2)] []
    refine v_iload_n hG 3 rfl rfl dX9_free_48 ?_
    refine v_iconst hG (v := 1) (by decide) dX9_free_49 ?_
    refine v_icmp_ne hG 89 dX9_free_50 rfl hf (fun hf => ?_) (fun hf => ?_)
    · cases hf
      exact v_vret hG hr dX9_free_89
    · refine v_aload_n hG 0 rfl rfl dX9_free_53 ?_
      refine m_g_0_16 hG wk_1082 dX9_free_54 ?_
      refine v_iload_n hG 2 rfl rfl dX9_free_57 ?_
      refine m_l_13 hG dX9_free_58 hf (fun hf => ?_)
      refine v_iconst hG (v := 1) (by decide) dX9_free_59 ?_
      refine v_icmp_ne hG 89 dX9_free_60 rfl hf (fun hf => ?_) (fun hf => ?_)
      · cases hf
        exact v_vret hG hr dX9_free_89
      · refine v_aload_n hG 0 rfl rfl dX9_free_63 ?_
        refine v_iload_n hG 2 rfl rfl dX9_free_64 ?_
        obtain ⟨r65, hr65, hf⟩ := bd_some hf
        refine v_callV hG (st := []) 0 9 (ct_X9_terms l g ad w z7.1 r65 hr65) iw_X9_terms wk_1272 rfl rfl ⟨rfl, rfl, Nat.le_of_ble_eq_true rfl, Nat.le_of_ble_eq_true rfl⟩ ⟨Nat.le_of_ble_eq_true rfl, Nat.le_of_ble_eq_true rfl⟩ rfl rfl (Nat.le_of_ble_eq_true rfl) (mcells_fst _ _ _ _) dX9_free_65 ?_
        refine (show V p l e (k2_rm 2 51) s m args below meth c (inW (mcells g ad w)) (EN below args s g (mcells g ad w) (mcells g ad rr) none) g 19 (mcells g ad w) 0 0 68 [(0, .ref (ad 0)), (1, .int a0), (2, .int z7.1), (3, .int z7.2)] [.int r65] from ?_)
        refine v_iconst hG (v := 2) (by decide) dX9_free_68 ?_
        refine v_icmp_lt hG 89 dX9_free_69 rfl hf (fun hf => ?_) (fun hf => ?_)
        · cases hf
          exact v_vret hG hr dX9_free_89
        · refine v_aload_n hG 0 rfl rfl dX9_free_72 ?_
          refine m_g_0_20 hG wk_1086 dX9_free_73 ?_
          refine v_bipush hG (v := 12) (by decide) dX9_free_76 ?_
          refine v_iload_n hG 2 rfl rfl dX9_free_78 ?_
          refine v_imul hG dX9_free_79 ?_
          refine v_iload_n hG 1 rfl rfl dX9_free_80 ?_
          refine v_iadd hG dX9_free_81 ?_
          refine m_l_17 hG dX9_free_82 hf (fun hf => ?_)
          obtain ⟨r83, hr83, hf⟩ := bd_some hf
          refine v_callP hG (st := []) (ct_X9_isUnit l g ((gM_coef w) ((12 * z7.1) + a0).toNatClampNeg) r83 hr83) sw_X9_isUnit wk_1354 ⟨rfl, rfl, Nat.le_of_ble_eq_true rfl, Nat.le_of_ble_eq_true rfl⟩ ⟨Nat.le_of_ble_eq_true rfl, Nat.le_of_ble_eq_true rfl⟩ rfl rfl (Nat.le_of_ble_eq_true rfl) dX9_free_83 ?_
          refine (show V p l e (k2_rm 2 51) s m args below meth c (inW (mcells g ad w)) (EN below args s g (mcells g ad w) (mcells g ad rr) none) g 19 (mcells g ad w) 0 0 86 [(0, .ref (ad 0)), (1, .int a0), (2, .int z7.1), (3, .int z7.2)] [.int r83] from ?_)
          refine v_if_ne hG 90 dX9_free_86 rfl hf (fun hf => ?_) (fun hf => ?_)
          · refine v_aload_n hG 0 rfl rfl dX9_free_90 ?_
            refine m_g_0_20 hG wk_1086 dX9_free_91 ?_
            refine v_bipush hG (v := 12) (by decide) dX9_free_94 ?_
            refine v_iload_n hG 2 rfl rfl dX9_free_96 ?_
            refine v_imul hG dX9_free_97 ?_
            refine v_iload_n hG 1 rfl rfl dX9_free_98 ?_
            refine v_iadd hG dX9_free_99 ?_
            refine m_l_17 hG dX9_free_100 hf (fun hf => ?_)
            refine v_lstore hG [(4, _), (0, _), (1, _), (2, _), (3, _)] dX9_free_101 (by decide) rfl ?_
            refine v_aload_n hG 1 rfl rfl dX9_free_103 ?_
            refine v_iload_n hG 3 rfl rfl dX9_free_104 ?_
            refine v_iload_n hG 2 rfl rfl dX9_free_105 ?_
            refine v_iconst hG (v := 0) (by decide) dX9_free_106 ?_
            obtain ⟨r107, hr107, hf⟩ := bd_some hf
            refine v_callV hG (st := []) 0 9 (ct_X9_end l g ad w z7.1 a0 0 r107 hr107) iw_X9_end wk_1322 rfl rfl ⟨rfl, rfl, Nat.le_of_ble_eq_true rfl, Nat.le_of_ble_eq_true rfl⟩ ⟨Nat.le_of_ble_eq_true rfl, Nat.le_of_ble_eq_true rfl⟩ rfl rfl (Nat.le_of_ble_eq_true rfl) (mcells_fst _ _ _ _) dX9_free_107 ?_
            refine (show V p l e (k2_rm 2 51) s m args below meth c (inW (mcells g ad w)) (EN below args s g (mcells g ad w) (mcells g ad rr) none) g 19 (mcells g ad w) 0 0 110 [(4, .long ((gM_coef w) ((12 * z7.1) + a0).toNatClampNeg)), (0, .ref (ad 0)), (1, .int a0), (2, .int z7.1), (3, .int z7.2)] [.long r107] from ?_)
            refine v_lstore hG [(6, _), (4, _), (0, _), (1, _), (2, _), (3, _)] dX9_free_110 (by decide) rfl ?_
            refine v_aload_n hG 2 rfl rfl dX9_free_112 ?_
            refine v_iload_n hG 4 rfl rfl dX9_free_113 ?_
            refine v_iload_n hG 3 rfl rfl dX9_free_114 ?_
            refine v_iconst hG (v := 1) (by decide) dX9_free_115 ?_
            obtain ⟨r116, hr116, hf⟩ := bd_some hf
            refine v_callV hG (st := []) 0 9 (ct_X9_end l g ad w z7.1 a0 1 r116 hr116) iw_X9_end wk_1322 rfl rfl ⟨rfl, rfl, Nat.le_of_ble_eq_true rfl, Nat.le_of_ble_eq_true rfl⟩ ⟨Nat.le_of_ble_eq_true rfl, Nat.le_of_ble_eq_true rfl⟩ rfl rfl (Nat.le_of_ble_eq_true rfl) (mcells_fst _ _ _ _) dX9_free_116 ?_
            refine (show V p l e (k2_rm 2 51) s m args below meth c (inW (mcells g ad w)) (EN below args s g (mcells g ad w) (mcells g ad rr) none) g 19 (mcells g ad w) 0 0 119 [(6, .long r107), (4, .long ((gM_coef w) ((12 * z7.1) + a0).toNatClampNeg)), (0, .ref (ad 0)), (1, .int a0), (2, .int z7.1), (3, .int z7.2)] [.long r116] from ?_)
            refine v_lstore hG [(8, _), (6, _), (4, _), (0, _), (1, _), (2, _), (3, _)] dX9_free_119 (by decide) rfl ?_
            refine v_lload hG 2 rfl dX9_free_121 ?_
            refine v_lconst hG (v := 1) (by decide) dX9_free_123 ?_
            refine v_lcmp_ne hG 140 dX9_free_124 dX9_free_125 rfl hf (fun hf => ?_) (fun hf => ?_)
            · refine v_lload hG 1 rfl dX9_free_140 ?_
              refine v_aload_n hG 3 rfl rfl dX9_free_142 ?_
              refine m_g_0_18 hG wk_1084 dX9_free_143 ?_
              refine v_iload_n hG 5 rfl rfl dX9_free_146 ?_
              refine m_l_15 hG dX9_free_147 hf (fun hf => ?_)
              refine v_lsub hG dX9_free_148 ?_
              refine v_sub [(0, _), (1, _), (2, _), (4, _), (6, _), (8, _)] [3, 4, 5, 2, 1, 0] rfl ?_
              exact j149 w z7.1 ((gM_coef w) ((12 * z7.1) + a0).toNatClampNeg) r107 r116 (r107 - ((gM_right w) z7.1.toNatClampNeg)) hf
            · refine v_aload_n hG 3 rfl rfl dX9_free_128 ?_
              refine m_g_0_18 hG wk_1084 dX9_free_129 ?_
              refine v_iload_n hG 5 rfl rfl dX9_free_132 ?_
              refine m_l_15 hG dX9_free_133 hf (fun hf => ?_)
              refine v_lload hG 0 rfl dX9_free_134 ?_
              refine v_lsub hG dX9_free_136 ?_
              refine v_goto hG 149 dX9_free_137 rfl ?_
              refine v_sub [(0, _), (1, _), (2, _), (4, _), (6, _), (8, _)] [3, 4, 5, 2, 1, 0] rfl ?_
              exact j149 w z7.1 ((gM_coef w) ((12 * z7.1) + a0).toNatClampNeg) r107 r116 (((gM_right w) z7.1.toNatClampNeg) - r116) hf
          · cases hf
            exact v_vret hG hr dX9_free_89
def X9_byRow (w : MW) (a0 : Int32) (a1 : Int32) : Option (MW) := (if a0 = 1 then ((X9_empty w a1).bind (fun r54 : MW => (some r54))) else (if a0 = 2 then ((X9_shared w a1).bind (fun r62 : MW => (some r62))) else (if a0 = 3 then ((X9_single w a1).bind (fun r70 : MW => (some r70))) else (if a0 = 4 then ((X9_span w a1).bind (fun r78 : MW => (some r78))) else (if a0 = 5 then ((X9_tight w a1).bind (fun r86 : MW => (some r86))) else (if a0 = 6 then ((X9_less w a1).bind (fun r110 : MW => (some r110))) else (if a0 = 7 then ((X9_twins w a1).bind (fun r94 : MW => (some r94))) else (if a0 = 8 then ((X9_less w a1).bind (fun r110 : MW => (some r110))) else (if a0 = 9 then ((X9_puts w a1).bind (fun r102 : MW => (some r102))) else ((X9_less w a1).bind (fun r110 : MW => (some r110))))))))))))
set_option maxRecDepth 100000 in
set_option maxHeartbeats 4000000 in
theorem ct_X9_byRow (l : Launch) (g : wG) (ad : Nat → Nat) (w : MW) (a0 : Int32) (a1 : Int32) (rr : MW) (hf : X9_byRow w a0 a1 = some rr) : MetN l g yX9_byRow cX9_byRow 3 none (k2_rm 4 119) [.ref (ad 0), .int a0, .int a1] (mcells g ad w) (mcells g ad rr) none := by
  refine MetN.of2 [(0, .ref (ad 0)), (1, .int a0), (2, .int a1)] rfl (by decide +kernel) (Nat.le_of_ble_eq_true rfl) ?_
  intro p e s m args below meth c hG hr
  unfold X9_byRow at hf
  refine v_iload_n hG 1 rfl rfl dX9_byRow_0 ?_
  refine v_tswE hG 1 52 dX9_byRow_1 (by decide) (by decide) rfl rfl hf (fun hf => ?_) (fun hz1_1 hf => ?_)
  · refine v_aload_n hG 0 rfl rfl dX9_byRow_52 ?_
    refine v_iload_n hG 2 rfl rfl dX9_byRow_53 ?_
    obtain ⟨r54, hr54, hf⟩ := bd_some hf
    refine v_callV hG (st := []) 0 9 (ct_X9_empty l g ad w a1 r54 hr54) iw_X9_empty wk_1268 rfl rfl ⟨rfl, rfl, Nat.le_of_ble_eq_true rfl, Nat.le_of_ble_eq_true rfl⟩ ⟨Nat.le_of_ble_eq_true rfl, Nat.le_of_ble_eq_true rfl⟩ rfl rfl (Nat.le_of_ble_eq_true rfl) (mcells_fst _ _ _ _) dX9_byRow_54 ?_
    refine (show V p l e (k2_rm 4 119) s m args below meth c (inW (mcells g ad w)) (EN below args s g (mcells g ad w) (mcells g ad rr) none) g 3 (mcells g ad r54) 0 0 57 [(0, .ref (ad 0)), (1, .int a0), (2, .int a1)] [] from ?_)
    refine v_goto hG 113 dX9_byRow_57 rfl ?_
    cases hf
    exact v_vret hG hr dX9_byRow_113
  refine v_tswE hG 2 60 dX9_byRow_1 (by decide) (by decide) rfl rfl hf (fun hf => ?_) (fun hz1_2 hf => ?_)
  · refine v_aload_n hG 0 rfl rfl dX9_byRow_60 ?_
    refine v_iload_n hG 2 rfl rfl dX9_byRow_61 ?_
    obtain ⟨r62, hr62, hf⟩ := bd_some hf
    refine v_callV hG (st := []) 0 9 (ct_X9_shared l g ad w a1 r62 hr62) iw_X9_shared wk_1292 rfl rfl ⟨rfl, rfl, Nat.le_of_ble_eq_true rfl, Nat.le_of_ble_eq_true rfl⟩ ⟨Nat.le_of_ble_eq_true rfl, Nat.le_of_ble_eq_true rfl⟩ rfl rfl (Nat.le_of_ble_eq_true rfl) (mcells_fst _ _ _ _) dX9_byRow_62 ?_
    refine (show V p l e (k2_rm 4 119) s m args below meth c (inW (mcells g ad w)) (EN below args s g (mcells g ad w) (mcells g ad rr) none) g 3 (mcells g ad r62) 0 0 65 [(0, .ref (ad 0)), (1, .int a0), (2, .int a1)] [] from ?_)
    refine v_goto hG 113 dX9_byRow_65 rfl ?_
    cases hf
    exact v_vret hG hr dX9_byRow_113
  refine v_tswE hG 3 68 dX9_byRow_1 (by decide) (by decide) rfl rfl hf (fun hf => ?_) (fun hz1_3 hf => ?_)
  · refine v_aload_n hG 0 rfl rfl dX9_byRow_68 ?_
    refine v_iload_n hG 2 rfl rfl dX9_byRow_69 ?_
    obtain ⟨r70, hr70, hf⟩ := bd_some hf
    refine v_callV hG (st := []) 0 9 (ct_X9_single l g ad w a1 r70 hr70) iw_X9_single wk_1303 rfl rfl ⟨rfl, rfl, Nat.le_of_ble_eq_true rfl, Nat.le_of_ble_eq_true rfl⟩ ⟨Nat.le_of_ble_eq_true rfl, Nat.le_of_ble_eq_true rfl⟩ rfl rfl (Nat.le_of_ble_eq_true rfl) (mcells_fst _ _ _ _) dX9_byRow_70 ?_
    refine (show V p l e (k2_rm 4 119) s m args below meth c (inW (mcells g ad w)) (EN below args s g (mcells g ad w) (mcells g ad rr) none) g 3 (mcells g ad r70) 0 0 73 [(0, .ref (ad 0)), (1, .int a0), (2, .int a1)] [] from ?_)
    refine v_goto hG 113 dX9_byRow_73 rfl ?_
    cases hf
    exact v_vret hG hr dX9_byRow_113
  refine v_tswE hG 4 76 dX9_byRow_1 (by decide) (by decide) rfl rfl hf (fun hf => ?_) (fun hz1_4 hf => ?_)
  · refine v_aload_n hG 0 rfl rfl dX9_byRow_76 ?_
    refine v_iload_n hG 2 rfl rfl dX9_byRow_77 ?_
    obtain ⟨r78, hr78, hf⟩ := bd_some hf
    refine v_callV hG (st := []) 0 9 (ct_X9_span l g ad w a1 r78 hr78) iw_X9_span wk_1318 rfl rfl ⟨rfl, rfl, Nat.le_of_ble_eq_true rfl, Nat.le_of_ble_eq_true rfl⟩ ⟨Nat.le_of_ble_eq_true rfl, Nat.le_of_ble_eq_true rfl⟩ rfl rfl (Nat.le_of_ble_eq_true rfl) (mcells_fst _ _ _ _) dX9_byRow_78 ?_
    refine (show V p l e (k2_rm 4 119) s m args below meth c (inW (mcells g ad w)) (EN below args s g (mcells g ad w) (mcells g ad rr) none) g 3 (mcells g ad r78) 0 0 81 [(0, .ref (ad 0)), (1, .int a0), (2, .int a1)] [] from ?_)
    refine v_goto hG 113 dX9_byRow_81 rfl ?_
    cases hf
    exact v_vret hG hr dX9_byRow_113
  refine v_tswE hG 5 84 dX9_byRow_1 (by decide) (by decide) rfl rfl hf (fun hf => ?_) (fun hz1_5 hf => ?_)
  · refine v_aload_n hG 0 rfl rfl dX9_byRow_84 ?_
    refine v_iload_n hG 2 rfl rfl dX9_byRow_85 ?_
    obtain ⟨r86, hr86, hf⟩ := bd_some hf
    refine v_callV hG (st := []) 0 9 (ct_X9_tight l g ad w a1 r86 hr86) iw_X9_tight wk_1334 rfl rfl ⟨rfl, rfl, Nat.le_of_ble_eq_true rfl, Nat.le_of_ble_eq_true rfl⟩ ⟨Nat.le_of_ble_eq_true rfl, Nat.le_of_ble_eq_true rfl⟩ rfl rfl (Nat.le_of_ble_eq_true rfl) (mcells_fst _ _ _ _) dX9_byRow_86 ?_
    refine (show V p l e (k2_rm 4 119) s m args below meth c (inW (mcells g ad w)) (EN below args s g (mcells g ad w) (mcells g ad rr) none) g 3 (mcells g ad r86) 0 0 89 [(0, .ref (ad 0)), (1, .int a0), (2, .int a1)] [] from ?_)
    refine v_goto hG 113 dX9_byRow_89 rfl ?_
    cases hf
    exact v_vret hG hr dX9_byRow_113
  refine v_tswE hG 6 108 dX9_byRow_1 (by decide) (by decide) rfl rfl hf (fun hf => ?_) (fun hz1_6 hf => ?_)
  · refine v_aload_n hG 0 rfl rfl dX9_byRow_108 ?_
    refine v_iload_n hG 2 rfl rfl dX9_byRow_109 ?_
    obtain ⟨r110, hr110, hf⟩ := bd_some hf
    refine v_callV hG (st := []) 0 9 (ct_X9_less l g ad w a1 r110 hr110) iw_X9_less wk_1376 rfl rfl ⟨rfl, rfl, Nat.le_of_ble_eq_true rfl, Nat.le_of_ble_eq_true rfl⟩ ⟨Nat.le_of_ble_eq_true rfl, Nat.le_of_ble_eq_true rfl⟩ rfl rfl (Nat.le_of_ble_eq_true rfl) (mcells_fst _ _ _ _) dX9_byRow_110 ?_
    refine (show V p l e (k2_rm 4 119) s m args below meth c (inW (mcells g ad w)) (EN below args s g (mcells g ad w) (mcells g ad rr) none) g 3 (mcells g ad r110) 0 0 113 [(0, .ref (ad 0)), (1, .int a0), (2, .int a1)] [] from ?_)
    cases hf
    exact v_vret hG hr dX9_byRow_113
  refine v_tswE hG 7 92 dX9_byRow_1 (by decide) (by decide) rfl rfl hf (fun hf => ?_) (fun hz1_7 hf => ?_)
  · refine v_aload_n hG 0 rfl rfl dX9_byRow_92 ?_
    refine v_iload_n hG 2 rfl rfl dX9_byRow_93 ?_
    obtain ⟨r94, hr94, hf⟩ := bd_some hf
    refine v_callV hG (st := []) 0 9 (ct_X9_twins l g ad w a1 r94 hr94) iw_X9_twins wk_1338 rfl rfl ⟨rfl, rfl, Nat.le_of_ble_eq_true rfl, Nat.le_of_ble_eq_true rfl⟩ ⟨Nat.le_of_ble_eq_true rfl, Nat.le_of_ble_eq_true rfl⟩ rfl rfl (Nat.le_of_ble_eq_true rfl) (mcells_fst _ _ _ _) dX9_byRow_94 ?_
    refine (show V p l e (k2_rm 4 119) s m args below meth c (inW (mcells g ad w)) (EN below args s g (mcells g ad w) (mcells g ad rr) none) g 3 (mcells g ad r94) 0 0 97 [(0, .ref (ad 0)), (1, .int a0), (2, .int a1)] [] from ?_)
    refine v_goto hG 113 dX9_byRow_97 rfl ?_
    cases hf
    exact v_vret hG hr dX9_byRow_113
  refine v_tswE hG 8 108 dX9_byRow_1 (by decide) (by decide) rfl rfl hf (fun hf => ?_) (fun hz1_8 hf => ?_)
  · refine v_aload_n hG 0 rfl rfl dX9_byRow_108 ?_
    refine v_iload_n hG 2 rfl rfl dX9_byRow_109 ?_
    obtain ⟨r110, hr110, hf⟩ := bd_some hf
    refine v_callV hG (st := []) 0 9 (ct_X9_less l g ad w a1 r110 hr110) iw_X9_less wk_1376 rfl rfl ⟨rfl, rfl, Nat.le_of_ble_eq_true rfl, Nat.le_of_ble_eq_true rfl⟩ ⟨Nat.le_of_ble_eq_true rfl, Nat.le_of_ble_eq_true rfl⟩ rfl rfl (Nat.le_of_ble_eq_true rfl) (mcells_fst _ _ _ _) dX9_byRow_110 ?_
    refine (show V p l e (k2_rm 4 119) s m args below meth c (inW (mcells g ad w)) (EN below args s g (mcells g ad w) (mcells g ad rr) none) g 3 (mcells g ad r110) 0 0 113 [(0, .ref (ad 0)), (1, .int a0), (2, .int a1)] [] from ?_)
    cases hf
    exact v_vret hG hr dX9_byRow_113
  refine v_tswE hG 9 100 dX9_byRow_1 (by decide) (by decide) rfl rfl hf (fun hf => ?_) (fun hz1_9 hf => ?_)
  · refine v_aload_n hG 0 rfl rfl dX9_byRow_100 ?_
    refine v_iload_n hG 2 rfl rfl dX9_byRow_101 ?_
    obtain ⟨r102, hr102, hf⟩ := bd_some hf
    refine v_callV hG (st := []) 0 9 (ct_X9_puts l g ad w a1 r102 hr102) iw_X9_puts wk_1350 rfl rfl ⟨rfl, rfl, Nat.le_of_ble_eq_true rfl, Nat.le_of_ble_eq_true rfl⟩ ⟨Nat.le_of_ble_eq_true rfl, Nat.le_of_ble_eq_true rfl⟩ rfl rfl (Nat.le_of_ble_eq_true rfl) (mcells_fst _ _ _ _) dX9_byRow_102 ?_
    refine (show V p l e (k2_rm 4 119) s m args below meth c (inW (mcells g ad w)) (EN below args s g (mcells g ad w) (mcells g ad rr) none) g 3 (mcells g ad r102) 0 0 105 [(0, .ref (ad 0)), (1, .int a0), (2, .int a1)] [] from ?_)
    refine v_goto hG 113 dX9_byRow_105 rfl ?_
    cases hf
    exact v_vret hG hr dX9_byRow_113
  refine v_tswD hG 108 dX9_byRow_1 (by have qhz1_1 := lv_neT (a := 1) hz1_1 (by decide); have qhz1_2 := lv_neT (a := 2) hz1_2 (by decide); have qhz1_3 := lv_neT (a := 3) hz1_3 (by decide); have qhz1_4 := lv_neT (a := 4) hz1_4 (by decide); have qhz1_5 := lv_neT (a := 5) hz1_5 (by decide); have qhz1_6 := lv_neT (a := 6) hz1_6 (by decide); have qhz1_7 := lv_neT (a := 7) hz1_7 (by decide); have qhz1_8 := lv_neT (a := 8) hz1_8 (by decide); have qhz1_9 := lv_neT (a := 9) hz1_9 (by decide); omega) rfl ?_
  refine v_aload_n hG 0 rfl rfl dX9_byRow_108 ?_
  refine v_iload_n hG 2 rfl rfl dX9_byRow_109 ?_
  obtain ⟨r110, hr110, hf⟩ := bd_some hf
  refine v_callV hG (st := []) 0 9 (ct_X9_less l g ad w a1 r110 hr110) iw_X9_less wk_1376 rfl rfl ⟨rfl, rfl, Nat.le_of_ble_eq_true rfl, Nat.le_of_ble_eq_true rfl⟩ ⟨Nat.le_of_ble_eq_true rfl, Nat.le_of_ble_eq_true rfl⟩ rfl rfl (Nat.le_of_ble_eq_true rfl) (mcells_fst _ _ _ _) dX9_byRow_110 ?_
  refine (show V p l e (k2_rm 4 119) s m args below meth c (inW (mcells g ad w)) (EN below args s g (mcells g ad w) (mcells g ad rr) none) g 3 (mcells g ad r110) 0 0 113 [(0, .ref (ad 0)), (1, .int a0), (2, .int a1)] [] from ?_)
  cases hf
  exact v_vret hG hr dX9_byRow_113
def X9_byColumn (w : MW) (a0 : Int32) (a1 : Int32) : Option (MW) := (if a0 = 6 then ((X9_fix w a1).bind (fun r8 : MW => (some r8))) else (if a0 = 8 then ((X9_side w a1).bind (fun r22 : MW => (some r22))) else ((X9_free w a1).bind (fun r30 : MW => (some r30)))))
set_option maxRecDepth 100000 in
set_option maxHeartbeats 4000000 in
theorem ct_X9_byColumn (l : Launch) (g : wG) (ad : Nat → Nat) (w : MW) (a0 : Int32) (a1 : Int32) (rr : MW) (hf : X9_byColumn w a0 a1 = some rr) : MetN l g yX9_byColumn cX9_byColumn 3 none (k2_rm 3 89) [.ref (ad 0), .int a0, .int a1] (mcells g ad w) (mcells g ad rr) none := by
  refine MetN.of2 [(0, .ref (ad 0)), (1, .int a0), (2, .int a1)] rfl (by decide +kernel) (Nat.le_of_ble_eq_true rfl) ?_
  intro p e s m args below meth c hG hr
  unfold X9_byColumn at hf
  refine v_iload_n hG 1 rfl rfl dX9_byColumn_0 ?_
  refine v_bipush hG (v := 6) (by decide) dX9_byColumn_1 ?_
  refine v_icmp_ne hG 14 dX9_byColumn_3 rfl hf (fun hf => ?_) (fun hf => ?_)
  · refine v_iload_n hG 1 rfl rfl dX9_byColumn_14 ?_
    refine v_bipush hG (v := 8) (by decide) dX9_byColumn_15 ?_
    refine v_icmp_ne hG 28 dX9_byColumn_17 rfl hf (fun hf => ?_) (fun hf => ?_)
    · refine v_aload_n hG 0 rfl rfl dX9_byColumn_28 ?_
      refine v_iload_n hG 2 rfl rfl dX9_byColumn_29 ?_
      obtain ⟨r30, hr30, hf⟩ := bd_some hf
      refine v_callV hG (st := []) 0 9 (ct_X9_free l g ad w a1 r30 hr30) iw_X9_free wk_1392 rfl rfl ⟨rfl, rfl, Nat.le_of_ble_eq_true rfl, Nat.le_of_ble_eq_true rfl⟩ ⟨Nat.le_of_ble_eq_true rfl, Nat.le_of_ble_eq_true rfl⟩ rfl rfl (Nat.le_of_ble_eq_true rfl) (mcells_fst _ _ _ _) dX9_byColumn_30 ?_
      refine (show V p l e (k2_rm 3 89) s m args below meth c (inW (mcells g ad w)) (EN below args s g (mcells g ad w) (mcells g ad rr) none) g 3 (mcells g ad r30) 0 0 33 [(0, .ref (ad 0)), (1, .int a0), (2, .int a1)] [] from ?_)
      cases hf
      exact v_vret hG hr dX9_byColumn_33
    · refine v_aload_n hG 0 rfl rfl dX9_byColumn_20 ?_
      refine v_iload_n hG 2 rfl rfl dX9_byColumn_21 ?_
      obtain ⟨r22, hr22, hf⟩ := bd_some hf
      refine v_callV hG (st := []) 0 9 (ct_X9_side l g ad w a1 r22 hr22) iw_X9_side wk_1388 rfl rfl ⟨rfl, rfl, Nat.le_of_ble_eq_true rfl, Nat.le_of_ble_eq_true rfl⟩ ⟨Nat.le_of_ble_eq_true rfl, Nat.le_of_ble_eq_true rfl⟩ rfl rfl (Nat.le_of_ble_eq_true rfl) (mcells_fst _ _ _ _) dX9_byColumn_22 ?_
      refine (show V p l e (k2_rm 3 89) s m args below meth c (inW (mcells g ad w)) (EN below args s g (mcells g ad w) (mcells g ad rr) none) g 3 (mcells g ad r22) 0 0 25 [(0, .ref (ad 0)), (1, .int a0), (2, .int a1)] [] from ?_)
      refine v_goto hG 33 dX9_byColumn_25 rfl ?_
      cases hf
      exact v_vret hG hr dX9_byColumn_33
  · refine v_aload_n hG 0 rfl rfl dX9_byColumn_6 ?_
    refine v_iload_n hG 2 rfl rfl dX9_byColumn_7 ?_
    obtain ⟨r8, hr8, hf⟩ := bd_some hf
    refine v_callV hG (st := []) 0 9 (ct_X9_fix l g ad w a1 r8 hr8) iw_X9_fix wk_1384 rfl rfl ⟨rfl, rfl, Nat.le_of_ble_eq_true rfl, Nat.le_of_ble_eq_true rfl⟩ ⟨Nat.le_of_ble_eq_true rfl, Nat.le_of_ble_eq_true rfl⟩ rfl rfl (Nat.le_of_ble_eq_true rfl) (mcells_fst _ _ _ _) dX9_byColumn_8 ?_
    refine (show V p l e (k2_rm 3 89) s m args below meth c (inW (mcells g ad w)) (EN below args s g (mcells g ad w) (mcells g ad rr) none) g 3 (mcells g ad r8) 0 0 11 [(0, .ref (ad 0)), (1, .int a0), (2, .int a1)] [] from ?_)
    refine v_goto hG 33 dX9_byColumn_11 rfl ?_
    cases hf
    exact v_vret hG hr dX9_byColumn_33
def X9_rule_J60  (j60_0 : MW) (j60_1 : Int32) : Option ((MW × Int32) ⊕ ((MW))) := (some (.inl (j60_0, (j60_1 + 1))))
def X9_rule_L26 (a0 : Int32) (j23_1 : Int32) (s26 : MW × Int32) : Option ((MW × Int32) ⊕ ((MW))) := (if (gM_rows s26.1) ≤ s26.2 then (some (.inr s26.1)) else (if j23_1 = 0 then (if inR s26.2 12 = true then (if ((gM_gone s26.1) s26.2.toNatClampNeg) = 0 then ((X9_goesOn s26.1).bind (fun r48 : Int32 => (if r48 = 0 then (X9_rule_J60 s26.1 s26.2) else ((X9_byRow s26.1 a0 s26.2).bind (fun r57 : MW => (X9_rule_J60 r57 s26.2)))))) else (X9_rule_J60 s26.1 s26.2)) else none) else (some (.inr s26.1))))
def X9_rule_J102  (j102_0 : MW) (j102_1 : Int32) : Option ((MW × Int32) ⊕ ((MW))) := (some (.inl (j102_0, (j102_1 + 1))))
def X9_rule_L68 (a0 : Int32) (j23_1 : Int32) (s68 : MW × Int32) : Option ((MW × Int32) ⊕ ((MW))) := (if (gM_columns s68.1) ≤ s68.2 then (some (.inr s68.1)) else (if j23_1 = 0 then (some (.inr s68.1)) else (if inR s68.2 12 = true then (if ((gM_state s68.1) s68.2.toNatClampNeg) = 0 then ((X9_goesOn s68.1).bind (fun r90 : Int32 => (if r90 = 0 then (X9_rule_J102 s68.1 s68.2) else ((X9_byColumn s68.1 a0 s68.2).bind (fun r99 : MW => (X9_rule_J102 r99 s68.2)))))) else (X9_rule_J102 s68.1 s68.2)) else none)))
def X9_rule_J23 (a0 : Int32) (j23_0 : MW) (j23_1 : Int32) : Option (MW) := ((iter (X9_rule_L26 a0 j23_1) 5000 (j23_0, 0)).bind (fun z26 : (MW) => ((iter (X9_rule_L68 a0 j23_1) 5000 (z26, 0)).bind (fun z68 : (MW) => (some z68)))))
def X9_rule_J18 (a0 : Int32) (j18_0 : MW) : Option (MW) := (X9_rule_J23 a0 j18_0 1)
def X9_rule (w : MW) (a0 : Int32) : Option (MW) := (if a0 = 6 then (X9_rule_J18 a0 w) else (if a0 = 8 then (X9_rule_J18 a0 w) else (if a0 = 11 then (X9_rule_J18 a0 w) else (X9_rule_J23 a0 w 0))))
set_option maxRecDepth 100000 in
set_option maxHeartbeats 4000000 in
theorem ct_X9_rule (l : Launch) (g : wG) (ad : Nat → Nat) (w : MW) (a0 : Int32) (rr : MW) (hf : X9_rule w a0 = some rr) : MetN l g yX9_rule cX9_rule 4 none (k2_rm 5 141) [.ref (ad 0), .int a0] (mcells g ad w) (mcells g ad rr) none := by
  refine MetN.of2 [(0, .ref (ad 0)), (1, .int a0)] rfl (by decide +kernel) (Nat.le_of_ble_eq_true rfl) ?_
  intro p e s m args below meth c hG hr
  unfold X9_rule at hf
  have j23 : ∀ (j23_0 : MW) (j23_1 : Int32), X9_rule_J23 a0 j23_0 j23_1 = some rr → V p l e (k2_rm 5 141) s m args below meth c (inW (mcells g ad w)) (EN below args s g (mcells g ad w) (mcells g ad rr) none) g 4 (mcells g ad j23_0) 0 0 23 [(0, .ref (ad 0)), (1, .int a0)] [.int j23_1] := by
    intro j23_0 j23_1 hf
    unfold X9_rule_J23 at hf
    refine v_istore_n hG [(2, _), (0, _), (1, _)] dX9_rule_23 rfl (by decide) rfl ?_
    refine v_iconst hG (v := 0) (by decide) dX9_rule_24 ?_
    refine v_istore_n hG [(3, _), (2, _), (0, _), (1, _)] dX9_rule_25 rfl (by decide) rfl ?_
    refine v_sub [(0, _), (1, _), (2, _), (3, _)] [2, 3, 1, 0] rfl ?_
    obtain ⟨z26, hlz26, hf⟩ := bd_some hf
    refine loop_v (step := X9_rule_L26 a0 j23_1) (fun s26 : MW × Int32 => V p l e (k2_rm 5 141) s m args below meth c (inW (mcells g ad w)) (EN below args s g (mcells g ad w) (mcells g ad rr) none) g 4 (mcells g ad s26.1) 0 0 26 [(0, .ref (ad 0)), (1, .int a0), (2, .int j23_1), (3, .int s26.2)] []) (fun z26_q : (MW) => V p l e (k2_rm 5 141) s m args below meth c (inW (mcells g ad w)) (EN below args s g (mcells g ad w) (mcells g ad rr) none) g 4 (mcells g ad z26_q) 0 0 66 [(0, .ref (ad 0)), (1, .int a0), (2, .int j23_1)] []) ?_ 5000 (j23_0, 0) z26 hlz26 ?_
    · intro s26 rL hf hin hout
      unfold X9_rule_L26 at hf
      have j60 : ∀ (j60_0 : MW) (j60_1 : Int32), X9_rule_J60 j60_0 j60_1 = some rL → V p l e (k2_rm 5 141) s m args below meth c (inW (mcells g ad w)) (EN below args s g (mcells g ad w) (mcells g ad rr) none) g 4 (mcells g ad j60_0) 0 0 60 [(0, .ref (ad 0)), (1, .int a0), (2, .int j23_1), (3, .int j60_1)] [] := by
        intro j60_0 j60_1 hf
        unfold X9_rule_J60 at hf
        refine v_iinc hG 3 (v := j60_1 + 1) [(3, _), (0, _), (1, _), (2, _)] dX9_rule_60 rfl rfl (by decide) rfl ?_
        refine v_goto hG 26 dX9_rule_63 rfl ?_
        refine v_sub [(0, _), (1, _), (2, _), (3, _)] [1, 2, 3, 0] rfl ?_
        exact hin _ (Option.some.inj hf).symm
      refine v_iload_n hG 3 rfl rfl dX9_rule_26 ?_
      refine v_aload_n hG 0 rfl rfl dX9_rule_27 ?_
      refine m_g_0_2 hG wk_1068 dX9_rule_28 ?_
      refine v_icmp_ge hG 66 dX9_rule_31 rfl hf (fun hf => ?_) (fun hf => ?_)
      · refine v_sub [(0, _), (1, _), (2, _)] [0, 1, 2] rfl ?_
        exact hout _ (Option.some.inj hf).symm
      · refine v_iload_n hG 2 rfl rfl dX9_rule_34 ?_
        refine v_if_ne hG 66 dX9_rule_35 rfl hf (fun hf => ?_) (fun hf => ?_)
        · refine v_sub [(0, _), (1, _), (2, _)] [0, 1, 2] rfl ?_
          exact hout _ (Option.some.inj hf).symm
        · refine v_aload_n hG 0 rfl rfl dX9_rule_38 ?_
          refine m_g_0_17 hG wk_1083 dX9_rule_39 ?_
          refine v_iload_n hG 3 rfl rfl dX9_rule_42 ?_
          refine m_l_14 hG dX9_rule_43 hf (fun hf => ?_)
          refine v_if_ne hG 60 dX9_rule_44 rfl hf (fun hf => ?_) (fun hf => ?_)
          · exact j60 s26.1 s26.2 hf
          · refine v_aload_n hG 0 rfl rfl dX9_rule_47 ?_
            obtain ⟨r48, hr48, hf⟩ := bd_some hf
            refine v_callV hG (st := []) 0 9 (ct_X9_goesOn l g ad s26.1  r48 hr48) iw_X9_goesOn wk_1256 rfl rfl ⟨rfl, rfl, Nat.le_of_ble_eq_true rfl, Nat.le_of_ble_eq_true rfl⟩ ⟨Nat.le_of_ble_eq_true rfl, Nat.le_of_ble_eq_true rfl⟩ rfl rfl (Nat.le_of_ble_eq_true rfl) (mcells_fst _ _ _ _) dX9_rule_48 ?_
            refine (show V p l e (k2_rm 5 141) s m args below meth c (inW (mcells g ad w)) (EN below args s g (mcells g ad w) (mcells g ad rr) none) g 4 (mcells g ad s26.1) 0 0 51 [(0, .ref (ad 0)), (1, .int a0), (2, .int j23_1), (3, .int s26.2)] [.int r48] from ?_)
            refine v_if_eq hG 60 dX9_rule_51 rfl hf (fun hf => ?_) (fun hf => ?_)
            · exact j60 s26.1 s26.2 hf
            · refine v_aload_n hG 0 rfl rfl dX9_rule_54 ?_
              refine v_iload_n hG 1 rfl rfl dX9_rule_55 ?_
              refine v_iload_n hG 3 rfl rfl dX9_rule_56 ?_
              obtain ⟨r57, hr57, hf⟩ := bd_some hf
              refine v_callV hG (st := []) 0 9 (ct_X9_byRow l g ad s26.1 a0 s26.2 r57 hr57) iw_X9_byRow wk_1264 rfl rfl ⟨rfl, rfl, Nat.le_of_ble_eq_true rfl, Nat.le_of_ble_eq_true rfl⟩ ⟨Nat.le_of_ble_eq_true rfl, Nat.le_of_ble_eq_true rfl⟩ rfl rfl (Nat.le_of_ble_eq_true rfl) (mcells_fst _ _ _ _) dX9_rule_57 ?_
              refine (show V p l e (k2_rm 5 141) s m args below meth c (inW (mcells g ad w)) (EN below args s g (mcells g ad w) (mcells g ad rr) none) g 4 (mcells g ad r57) 0 0 60 [(0, .ref (ad 0)), (1, .int a0), (2, .int j23_1), (3, .int s26.2)] [] from ?_)
              exact j60 r57 s26.2 hf
    · show V p l e (k2_rm 5 141) s m args below meth c (inW (mcells g ad w)) (EN below args s g (mcells g ad w) (mcells g ad rr) none) g 4 (mcells g ad z26) 0 0 66 [(0, .ref (ad 0)), (1, .int a0), (2, .int j23_1)] []
      refine v_iconst hG (v := 0) (by decide) dX9_rule_66 ?_
      refine v_istore_n hG [(3, _), (0, _), (1, _), (2, _)] dX9_rule_67 rfl (by decide) rfl ?_
      refine v_sub [(0, _), (1, _), (2, _), (3, _)] [1, 2, 3, 0] rfl ?_
      obtain ⟨z68, hlz68, hf⟩ := bd_some hf
      refine loop_v (step := X9_rule_L68 a0 j23_1) (fun s68 : MW × Int32 => V p l e (k2_rm 5 141) s m args below meth c (inW (mcells g ad w)) (EN below args s g (mcells g ad w) (mcells g ad rr) none) g 4 (mcells g ad s68.1) 0 0 68 [(0, .ref (ad 0)), (1, .int a0), (2, .int j23_1), (3, .int s68.2)] []) (fun z68_q : (MW) => V p l e (k2_rm 5 141) s m args below meth c (inW (mcells g ad w)) (EN below args s g (mcells g ad w) (mcells g ad rr) none) g 4 (mcells g ad z68_q) 0 0 108 [] []) ?_ 5000 (z26, 0) z68 hlz68 ?_
      · intro s68 rL hf hin hout
        unfold X9_rule_L68 at hf
        have j102 : ∀ (j102_0 : MW) (j102_1 : Int32), X9_rule_J102 j102_0 j102_1 = some rL → V p l e (k2_rm 5 141) s m args below meth c (inW (mcells g ad w)) (EN below args s g (mcells g ad w) (mcells g ad rr) none) g 4 (mcells g ad j102_0) 0 0 102 [(0, .ref (ad 0)), (1, .int a0), (2, .int j23_1), (3, .int j102_1)] [] := by
          intro j102_0 j102_1 hf
          unfold X9_rule_J102 at hf
          refine v_iinc hG 3 (v := j102_1 + 1) [(3, _), (0, _), (1, _), (2, _)] dX9_rule_102 rfl rfl (by decide) rfl ?_
          refine v_goto hG 68 dX9_rule_105 rfl ?_
          refine v_sub [(0, _), (1, _), (2, _), (3, _)] [1, 2, 3, 0] rfl ?_
          exact hin _ (Option.some.inj hf).symm
        refine v_iload_n hG 3 rfl rfl dX9_rule_68 ?_
        refine v_aload_n hG 0 rfl rfl dX9_rule_69 ?_
        refine m_g_0_1 hG wk_1067 dX9_rule_70 ?_
        refine v_icmp_ge hG 108 dX9_rule_73 rfl hf (fun hf => ?_) (fun hf => ?_)
        · refine v_sub [] [] rfl ?_
          exact hout _ (Option.some.inj hf).symm
        · refine v_iload_n hG 2 rfl rfl dX9_rule_76 ?_
          refine v_if_eq hG 108 dX9_rule_77 rfl hf (fun hf => ?_) (fun hf => ?_)
          · refine v_sub [] [] rfl ?_
            exact hout _ (Option.some.inj hf).symm
          · refine v_aload_n hG 0 rfl rfl dX9_rule_80 ?_
            refine m_g_0_10 hG wk_1076 dX9_rule_81 ?_
            refine v_iload_n hG 3 rfl rfl dX9_rule_84 ?_
            refine m_l_7 hG dX9_rule_85 hf (fun hf => ?_)
            refine v_if_ne hG 102 dX9_rule_86 rfl hf (fun hf => ?_) (fun hf => ?_)
            · exact j102 s68.1 s68.2 hf
            · refine v_aload_n hG 0 rfl rfl dX9_rule_89 ?_
              obtain ⟨r90, hr90, hf⟩ := bd_some hf
              refine v_callV hG (st := []) 0 9 (ct_X9_goesOn l g ad s68.1  r90 hr90) iw_X9_goesOn wk_1256 rfl rfl ⟨rfl, rfl, Nat.le_of_ble_eq_true rfl, Nat.le_of_ble_eq_true rfl⟩ ⟨Nat.le_of_ble_eq_true rfl, Nat.le_of_ble_eq_true rfl⟩ rfl rfl (Nat.le_of_ble_eq_true rfl) (mcells_fst _ _ _ _) dX9_rule_90 ?_
              refine (show V p l e (k2_rm 5 141) s m args below meth c (inW (mcells g ad w)) (EN below args s g (mcells g ad w) (mcells g ad rr) none) g 4 (mcells g ad s68.1) 0 0 93 [(0, .ref (ad 0)), (1, .int a0), (2, .int j23_1), (3, .int s68.2)] [.int r90] from ?_)
              refine v_if_eq hG 102 dX9_rule_93 rfl hf (fun hf => ?_) (fun hf => ?_)
              · exact j102 s68.1 s68.2 hf
              · refine v_aload_n hG 0 rfl rfl dX9_rule_96 ?_
                refine v_iload_n hG 1 rfl rfl dX9_rule_97 ?_
                refine v_iload_n hG 3 rfl rfl dX9_rule_98 ?_
                obtain ⟨r99, hr99, hf⟩ := bd_some hf
                refine v_callV hG (st := []) 0 9 (ct_X9_byColumn l g ad s68.1 a0 s68.2 r99 hr99) iw_X9_byColumn wk_1380 rfl rfl ⟨rfl, rfl, Nat.le_of_ble_eq_true rfl, Nat.le_of_ble_eq_true rfl⟩ ⟨Nat.le_of_ble_eq_true rfl, Nat.le_of_ble_eq_true rfl⟩ rfl rfl (Nat.le_of_ble_eq_true rfl) (mcells_fst _ _ _ _) dX9_rule_99 ?_
                refine (show V p l e (k2_rm 5 141) s m args below meth c (inW (mcells g ad w)) (EN below args s g (mcells g ad w) (mcells g ad rr) none) g 4 (mcells g ad r99) 0 0 102 [(0, .ref (ad 0)), (1, .int a0), (2, .int j23_1), (3, .int s68.2)] [] from ?_)
                exact j102 r99 s68.2 hf
      · show V p l e (k2_rm 5 141) s m args below meth c (inW (mcells g ad w)) (EN below args s g (mcells g ad w) (mcells g ad rr) none) g 4 (mcells g ad z68) 0 0 108 [] []
        cases hf
        exact v_vret hG hr dX9_rule_108
  have j18 : ∀ (j18_0 : MW), X9_rule_J18 a0 j18_0 = some rr → V p l e (k2_rm 5 141) s m args below meth c (inW (mcells g ad w)) (EN below args s g (mcells g ad w) (mcells g ad rr) none) g 4 (mcells g ad j18_0) 0 0 18 [(0, .ref (ad 0)), (1, .int a0)] [] := by
    intro j18_0 hf
    unfold X9_rule_J18 at hf
    refine v_iconst hG (v := 1) (by decide) dX9_rule_18 ?_
    refine v_goto hG 23 dX9_rule_19 rfl ?_
    exact j23 j18_0 1 hf
  refine v_iload_n hG 1 rfl rfl dX9_rule_0 ?_
  refine v_bipush hG (v := 6) (by decide) dX9_rule_1 ?_
  refine v_icmp_eq hG 18 dX9_rule_3 rfl hf (fun hf => ?_) (fun hf => ?_)
  · exact j18 w hf
  · refine v_iload_n hG 1 rfl rfl dX9_rule_6 ?_
    refine v_bipush hG (v := 8) (by decide) dX9_rule_7 ?_
    refine v_icmp_eq hG 18 dX9_rule_9 rfl hf (fun hf => ?_) (fun hf => ?_)
    · exact j18 w hf
    · refine v_iload_n hG 1 rfl rfl dX9_rule_12 ?_
      refine v_bipush hG (v := 11) (by decide) dX9_rule_13 ?_
      refine v_icmp_ne hG 22 dX9_rule_15 rfl hf (fun hf => ?_) (fun hf => ?_)
      · refine v_iconst hG (v := 0) (by decide) dX9_rule_22 ?_
        exact j23 w 0 hf
      · exact j18 w hf
def X9_makeSmall_L31  (s31 : MW × Int32) : Option ((MW × Int32) ⊕ ((MW))) := (if (gM_columns s31.1) ≤ s31.2 then (some (.inr s31.1)) else (if inR s31.2 12 = true then (bnd (sM_state s31.1 (upd (gM_state s31.1) s31.2.toNatClampNeg 0)) (fun w45 : MW => (if inR s31.2 12 = true then (if inR s31.2 12 = true then (bnd (sM_low w45 (upd (gM_low w45) s31.2.toNatClampNeg ((gM_lows w45) s31.2.toNatClampNeg))) (fun w57 : MW => (if inR s31.2 12 = true then (if inR s31.2 12 = true then (bnd (sM_high w57 (upd (gM_high w57) s31.2.toNatClampNeg ((gM_highs w57) s31.2.toNatClampNeg))) (fun w69 : MW => (if inR s31.2 12 = true then (if inR s31.2 12 = true then (bnd (sM_cost w69 (vp_updL (gM_cost w69) s31.2.toNatClampNeg (((gM_costs w69) s31.2.toNatClampNeg).toInt64))) (fun w82 : MW => (if inR s31.2 12 = true then (bnd (sM_lowRest w82 (upd (gM_lowRest w82) s31.2.toNatClampNeg 0)) (fun w89 : MW => (if inR s31.2 12 = true then (bnd (sM_highRest w89 (upd (gM_highRest w89) s31.2.toNatClampNeg 0)) (fun w96 : MW => (some (.inl (w96, (s31.2 + 1)))))) else none))) else none))) else none) else none))) else none) else none))) else none) else none))) else none))
def X9_makeSmall_L156 (s105 : MW × Int32) (s156 : MW × Int32) : Option ((MW × Int32) ⊕ ((MW))) := (if (gM_columns s156.1) ≤ s156.2 then (some (.inr s156.1)) else (if inR ((12 * s105.2) + s156.2) 144 = true then (if inR ((12 * s105.2) + s156.2) 144 = true then (bnd (sM_coef s156.1 (vp_updL (gM_coef s156.1) ((12 * s105.2) + s156.2).toNatClampNeg (((gM_coefficients s156.1) ((12 * s105.2) + s156.2).toNatClampNeg).toInt64))) (fun w186 : MW => (some (.inl (w186, (s156.2 + 1)))))) else none) else none))
def X9_makeSmall_L105  (s105 : MW × Int32) : Option ((MW × Int32) ⊕ ((MW))) := (if (gM_rows s105.1) ≤ s105.2 then (some (.inr s105.1)) else (if inR s105.2 12 = true then (bnd (sM_gone s105.1 (upd (gM_gone s105.1) s105.2.toNatClampNeg (vp_nar .boolean 0))) (fun w119 : MW => (if inR s105.2 12 = true then (if inR s105.2 12 = true then (bnd (sM_kind w119 (upd (gM_kind w119) s105.2.toNatClampNeg ((gM_kinds w119) s105.2.toNatClampNeg))) (fun w131 : MW => (if inR s105.2 12 = true then (if inR s105.2 12 = true then (bnd (sM_right w131 (vp_updL (gM_right w131) s105.2.toNatClampNeg (((gM_rights w131) s105.2.toNatClampNeg).toInt64))) (fun w144 : MW => (if inR s105.2 12 = true then (bnd (sM_rest w144 (upd (gM_rest w144) s105.2.toNatClampNeg (1 <<< (s105.2 &&& 31)))) (fun w153 : MW => ((iter (X9_makeSmall_L156 s105) 5000 (w153, 0)).bind (fun z156 : (MW) => (some (.inl (z156, (s105.2 + 1)))))))) else none))) else none) else none))) else none) else none))) else none))
def X9_makeSmall (w : MW) : Option (MW) := (bnd (sM_isSmall w 1) (fun w2 : MW => ((X9_endPoints w2).bind (fun r6 : MW => (bnd (sM_offset r6 0) (fun w11 : MW => (bnd (sM_certificate w11 (-1)) (fun w16 : MW => (bnd (sM_acts w16 0) (fun w21 : MW => (bnd (sM_putIns w21 0) (fun w26 : MW => ((iter (X9_makeSmall_L31) 5000 (w26, 0)).bind (fun z31 : (MW) => ((iter (X9_makeSmall_L105) 5000 (z31, 0)).bind (fun z105 : (MW) => (some z105)))))))))))))))))
set_option maxRecDepth 100000 in
set_option maxHeartbeats 4000000 in
theorem ct_X9_makeSmall (l : Launch) (g : wG) (ad : Nat → Nat) (w : MW)  (rr : MW) (hf : X9_makeSmall w = some rr) : MetN l g yX9_makeSmall cX9_makeSmall 3 none (k2_rm 1 21) [.ref (ad 0)] (mcells g ad w) (mcells g ad rr) none := by
  refine MetN.of2 [(0, .ref (ad 0))] rfl (by decide +kernel) (Nat.le_of_ble_eq_true rfl) ?_
  intro p e s m args below meth c hG hr
  unfold X9_makeSmall at hf
  refine v_aload_n hG 0 rfl rfl dX9_makeSmall_0 ?_
  refine v_iconst hG (v := 1) (by decide) dX9_makeSmall_1 ?_
  refine m_p_0_9 hG wk_1075 dX9_makeSmall_2 rfl rfl hf (fun w2 hf => ?_)
  refine v_aload_n hG 0 rfl rfl dX9_makeSmall_5 ?_
  obtain ⟨r6, hr6, hf⟩ := bd_some hf
  refine v_callV hG (st := []) 0 9 (ct_X9_endPoints l g ad w2  r6 hr6) iw_X9_endPoints wk_1220 rfl rfl ⟨rfl, rfl, Nat.le_of_ble_eq_true rfl, Nat.le_of_ble_eq_true rfl⟩ ⟨Nat.le_of_ble_eq_true rfl, Nat.le_of_ble_eq_true rfl⟩ rfl rfl (Nat.le_of_ble_eq_true rfl) (mcells_fst _ _ _ _) dX9_makeSmall_6 ?_
  refine (show V p l e (k2_rm 1 21) s m args below meth c (inW (mcells g ad w)) (EN below args s g (mcells g ad w) (mcells g ad rr) none) g 3 (mcells g ad r6) 0 0 9 [(0, .ref (ad 0))] [] from ?_)
  refine v_aload_n hG 0 rfl rfl dX9_makeSmall_9 ?_
  refine v_lconst hG (v := 0) (by decide) dX9_makeSmall_10 ?_
  refine m_p_0_21 hG wk_1087 dX9_makeSmall_11 hf (fun w11 hf => ?_)
  refine v_aload_n hG 0 rfl rfl dX9_makeSmall_14 ?_
  refine v_iconst hG (v := -1) (by decide) dX9_makeSmall_15 ?_
  refine m_p_0_22 hG wk_1088 dX9_makeSmall_16 hf (fun w16 hf => ?_)
  refine v_aload_n hG 0 rfl rfl dX9_makeSmall_19 ?_
  refine v_iconst hG (v := 0) (by decide) dX9_makeSmall_20 ?_
  refine m_p_0_23 hG wk_1089 dX9_makeSmall_21 hf (fun w21 hf => ?_)
  refine v_aload_n hG 0 rfl rfl dX9_makeSmall_24 ?_
  refine v_iconst hG (v := 0) (by decide) dX9_makeSmall_25 ?_
  refine m_p_0_29 hG wk_1095 dX9_makeSmall_26 hf (fun w26 hf => ?_)
  refine v_iconst hG (v := 0) (by decide) dX9_makeSmall_29 ?_
  refine v_istore_n hG [(1, _), (0, _)] dX9_makeSmall_30 rfl (by decide) rfl ?_
  refine v_sub [(0, _), (1, _)] [1, 0] rfl ?_
  obtain ⟨z31, hlz31, hf⟩ := bd_some hf
  refine loop_v (step := X9_makeSmall_L31) (fun s31 : MW × Int32 => V p l e (k2_rm 1 21) s m args below meth c (inW (mcells g ad w)) (EN below args s g (mcells g ad w) (mcells g ad rr) none) g 3 (mcells g ad s31.1) 0 0 31 [(0, .ref (ad 0)), (1, .int s31.2)] []) (fun z31_q : (MW) => V p l e (k2_rm 1 21) s m args below meth c (inW (mcells g ad w)) (EN below args s g (mcells g ad w) (mcells g ad rr) none) g 3 (mcells g ad z31_q) 0 0 103 [(0, .ref (ad 0))] []) ?_ 5000 (w26, 0) z31 hlz31 ?_
  · intro s31 rL hf hin hout
    unfold X9_makeSmall_L31 at hf
    refine v_iload_n hG 1 rfl rfl dX9_makeSmall_31 ?_
    refine v_aload_n hG 0 rfl rfl dX9_makeSmall_32 ?_
    refine m_g_0_1 hG wk_1067 dX9_makeSmall_33 ?_
    refine v_icmp_ge hG 103 dX9_makeSmall_36 rfl hf (fun hf => ?_) (fun hf => ?_)
    · refine v_sub [(0, _)] [0] rfl ?_
      exact hout _ (Option.some.inj hf).symm
    · refine v_aload_n hG 0 rfl rfl dX9_makeSmall_39 ?_
      refine m_g_0_10 hG wk_1076 dX9_makeSmall_40 ?_
      refine v_iload_n hG 1 rfl rfl dX9_makeSmall_43 ?_
      refine v_iconst hG (v := 0) (by decide) dX9_makeSmall_44 ?_
      refine m_s_7 hG dX9_makeSmall_45 hf (fun w45 hf => ?_)
      refine v_aload_n hG 0 rfl rfl dX9_makeSmall_46 ?_
      refine m_g_0_11 hG wk_1077 dX9_makeSmall_47 ?_
      refine v_iload_n hG 1 rfl rfl dX9_makeSmall_50 ?_
      refine v_aload_n hG 0 rfl rfl dX9_makeSmall_51 ?_
      refine m_g_0_3 hG wk_1069 dX9_makeSmall_52 ?_
      refine v_iload_n hG 1 rfl rfl dX9_makeSmall_55 ?_
      refine m_l_1 hG dX9_makeSmall_56 hf (fun hf => ?_)
      refine m_s_8 hG dX9_makeSmall_57 hf (fun w57 hf => ?_)
      refine v_aload_n hG 0 rfl rfl dX9_makeSmall_58 ?_
      refine m_g_0_12 hG wk_1078 dX9_makeSmall_59 ?_
      refine v_iload_n hG 1 rfl rfl dX9_makeSmall_62 ?_
      refine v_aload_n hG 0 rfl rfl dX9_makeSmall_63 ?_
      refine m_g_0_4 hG wk_1070 dX9_makeSmall_64 ?_
      refine v_iload_n hG 1 rfl rfl dX9_makeSmall_67 ?_
      refine m_l_2 hG dX9_makeSmall_68 hf (fun hf => ?_)
      refine m_s_9 hG dX9_makeSmall_69 hf (fun w69 hf => ?_)
      refine v_aload_n hG 0 rfl rfl dX9_makeSmall_70 ?_
      refine m_g_0_15 hG wk_1081 dX9_makeSmall_71 ?_
      refine v_iload_n hG 1 rfl rfl dX9_makeSmall_74 ?_
      refine v_aload_n hG 0 rfl rfl dX9_makeSmall_75 ?_
      refine m_g_0_5 hG wk_1071 dX9_makeSmall_76 ?_
      refine v_iload_n hG 1 rfl rfl dX9_makeSmall_79 ?_
      refine m_l_3 hG dX9_makeSmall_80 hf (fun hf => ?_)
      refine v_i2l hG dX9_makeSmall_81 ?_
      refine m_s_12 hG dX9_makeSmall_82 hf (fun w82 hf => ?_)
      refine v_aload_n hG 0 rfl rfl dX9_makeSmall_83 ?_
      refine m_g_0_13 hG wk_1079 dX9_makeSmall_84 ?_
      refine v_iload_n hG 1 rfl rfl dX9_makeSmall_87 ?_
      refine v_iconst hG (v := 0) (by decide) dX9_makeSmall_88 ?_
      refine m_s_10 hG dX9_makeSmall_89 hf (fun w89 hf => ?_)
      refine v_aload_n hG 0 rfl rfl dX9_makeSmall_90 ?_
      refine m_g_0_14 hG wk_1080 dX9_makeSmall_91 ?_
      refine v_iload_n hG 1 rfl rfl dX9_makeSmall_94 ?_
      refine v_iconst hG (v := 0) (by decide) dX9_makeSmall_95 ?_
      refine m_s_11 hG dX9_makeSmall_96 hf (fun w96 hf => ?_)
      refine v_iinc hG 1 (v := s31.2 + 1) [(1, _), (0, _)] dX9_makeSmall_97 rfl rfl (by decide) rfl ?_
      refine v_goto hG 31 dX9_makeSmall_100 rfl ?_
      refine v_sub [(0, _), (1, _)] [1, 0] rfl ?_
      exact hin _ (Option.some.inj hf).symm
  · show V p l e (k2_rm 1 21) s m args below meth c (inW (mcells g ad w)) (EN below args s g (mcells g ad w) (mcells g ad rr) none) g 3 (mcells g ad z31) 0 0 103 [(0, .ref (ad 0))] []
    refine v_iconst hG (v := 0) (by decide) dX9_makeSmall_103 ?_
    refine v_istore_n hG [(1, _), (0, _)] dX9_makeSmall_104 rfl (by decide) rfl ?_
    refine v_sub [(0, _), (1, _)] [1, 0] rfl ?_
    obtain ⟨z105, hlz105, hf⟩ := bd_some hf
    refine loop_v (step := X9_makeSmall_L105) (fun s105 : MW × Int32 => V p l e (k2_rm 1 21) s m args below meth c (inW (mcells g ad w)) (EN below args s g (mcells g ad w) (mcells g ad rr) none) g 3 (mcells g ad s105.1) 0 0 105 [(0, .ref (ad 0)), (1, .int s105.2)] []) (fun z105_q : (MW) => V p l e (k2_rm 1 21) s m args below meth c (inW (mcells g ad w)) (EN below args s g (mcells g ad w) (mcells g ad rr) none) g 3 (mcells g ad z105_q) 0 0 199 [] []) ?_ 5000 (z31, 0) z105 hlz105 ?_
    · intro s105 rL hf hin hout
      unfold X9_makeSmall_L105 at hf
      refine v_iload_n hG 1 rfl rfl dX9_makeSmall_105 ?_
      refine v_aload_n hG 0 rfl rfl dX9_makeSmall_106 ?_
      refine m_g_0_2 hG wk_1068 dX9_makeSmall_107 ?_
      refine v_icmp_ge hG 199 dX9_makeSmall_110 rfl hf (fun hf => ?_) (fun hf => ?_)
      · refine v_sub [] [] rfl ?_
        exact hout _ (Option.some.inj hf).symm
      · refine v_aload_n hG 0 rfl rfl dX9_makeSmall_113 ?_
        refine m_g_0_17 hG wk_1083 dX9_makeSmall_114 ?_
        refine v_iload_n hG 1 rfl rfl dX9_makeSmall_117 ?_
        refine v_iconst hG (v := 0) (by decide) dX9_makeSmall_118 ?_
        refine m_s_14 hG dX9_makeSmall_119 hf (fun w119 hf => ?_)
        refine v_aload_n hG 0 rfl rfl dX9_makeSmall_120 ?_
        refine m_g_0_16 hG wk_1082 dX9_makeSmall_121 ?_
        refine v_iload_n hG 1 rfl rfl dX9_makeSmall_124 ?_
        refine v_aload_n hG 0 rfl rfl dX9_makeSmall_125 ?_
        refine m_g_0_6 hG wk_1072 dX9_makeSmall_126 ?_
        refine v_iload_n hG 1 rfl rfl dX9_makeSmall_129 ?_
        refine m_l_4 hG dX9_makeSmall_130 hf (fun hf => ?_)
        refine m_s_13 hG dX9_makeSmall_131 hf (fun w131 hf => ?_)
        refine v_aload_n hG 0 rfl rfl dX9_makeSmall_132 ?_
        refine m_g_0_18 hG wk_1084 dX9_makeSmall_133 ?_
        refine v_iload_n hG 1 rfl rfl dX9_makeSmall_136 ?_
        refine v_aload_n hG 0 rfl rfl dX9_makeSmall_137 ?_
        refine m_g_0_7 hG wk_1073 dX9_makeSmall_138 ?_
        refine v_iload_n hG 1 rfl rfl dX9_makeSmall_141 ?_
        refine m_l_5 hG dX9_makeSmall_142 hf (fun hf => ?_)
        refine v_i2l hG dX9_makeSmall_143 ?_
        refine m_s_15 hG dX9_makeSmall_144 hf (fun w144 hf => ?_)
        refine v_aload_n hG 0 rfl rfl dX9_makeSmall_145 ?_
        refine m_g_0_19 hG wk_1085 dX9_makeSmall_146 ?_
        refine v_iload_n hG 1 rfl rfl dX9_makeSmall_149 ?_
        refine v_iconst hG (v := 1) (by decide) dX9_makeSmall_150 ?_
        refine v_iload_n hG 1 rfl rfl dX9_makeSmall_151 ?_
        refine v_ishl hG dX9_makeSmall_152 ?_
        refine m_s_16 hG dX9_makeSmall_153 hf (fun w153 hf => ?_)
        refine v_iconst hG (v := 0) (by decide) dX9_makeSmall_154 ?_
        refine v_istore_n hG [(2, _), (0, _), (1, _)] dX9_makeSmall_155 rfl (by decide) rfl ?_
        refine v_sub [(0, _), (1, _), (2, _)] [1, 2, 0] rfl ?_
        obtain ⟨z156, hlz156, hf⟩ := bd_some hf
        refine loop_v (step := X9_makeSmall_L156 s105) (fun s156 : MW × Int32 => V p l e (k2_rm 1 21) s m args below meth c (inW (mcells g ad w)) (EN below args s g (mcells g ad w) (mcells g ad rr) none) g 3 (mcells g ad s156.1) 0 0 156 [(0, .ref (ad 0)), (1, .int s105.2), (2, .int s156.2)] []) (fun z156_q : (MW) => V p l e (k2_rm 1 21) s m args below meth c (inW (mcells g ad w)) (EN below args s g (mcells g ad w) (mcells g ad rr) none) g 3 (mcells g ad z156_q) 0 0 193 [(0, .ref (ad 0)), (1, .int s105.2)] []) ?_ 5000 (w153, 0) z156 hlz156 ?_
        · intro s156 rL hf hin hout
          unfold X9_makeSmall_L156 at hf
          refine v_iload_n hG 2 rfl rfl dX9_makeSmall_156 ?_
          refine v_aload_n hG 0 rfl rfl dX9_makeSmall_157 ?_
          refine m_g_0_1 hG wk_1067 dX9_makeSmall_158 ?_
          refine v_icmp_ge hG 193 dX9_makeSmall_161 rfl hf (fun hf => ?_) (fun hf => ?_)
          · refine v_sub [(0, _), (1, _)] [0, 1] rfl ?_
            exact hout _ (Option.some.inj hf).symm
          · refine v_aload_n hG 0 rfl rfl dX9_makeSmall_164 ?_
            refine m_g_0_20 hG wk_1086 dX9_makeSmall_165 ?_
            refine v_bipush hG (v := 12) (by decide) dX9_makeSmall_168 ?_
            refine v_iload_n hG 1 rfl rfl dX9_makeSmall_170 ?_
            refine v_imul hG dX9_makeSmall_171 ?_
            refine v_iload_n hG 2 rfl rfl dX9_makeSmall_172 ?_
            refine v_iadd hG dX9_makeSmall_173 ?_
            refine v_aload_n hG 0 rfl rfl dX9_makeSmall_174 ?_
            refine m_g_0_8 hG wk_1074 dX9_makeSmall_175 ?_
            refine v_bipush hG (v := 12) (by decide) dX9_makeSmall_178 ?_
            refine v_iload_n hG 1 rfl rfl dX9_makeSmall_180 ?_
            refine v_imul hG dX9_makeSmall_181 ?_
            refine v_iload_n hG 2 rfl rfl dX9_makeSmall_182 ?_
            refine v_iadd hG dX9_makeSmall_183 ?_
            refine m_l_6 hG dX9_makeSmall_184 hf (fun hf => ?_)
            refine v_i2l hG dX9_makeSmall_185 ?_
            refine m_s_17 hG dX9_makeSmall_186 hf (fun w186 hf => ?_)
            refine v_iinc hG 2 (v := s156.2 + 1) [(2, _), (0, _), (1, _)] dX9_makeSmall_187 rfl rfl (by decide) rfl ?_
            refine v_goto hG 156 dX9_makeSmall_190 rfl ?_
            refine v_sub [(0, _), (1, _), (2, _)] [1, 2, 0] rfl ?_
            exact hin _ (Option.some.inj hf).symm
        · show V p l e (k2_rm 1 21) s m args below meth c (inW (mcells g ad w)) (EN below args s g (mcells g ad w) (mcells g ad rr) none) g 3 (mcells g ad z156) 0 0 193 [(0, .ref (ad 0)), (1, .int s105.2)] []
          refine v_iinc hG 1 (v := s105.2 + 1) [(1, _), (0, _)] dX9_makeSmall_193 rfl rfl (by decide) rfl ?_
          refine v_goto hG 105 dX9_makeSmall_196 rfl ?_
          refine v_sub [(0, _), (1, _)] [1, 0] rfl ?_
          exact hin _ (Option.some.inj hf).symm
    · show V p l e (k2_rm 1 21) s m args below meth c (inW (mcells g ad w)) (EN below args s g (mcells g ad w) (mcells g ad rr) none) g 3 (mcells g ad z105) 0 0 199 [] []
      cases hf
      exact v_vret hG hr dX9_makeSmall_199
def X9_shrink_J106  (j106_0 : MW) (j106_1 : Int32) : Option ((MW × Int32) ⊕ ((MW))) := (some (.inl (j106_0, (j106_1 + 1))))
def X9_shrink_L74 (a0 : Int32) (s74 : MW × Int32) : Option ((MW × Int32) ⊕ ((MW))) := (if 11 < s74.2 then (some (.inr s74.1)) else (if ((a0 >>> ((s74.2 - 1) &&& 31)) &&& 1) = 1 then ((X9_goesOn s74.1).bind (fun r94 : Int32 => (if r94 = 0 then (X9_shrink_J106 s74.1 s74.2) else ((X9_rule s74.1 s74.2).bind (fun r103 : MW => (X9_shrink_J106 r103 s74.2)))))) else (X9_shrink_J106 s74.1 s74.2)))
def X9_shrink_J129  (j129_0 : MW) (j129_1 : Int32) (j129_2 : Int32) : Option ((MW × Int32 × Int32) ⊕ ((MW × Int32))) := (some (.inl (j129_0, j129_1, j129_2)))
def X9_shrink_L48 (a0 : Int32) (a1 : Int32) (s48 : MW × Int32 × Int32) : Option ((MW × Int32 × Int32) ⊕ ((MW × Int32))) := (if s48.2.2 = 0 then (some (.inr (s48.1, s48.2.1))) else (if a1 ≤ s48.2.1 then (some (.inr (s48.1, s48.2.1))) else ((X9_goesOn s48.1).bind (fun r59 : Int32 => (if r59 = 0 then (some (.inr (s48.1, s48.2.1))) else ((iter (X9_shrink_L74 a0) 5000 (s48.1, 1)).bind (fun z74 : (MW) => (if (gM_acts z74) ≤ (gM_acts s48.1) then (X9_shrink_J129 z74 (s48.2.1 + 1) 0) else (X9_shrink_J129 z74 (s48.2.1 + 1) 1)))))))))
def X9_shrink_J30 (a0 : Int32) (a1 : Int32) (j30_0 : MW) (j30_1 : Int32) : Option (Int32 × MW) := ((X9_passes j30_0 j30_1 0).bind (fun r31 : Int32 × MW => (if r31.1 = 0 then (some (0, r31.2)) else ((X9_makeSmall r31.2).bind (fun r40 : MW => ((iter (X9_shrink_L48 a0 a1) 5000 (r40, 0, 1)).bind (fun z48 : (MW × Int32) => ((X9_goesOn z48.1).bind (fun r135 : Int32 => (if r135 = 0 then (some (0, z48.1)) else (some (z48.2, z48.1))))))))))))
def X9_shrink_J25 (a0 : Int32) (a1 : Int32) (j25_0 : MW) : Option (Int32 × MW) := (X9_shrink_J30 a0 a1 j25_0 1)
def X9_shrink (w : MW) (a0 : Int32) (a1 : Int32) : Option (Int32 × MW) := ((X9_within a0.toInt64 0 2047).bind (fun r7 : Int32 => (if r7 = 0 then (X9_shrink_J25 a0 a1 w) else ((X9_within a1.toInt64 1 50).bind (fun r19 : Int32 => (if r19 = 0 then (X9_shrink_J25 a0 a1 w) else (X9_shrink_J30 a0 a1 w 0)))))))
set_option maxRecDepth 100000 in
set_option maxHeartbeats 4000000 in
theorem ct_X9_shrink (l : Launch) (g : wG) (ad : Nat → Nat) (w : MW) (a0 : Int32) (a1 : Int32) (rr : Int32 × MW) (hf : X9_shrink w a0 a1 = some rr) : MetN l g yX9_shrink cX9_shrink 7 (some .int) (k2_rm 6 164) [.ref (ad 0), .int a0, .int a1] (mcells g ad w) (mcells g ad rr.2) (some (.int rr.1)) := by
  refine MetN.of2 [(0, .ref (ad 0)), (1, .int a0), (2, .int a1)] rfl (by decide +kernel) (Nat.le_of_ble_eq_true rfl) ?_
  intro p e s m args below meth c hG hr
  unfold X9_shrink at hf
  have j30 : ∀ (j30_0 : MW) (j30_1 : Int32), X9_shrink_J30 a0 a1 j30_0 j30_1 = some rr → V p l e (k2_rm 6 164) s m args below meth c (inW (mcells g ad w)) (EN below args s g (mcells g ad w) (mcells g ad rr.2) (some (.int rr.1))) g 7 (mcells g ad j30_0) 0 0 30 [(0, .ref (ad 0)), (1, .int a0), (2, .int a1)] [.int j30_1, .ref (ad 0)] := by
    intro j30_0 j30_1 hf
    unfold X9_shrink_J30 at hf
    refine v_iconst hG (v := 0) (by decide) dX9_shrink_30 ?_
    obtain ⟨r31, hr31, hf⟩ := bd_some hf
    refine v_callV hG (st := []) 0 9 (ct_X9_passes l g ad j30_0 j30_1 0 r31 hr31) iw_X9_passes wk_1212 rfl rfl ⟨rfl, rfl, Nat.le_of_ble_eq_true rfl, Nat.le_of_ble_eq_true rfl⟩ ⟨Nat.le_of_ble_eq_true rfl, Nat.le_of_ble_eq_true rfl⟩ rfl rfl (Nat.le_of_ble_eq_true rfl) (mcells_fst _ _ _ _) dX9_shrink_31 ?_
    refine (show V p l e (k2_rm 6 164) s m args below meth c (inW (mcells g ad w)) (EN below args s g (mcells g ad w) (mcells g ad rr.2) (some (.int rr.1))) g 7 (mcells g ad r31.2) 0 0 34 [(0, .ref (ad 0)), (1, .int a0), (2, .int a1)] [.int r31.1] from ?_)
    refine v_if_ne hG 39 dX9_shrink_34 rfl hf (fun hf => ?_) (fun hf => ?_)
    · refine v_aload_n hG 0 rfl rfl dX9_shrink_39 ?_
      obtain ⟨r40, hr40, hf⟩ := bd_some hf
      refine v_callV hG (st := []) 0 9 (ct_X9_makeSmall l g ad r31.2  r40 hr40) iw_X9_makeSmall wk_1252 rfl rfl ⟨rfl, rfl, Nat.le_of_ble_eq_true rfl, Nat.le_of_ble_eq_true rfl⟩ ⟨Nat.le_of_ble_eq_true rfl, Nat.le_of_ble_eq_true rfl⟩ rfl rfl (Nat.le_of_ble_eq_true rfl) (mcells_fst _ _ _ _) dX9_shrink_40 ?_
      refine (show V p l e (k2_rm 6 164) s m args below meth c (inW (mcells g ad w)) (EN below args s g (mcells g ad w) (mcells g ad rr.2) (some (.int rr.1))) g 7 (mcells g ad r40) 0 0 43 [(0, .ref (ad 0)), (1, .int a0), (2, .int a1)] [] from ?_)
      refine v_iconst hG (v := 0) (by decide) dX9_shrink_43 ?_
      refine v_istore_n hG [(3, _), (0, _), (1, _), (2, _)] dX9_shrink_44 rfl (by decide) rfl ?_
      refine v_iconst hG (v := 1) (by decide) dX9_shrink_45 ?_
      refine v_istore hG [(4, _), (3, _), (0, _), (1, _), (2, _)] dX9_shrink_46 (by decide) rfl ?_
      refine v_sub [(0, _), (1, _), (2, _), (3, _), (4, _)] [2, 3, 4, 1, 0] rfl ?_
      obtain ⟨z48, hlz48, hf⟩ := bd_some hf
      refine loop_v (step := X9_shrink_L48 a0 a1) (fun s48 : MW × Int32 × Int32 => V p l e (k2_rm 6 164) s m args below meth c (inW (mcells g ad w)) (EN below args s g (mcells g ad w) (mcells g ad rr.2) (some (.int rr.1))) g 7 (mcells g ad s48.1) 0 0 48 [(0, .ref (ad 0)), (1, .int a0), (2, .int a1), (3, .int s48.2.1), (4, .int s48.2.2)] []) (fun z48_q : (MW × Int32) => V p l e (k2_rm 6 164) s m args below meth c (inW (mcells g ad w)) (EN below args s g (mcells g ad w) (mcells g ad rr.2) (some (.int rr.1))) g 7 (mcells g ad z48_q.1) 0 0 134 [(0, .ref (ad 0)), (3, .int z48_q.2)] []) ?_ 5000 (r40, 0, 1) z48 hlz48 ?_
      · intro s48 rL hf hin hout
        unfold X9_shrink_L48 at hf
        have j129 : ∀ (j129_0 : MW) (j129_1 : Int32) (j129_2 : Int32), X9_shrink_J129 j129_0 j129_1 j129_2 = some rL → V p l e (k2_rm 6 164) s m args below meth c (inW (mcells g ad w)) (EN below args s g (mcells g ad w) (mcells g ad rr.2) (some (.int rr.1))) g 7 (mcells g ad j129_0) 0 0 129 [(0, .ref (ad 0)), (1, .int a0), (2, .int a1), (3, .int j129_1)] [.int j129_2] := by
          intro j129_0 j129_1 j129_2 hf
          unfold X9_shrink_J129 at hf
          refine v_istore hG [(4, _), (0, _), (1, _), (2, _), (3, _)] dX9_shrink_129 (by decide) rfl ?_
          refine v_goto hG 48 dX9_shrink_131 rfl ?_
          refine v_sub [(0, _), (1, _), (2, _), (3, _), (4, _)] [1, 2, 3, 4, 0] rfl ?_
          exact hin _ (Option.some.inj hf).symm
        refine v_iload hG 4 rfl dX9_shrink_48 ?_
        refine v_if_eq hG 134 dX9_shrink_50 rfl hf (fun hf => ?_) (fun hf => ?_)
        · refine v_sub [(0, _), (3, _)] [0, 3] rfl ?_
          exact hout _ (Option.some.inj hf).symm
        · refine v_iload_n hG 3 rfl rfl dX9_shrink_53 ?_
          refine v_iload_n hG 2 rfl rfl dX9_shrink_54 ?_
          refine v_icmp_ge hG 134 dX9_shrink_55 rfl hf (fun hf => ?_) (fun hf => ?_)
          · refine v_sub [(0, _), (3, _)] [0, 3] rfl ?_
            exact hout _ (Option.some.inj hf).symm
          · refine v_aload_n hG 0 rfl rfl dX9_shrink_58 ?_
            obtain ⟨r59, hr59, hf⟩ := bd_some hf
            refine v_callV hG (st := []) 0 9 (ct_X9_goesOn l g ad s48.1  r59 hr59) iw_X9_goesOn wk_1256 rfl rfl ⟨rfl, rfl, Nat.le_of_ble_eq_true rfl, Nat.le_of_ble_eq_true rfl⟩ ⟨Nat.le_of_ble_eq_true rfl, Nat.le_of_ble_eq_true rfl⟩ rfl rfl (Nat.le_of_ble_eq_true rfl) (mcells_fst _ _ _ _) dX9_shrink_59 ?_
            refine (show V p l e (k2_rm 6 164) s m args below meth c (inW (mcells g ad w)) (EN below args s g (mcells g ad w) (mcells g ad rr.2) (some (.int rr.1))) g 7 (mcells g ad s48.1) 0 0 62 [(0, .ref (ad 0)), (1, .int a0), (2, .int a1), (3, .int s48.2.1), (4, .int s48.2.2)] [.int r59] from ?_)
            refine v_if_eq hG 134 dX9_shrink_62 rfl hf (fun hf => ?_) (fun hf => ?_)
            · refine v_sub [(0, _), (3, _)] [0, 3] rfl ?_
              exact hout _ (Option.some.inj hf).symm
            · refine v_aload_n hG 0 rfl rfl dX9_shrink_65 ?_
              refine m_g_0_23 hG wk_1089 dX9_shrink_66 ?_
              refine v_istore hG [(5, _), (0, _), (1, _), (2, _), (3, _), (4, _)] dX9_shrink_69 (by decide) rfl ?_
              refine v_iconst hG (v := 1) (by decide) dX9_shrink_71 ?_
              refine v_istore hG [(6, _), (5, _), (0, _), (1, _), (2, _), (3, _), (4, _)] dX9_shrink_72 (by decide) rfl ?_
              refine v_sub [(0, _), (1, _), (2, _), (3, _), (5, _), (6, _)] [2, 3, 4, 5, 1, 0] rfl ?_
              obtain ⟨z74, hlz74, hf⟩ := bd_some hf
              refine loop_v (step := X9_shrink_L74 a0) (fun s74 : MW × Int32 => V p l e (k2_rm 6 164) s m args below meth c (inW (mcells g ad w)) (EN below args s g (mcells g ad w) (mcells g ad rr.2) (some (.int rr.1))) g 7 (mcells g ad s74.1) 0 0 74 [(0, .ref (ad 0)), (1, .int a0), (2, .int a1), (3, .int s48.2.1), (5, .int (gM_acts s48.1)), (6, .int s74.2)] []) (fun z74_q : (MW) => V p l e (k2_rm 6 164) s m args below meth c (inW (mcells g ad w)) (EN below args s g (mcells g ad w) (mcells g ad rr.2) (some (.int rr.1))) g 7 (mcells g ad z74_q) 0 0 112 [(0, .ref (ad 0)), (1, .int a0), (2, .int a1), (3, .int s48.2.1), (5, .int (gM_acts s48.1))] []) ?_ 5000 (s48.1, 1) z74 hlz74 ?_
              · intro s74 rL hf hin hout
                unfold X9_shrink_L74 at hf
                have j106 : ∀ (j106_0 : MW) (j106_1 : Int32), X9_shrink_J106 j106_0 j106_1 = some rL → V p l e (k2_rm 6 164) s m args below meth c (inW (mcells g ad w)) (EN below args s g (mcells g ad w) (mcells g ad rr.2) (some (.int rr.1))) g 7 (mcells g ad j106_0) 0 0 106 [(0, .ref (ad 0)), (1, .int a0), (2, .int a1), (3, .int s48.2.1), (5, .int (gM_acts s48.1)), (6, .int j106_1)] [] := by
                  intro j106_0 j106_1 hf
                  unfold X9_shrink_J106 at hf
                  refine v_iinc hG 5 (v := j106_1 + 1) [(6, _), (0, _), (1, _), (2, _), (3, _), (5, _)] dX9_shrink_106 rfl rfl (by decide) rfl ?_
                  refine v_goto hG 74 dX9_shrink_109 rfl ?_
                  refine v_sub [(0, _), (1, _), (2, _), (3, _), (5, _), (6, _)] [1, 2, 3, 4, 5, 0] rfl ?_
                  exact hin _ (Option.some.inj hf).symm
                refine v_iload hG 5 rfl dX9_shrink_74 ?_
                refine v_bipush hG (v := 11) (by decide) dX9_shrink_76 ?_
                refine v_icmp_gt hG 112 dX9_shrink_78 rfl hf (fun hf => ?_) (fun hf => ?_)
                · refine v_sub [(0, _), (1, _), (2, _), (3, _), (5, _)] [0, 1, 2, 3, 4] rfl ?_
                  exact hout _ (Option.some.inj hf).symm
                · refine v_iload_n hG 1 rfl rfl dX9_shrink_81 ?_
                  refine v_iload hG 5 rfl dX9_shrink_82 ?_
                  refine v_iconst hG (v := 1) (by decide) dX9_shrink_84 ?_
                  refine v_isub hG dX9_shrink_85 ?_
                  refine v_ishr hG dX9_shrink_86 ?_
                  refine v_iconst hG (v := 1) (by decide) dX9_shrink_87 ?_
                  refine v_iand hG dX9_shrink_88 ?_
                  refine v_iconst hG (v := 1) (by decide) dX9_shrink_89 ?_
                  refine v_icmp_ne hG 106 dX9_shrink_90 rfl hf (fun hf => ?_) (fun hf => ?_)
                  · exact j106 s74.1 s74.2 hf
                  · refine v_aload_n hG 0 rfl rfl dX9_shrink_93 ?_
                    obtain ⟨r94, hr94, hf⟩ := bd_some hf
                    refine v_callV hG (st := []) 0 9 (ct_X9_goesOn l g ad s74.1  r94 hr94) iw_X9_goesOn wk_1256 rfl rfl ⟨rfl, rfl, Nat.le_of_ble_eq_true rfl, Nat.le_of_ble_eq_true rfl⟩ ⟨Nat.le_of_ble_eq_true rfl, Nat.le_of_ble_eq_true rfl⟩ rfl rfl (Nat.le_of_ble_eq_true rfl) (mcells_fst _ _ _ _) dX9_shrink_94 ?_
                    refine (show V p l e (k2_rm 6 164) s m args below meth c (inW (mcells g ad w)) (EN below args s g (mcells g ad w) (mcells g ad rr.2) (some (.int rr.1))) g 7 (mcells g ad s74.1) 0 0 97 [(0, .ref (ad 0)), (1, .int a0), (2, .int a1), (3, .int s48.2.1), (5, .int (gM_acts s48.1)), (6, .int s74.2)] [.int r94] from ?_)
                    refine v_if_eq hG 106 dX9_shrink_97 rfl hf (fun hf => ?_) (fun hf => ?_)
                    · exact j106 s74.1 s74.2 hf
                    · refine v_aload_n hG 0 rfl rfl dX9_shrink_100 ?_
                      refine v_iload hG 5 rfl dX9_shrink_101 ?_
                      obtain ⟨r103, hr103, hf⟩ := bd_some hf
                      refine v_callV hG (st := []) 0 9 (ct_X9_rule l g ad s74.1 s74.2 r103 hr103) iw_X9_rule wk_1260 rfl rfl ⟨rfl, rfl, Nat.le_of_ble_eq_true rfl, Nat.le_of_ble_eq_true rfl⟩ ⟨Nat.le_of_ble_eq_true rfl, Nat.le_of_ble_eq_true rfl⟩ rfl rfl (Nat.le_of_ble_eq_true rfl) (mcells_fst _ _ _ _) dX9_shrink_103 ?_
                      refine (show V p l e (k2_rm 6 164) s m args below meth c (inW (mcells g ad w)) (EN below args s g (mcells g ad w) (mcells g ad rr.2) (some (.int rr.1))) g 7 (mcells g ad r103) 0 0 106 [(0, .ref (ad 0)), (1, .int a0), (2, .int a1), (3, .int s48.2.1), (5, .int (gM_acts s48.1)), (6, .int s74.2)] [] from ?_)
                      exact j106 r103 s74.2 hf
              · show V p l e (k2_rm 6 164) s m args below meth c (inW (mcells g ad w)) (EN below args s g (mcells g ad w) (mcells g ad rr.2) (some (.int rr.1))) g 7 (mcells g ad z74) 0 0 112 [(0, .ref (ad 0)), (1, .int a0), (2, .int a1), (3, .int s48.2.1), (5, .int (gM_acts s48.1))] []
                refine v_iinc hG 3 (v := s48.2.1 + 1) [(3, _), (0, _), (1, _), (2, _), (5, _)] dX9_shrink_112 rfl rfl (by decide) rfl ?_
                refine v_aload_n hG 1 rfl rfl dX9_shrink_115 ?_
                refine m_g_0_23 hG wk_1089 dX9_shrink_116 ?_
                refine v_iload hG 4 rfl dX9_shrink_119 ?_
                refine v_icmp_le hG 128 dX9_shrink_121 rfl hf (fun hf => ?_) (fun hf => ?_)
                · refine v_iconst hG (v := 0) (by decide) dX9_shrink_128 ?_
                  refine v_sub [(0, _), (1, _), (2, _), (3, _)] [1, 2, 3, 0] rfl ?_
                  exact j129 z74 (s48.2.1 + 1) 0 hf
                · refine v_iconst hG (v := 1) (by decide) dX9_shrink_124 ?_
                  refine v_goto hG 129 dX9_shrink_125 rfl ?_
                  refine v_sub [(0, _), (1, _), (2, _), (3, _)] [1, 2, 3, 0] rfl ?_
                  exact j129 z74 (s48.2.1 + 1) 1 hf
      · show V p l e (k2_rm 6 164) s m args below meth c (inW (mcells g ad w)) (EN below args s g (mcells g ad w) (mcells g ad rr.2) (some (.int rr.1))) g 7 (mcells g ad z48.1) 0 0 134 [(0, .ref (ad 0)), (3, .int z48.2)] []
        refine v_aload_n hG 0 rfl rfl dX9_shrink_134 ?_
        obtain ⟨r135, hr135, hf⟩ := bd_some hf
        refine v_callV hG (st := []) 0 9 (ct_X9_goesOn l g ad z48.1  r135 hr135) iw_X9_goesOn wk_1256 rfl rfl ⟨rfl, rfl, Nat.le_of_ble_eq_true rfl, Nat.le_of_ble_eq_true rfl⟩ ⟨Nat.le_of_ble_eq_true rfl, Nat.le_of_ble_eq_true rfl⟩ rfl rfl (Nat.le_of_ble_eq_true rfl) (mcells_fst _ _ _ _) dX9_shrink_135 ?_
        refine (show V p l e (k2_rm 6 164) s m args below meth c (inW (mcells g ad w)) (EN below args s g (mcells g ad w) (mcells g ad rr.2) (some (.int rr.1))) g 7 (mcells g ad z48.1) 0 0 138 [(0, .ref (ad 0)), (3, .int z48.2)] [.int r135] from ?_)
        refine v_if_eq hG 145 dX9_shrink_138 rfl hf (fun hf => ?_) (fun hf => ?_)
        · refine v_iconst hG (v := 0) (by decide) dX9_shrink_145 ?_
          cases hf
          exact v_iret hG hr dX9_shrink_146
        · refine v_iload_n hG 1 rfl rfl dX9_shrink_141 ?_
          refine v_goto hG 146 dX9_shrink_142 rfl ?_
          cases hf
          exact v_iret hG hr dX9_shrink_146
    · refine v_iconst hG (v := 0) (by decide) dX9_shrink_37 ?_
      cases hf
      exact v_iret hG hr dX9_shrink_38
  have j25 : ∀ (j25_0 : MW), X9_shrink_J25 a0 a1 j25_0 = some rr → V p l e (k2_rm 6 164) s m args below meth c (inW (mcells g ad w)) (EN below args s g (mcells g ad w) (mcells g ad rr.2) (some (.int rr.1))) g 7 (mcells g ad j25_0) 0 0 25 [(0, .ref (ad 0)), (1, .int a0), (2, .int a1)] [.ref (ad 0)] := by
    intro j25_0 hf
    unfold X9_shrink_J25 at hf
    refine v_iconst hG (v := 1) (by decide) dX9_shrink_25 ?_
    refine v_goto hG 30 dX9_shrink_26 rfl ?_
    exact j30 j25_0 1 hf
  refine v_aload_n hG 0 rfl rfl dX9_shrink_0 ?_
  refine v_iload_n hG 1 rfl rfl dX9_shrink_1 ?_
  refine v_i2l hG dX9_shrink_2 ?_
  refine v_lconst hG (v := 0) (by decide) dX9_shrink_3 ?_
  refine v_ldc2 hG wk_1250 dX9_shrink_4 ?_
  obtain ⟨r7, hr7, hf⟩ := bd_some hf
  refine v_callP hG (st := [.ref (ad 0)]) (ct_X9_within l g a0.toInt64 0 2047 r7 hr7) sw_X9_within wk_1207 ⟨rfl, rfl, Nat.le_of_ble_eq_true rfl, Nat.le_of_ble_eq_true rfl⟩ ⟨Nat.le_of_ble_eq_true rfl, Nat.le_of_ble_eq_true rfl⟩ rfl rfl (Nat.le_of_ble_eq_true rfl) dX9_shrink_7 ?_
  refine (show V p l e (k2_rm 6 164) s m args below meth c (inW (mcells g ad w)) (EN below args s g (mcells g ad w) (mcells g ad rr.2) (some (.int rr.1))) g 7 (mcells g ad w) 0 0 10 [(0, .ref (ad 0)), (1, .int a0), (2, .int a1)] [.int r7, .ref (ad 0)] from ?_)
  refine v_if_eq hG 25 dX9_shrink_10 rfl hf (fun hf => ?_) (fun hf => ?_)
  · exact j25 w hf
  · refine v_iload_n hG 2 rfl rfl dX9_shrink_13 ?_
    refine v_i2l hG dX9_shrink_14 ?_
    refine v_lconst hG (v := 1) (by decide) dX9_shrink_15 ?_
    refine v_ldc2 hG wk_1251 dX9_shrink_16 ?_
    obtain ⟨r19, hr19, hf⟩ := bd_some hf
    refine v_callP hG (st := [.ref (ad 0)]) (ct_X9_within l g a1.toInt64 1 50 r19 hr19) sw_X9_within wk_1207 ⟨rfl, rfl, Nat.le_of_ble_eq_true rfl, Nat.le_of_ble_eq_true rfl⟩ ⟨Nat.le_of_ble_eq_true rfl, Nat.le_of_ble_eq_true rfl⟩ rfl rfl (Nat.le_of_ble_eq_true rfl) dX9_shrink_19 ?_
    refine (show V p l e (k2_rm 6 164) s m args below meth c (inW (mcells g ad w)) (EN below args s g (mcells g ad w) (mcells g ad rr.2) (some (.int rr.1))) g 7 (mcells g ad w) 0 0 22 [(0, .ref (ad 0)), (1, .int a0), (2, .int a1)] [.int r19, .ref (ad 0)] from ?_)
    refine v_if_ne hG 29 dX9_shrink_22 rfl hf (fun hf => ?_) (fun hf => ?_)
    · refine v_iconst hG (v := 0) (by decide) dX9_shrink_29 ?_
      exact j30 w 0 hf
    · exact j25 w hf
def X9_state_J26 (a0 : Int32) (j26_0 : MW) (j26_1 : Int32) (j26_2 : Int32) : Option (Int32 × MW) := ((X9_passes j26_0 j26_1 j26_2).bind (fun r26 : Int32 × MW => (if r26.1 = 0 then (some (0, r26.2)) else (if inR a0 12 = true then (some (((gM_state r26.2) a0.toNatClampNeg), r26.2)) else none))))
def X9_state_J13 (a0 : Int32) (j13_0 : MW) (j13_1 : Int32) : Option (Int32 × MW) := ((X9_isColumn j13_0 a0).bind (fun r15 : Int32 => (if r15 = 0 then (X9_state_J26 a0 j13_0 j13_1 1) else (X9_state_J26 a0 j13_0 j13_1 0))))
def X9_state (w : MW) (a0 : Int32) : Option (Int32 × MW) := (if (gM_isSmall w) = 0 then (X9_state_J13 a0 w 1) else (X9_state_J13 a0 w 0))
set_option maxRecDepth 100000 in
set_option maxHeartbeats 4000000 in
theorem ct_X9_state (l : Launch) (g : wG) (ad : Nat → Nat) (w : MW) (a0 : Int32) (rr : Int32 × MW) (hf : X9_state w a0 = some rr) : MetN l g yX9_state cX9_state 2 (some .int) (k2_rm 2 46) [.ref (ad 0), .int a0] (mcells g ad w) (mcells g ad rr.2) (some (.int rr.1)) := by
  refine MetN.of2 [(0, .ref (ad 0)), (1, .int a0)] rfl (by decide +kernel) (Nat.le_of_ble_eq_true rfl) ?_
  intro p e s m args below meth c hG hr
  unfold X9_state at hf
  have j26 : ∀ (j26_0 : MW) (j26_1 : Int32) (j26_2 : Int32), X9_state_J26 a0 j26_0 j26_1 j26_2 = some rr → V p l e (k2_rm 2 46) s m args below meth c (inW (mcells g ad w)) (EN below args s g (mcells g ad w) (mcells g ad rr.2) (some (.int rr.1))) g 2 (mcells g ad j26_0) 0 0 26 [(0, .ref (ad 0)), (1, .int a0)] [.int j26_2, .int j26_1, .ref (ad 0)] := by
    intro j26_0 j26_1 j26_2 hf
    unfold X9_state_J26 at hf
    obtain ⟨r26, hr26, hf⟩ := bd_some hf
    refine v_callV hG (st := []) 0 9 (ct_X9_passes l g ad j26_0 j26_1 j26_2 r26 hr26) iw_X9_passes wk_1212 rfl rfl ⟨rfl, rfl, Nat.le_of_ble_eq_true rfl, Nat.le_of_ble_eq_true rfl⟩ ⟨Nat.le_of_ble_eq_true rfl, Nat.le_of_ble_eq_true rfl⟩ rfl rfl (Nat.le_of_ble_eq_true rfl) (mcells_fst _ _ _ _) dX9_state_26 ?_
    refine (show V p l e (k2_rm 2 46) s m args below meth c (inW (mcells g ad w)) (EN below args s g (mcells g ad w) (mcells g ad rr.2) (some (.int rr.1))) g 2 (mcells g ad r26.2) 0 0 29 [(0, .ref (ad 0)), (1, .int a0)] [.int r26.1] from ?_)
    refine v_if_eq hG 41 dX9_state_29 rfl hf (fun hf => ?_) (fun hf => ?_)
    · refine v_iconst hG (v := 0) (by decide) dX9_state_41 ?_
      cases hf
      exact v_iret hG hr dX9_state_42
    · refine v_aload_n hG 0 rfl rfl dX9_state_32 ?_
      refine m_g_0_10 hG wk_1076 dX9_state_33 ?_
      refine v_iload_n hG 1 rfl rfl dX9_state_36 ?_
      refine m_l_7 hG dX9_state_37 hf (fun hf => ?_)
      refine v_goto hG 42 dX9_state_38 rfl ?_
      cases hf
      exact v_iret hG hr dX9_state_42
  have j13 : ∀ (j13_0 : MW) (j13_1 : Int32), X9_state_J13 a0 j13_0 j13_1 = some rr → V p l e (k2_rm 2 46) s m args below meth c (inW (mcells g ad w)) (EN below args s g (mcells g ad w) (mcells g ad rr.2) (some (.int rr.1))) g 2 (mcells g ad j13_0) 0 0 13 [(0, .ref (ad 0)), (1, .int a0)] [.int j13_1, .ref (ad 0)] := by
    intro j13_0 j13_1 hf
    unfold X9_state_J13 at hf
    refine v_aload_n hG 0 rfl rfl dX9_state_13 ?_
    refine v_iload_n hG 1 rfl rfl dX9_state_14 ?_
    obtain ⟨r15, hr15, hf⟩ := bd_some hf
    refine v_callV hG (st := [.int j13_1, .ref (ad 0)]) 0 9 (ct_X9_isColumn l g ad j13_0 a0 r15 hr15) iw_X9_isColumn wk_1238 rfl rfl ⟨rfl, rfl, Nat.le_of_ble_eq_true rfl, Nat.le_of_ble_eq_true rfl⟩ ⟨Nat.le_of_ble_eq_true rfl, Nat.le_of_ble_eq_true rfl⟩ rfl rfl (Nat.le_of_ble_eq_true rfl) (mcells_fst _ _ _ _) dX9_state_15 ?_
    refine (show V p l e (k2_rm 2 46) s m args below meth c (inW (mcells g ad w)) (EN below args s g (mcells g ad w) (mcells g ad rr.2) (some (.int rr.1))) g 2 (mcells g ad j13_0) 0 0 18 [(0, .ref (ad 0)), (1, .int a0)] [.int r15, .int j13_1, .ref (ad 0)] from ?_)
    refine v_if_ne hG 25 dX9_state_18 rfl hf (fun hf => ?_) (fun hf => ?_)
    · refine v_iconst hG (v := 0) (by decide) dX9_state_25 ?_
      exact j26 j13_0 j13_1 0 hf
    · refine v_iconst hG (v := 1) (by decide) dX9_state_21 ?_
      refine v_goto hG 26 dX9_state_22 rfl ?_
      exact j26 j13_0 j13_1 1 hf
  refine v_aload_n hG 0 rfl rfl dX9_state_0 ?_
  refine v_aload_n hG 0 rfl rfl dX9_state_1 ?_
  refine m_g_0_9 hG wk_1075 dX9_state_2 ?_
  refine v_if_ne hG 12 dX9_state_5 rfl hf (fun hf => ?_) (fun hf => ?_)
  · refine v_iconst hG (v := 0) (by decide) dX9_state_12 ?_
    exact j13 w 0 hf
  · refine v_iconst hG (v := 1) (by decide) dX9_state_8 ?_
    refine v_goto hG 13 dX9_state_9 rfl ?_
    exact j13 w 1 hf
def X9_bound_J26 (a0 : Int32) (a1 : Int32) (j26_0 : MW) (j26_1 : Int32) (j26_2 : Int32) : Option (Int32 × MW) := ((X9_passes j26_0 j26_1 j26_2).bind (fun r26 : Int32 × MW => (if r26.1 = 0 then (some (0, r26.2)) else (if a1 = 0 then (if inR a0 12 = true then (some (((gM_low r26.2) a0.toNatClampNeg), r26.2)) else none) else (if inR a0 12 = true then (some (((gM_high r26.2) a0.toNatClampNeg), r26.2)) else none)))))
def X9_bound_J13 (a0 : Int32) (a1 : Int32) (j13_0 : MW) (j13_1 : Int32) : Option (Int32 × MW) := ((X9_isColumn j13_0 a0).bind (fun r15 : Int32 => (if r15 = 0 then (X9_bound_J26 a0 a1 j13_0 j13_1 1) else (X9_bound_J26 a0 a1 j13_0 j13_1 0))))
def X9_bound (w : MW) (a0 : Int32) (a1 : Int32) : Option (Int32 × MW) := (if (gM_isSmall w) = 0 then (X9_bound_J13 a0 a1 w 1) else (X9_bound_J13 a0 a1 w 0))
set_option maxRecDepth 100000 in
set_option maxHeartbeats 4000000 in
theorem ct_X9_bound (l : Launch) (g : wG) (ad : Nat → Nat) (w : MW) (a0 : Int32) (a1 : Int32) (rr : Int32 × MW) (hf : X9_bound w a0 a1 = some rr) : MetN l g yX9_bound cX9_bound 3 (some .int) (k2_rm 2 46) [.ref (ad 0), .int a0, .int a1] (mcells g ad w) (mcells g ad rr.2) (some (.int rr.1)) := by
  refine MetN.of2 [(0, .ref (ad 0)), (1, .int a0), (2, .int a1)] rfl (by decide +kernel) (Nat.le_of_ble_eq_true rfl) ?_
  intro p e s m args below meth c hG hr
  unfold X9_bound at hf
  have j26 : ∀ (j26_0 : MW) (j26_1 : Int32) (j26_2 : Int32), X9_bound_J26 a0 a1 j26_0 j26_1 j26_2 = some rr → V p l e (k2_rm 2 46) s m args below meth c (inW (mcells g ad w)) (EN below args s g (mcells g ad w) (mcells g ad rr.2) (some (.int rr.1))) g 3 (mcells g ad j26_0) 0 0 26 [(0, .ref (ad 0)), (1, .int a0), (2, .int a1)] [.int j26_2, .int j26_1, .ref (ad 0)] := by
    intro j26_0 j26_1 j26_2 hf
    unfold X9_bound_J26 at hf
    obtain ⟨r26, hr26, hf⟩ := bd_some hf
    refine v_callV hG (st := []) 0 9 (ct_X9_passes l g ad j26_0 j26_1 j26_2 r26 hr26) iw_X9_passes wk_1212 rfl rfl ⟨rfl, rfl, Nat.le_of_ble_eq_true rfl, Nat.le_of_ble_eq_true rfl⟩ ⟨Nat.le_of_ble_eq_true rfl, Nat.le_of_ble_eq_true rfl⟩ rfl rfl (Nat.le_of_ble_eq_true rfl) (mcells_fst _ _ _ _) dX9_bound_26 ?_
    refine (show V p l e (k2_rm 2 46) s m args below meth c (inW (mcells g ad w)) (EN below args s g (mcells g ad w) (mcells g ad rr.2) (some (.int rr.1))) g 3 (mcells g ad r26.2) 0 0 29 [(0, .ref (ad 0)), (1, .int a0), (2, .int a1)] [.int r26.1] from ?_)
    refine v_if_ne hG 36 dX9_bound_29 rfl hf (fun hf => ?_) (fun hf => ?_)
    · refine v_iload_n hG 2 rfl rfl dX9_bound_36 ?_
      refine v_if_eq hG 49 dX9_bound_37 rfl hf (fun hf => ?_) (fun hf => ?_)
      · refine v_aload_n hG 0 rfl rfl dX9_bound_49 ?_
        refine m_g_0_11 hG wk_1077 dX9_bound_50 ?_
        refine v_iload_n hG 1 rfl rfl dX9_bound_53 ?_
        refine m_l_8 hG dX9_bound_54 hf (fun hf => ?_)
        cases hf
        exact v_iret hG hr dX9_bound_55
      · refine v_aload_n hG 0 rfl rfl dX9_bound_40 ?_
        refine m_g_0_12 hG wk_1078 dX9_bound_41 ?_
        refine v_iload_n hG 1 rfl rfl dX9_bound_44 ?_
        refine m_l_9 hG dX9_bound_45 hf (fun hf => ?_)
        refine v_goto hG 55 dX9_bound_46 rfl ?_
        cases hf
        exact v_iret hG hr dX9_bound_55
    · refine v_iconst hG (v := 0) (by decide) dX9_bound_32 ?_
      refine v_goto hG 55 dX9_bound_33 rfl ?_
      cases hf
      exact v_iret hG hr dX9_bound_55
  have j13 : ∀ (j13_0 : MW) (j13_1 : Int32), X9_bound_J13 a0 a1 j13_0 j13_1 = some rr → V p l e (k2_rm 2 46) s m args below meth c (inW (mcells g ad w)) (EN below args s g (mcells g ad w) (mcells g ad rr.2) (some (.int rr.1))) g 3 (mcells g ad j13_0) 0 0 13 [(0, .ref (ad 0)), (1, .int a0), (2, .int a1)] [.int j13_1, .ref (ad 0)] := by
    intro j13_0 j13_1 hf
    unfold X9_bound_J13 at hf
    refine v_aload_n hG 0 rfl rfl dX9_bound_13 ?_
    refine v_iload_n hG 1 rfl rfl dX9_bound_14 ?_
    obtain ⟨r15, hr15, hf⟩ := bd_some hf
    refine v_callV hG (st := [.int j13_1, .ref (ad 0)]) 0 9 (ct_X9_isColumn l g ad j13_0 a0 r15 hr15) iw_X9_isColumn wk_1238 rfl rfl ⟨rfl, rfl, Nat.le_of_ble_eq_true rfl, Nat.le_of_ble_eq_true rfl⟩ ⟨Nat.le_of_ble_eq_true rfl, Nat.le_of_ble_eq_true rfl⟩ rfl rfl (Nat.le_of_ble_eq_true rfl) (mcells_fst _ _ _ _) dX9_bound_15 ?_
    refine (show V p l e (k2_rm 2 46) s m args below meth c (inW (mcells g ad w)) (EN below args s g (mcells g ad w) (mcells g ad rr.2) (some (.int rr.1))) g 3 (mcells g ad j13_0) 0 0 18 [(0, .ref (ad 0)), (1, .int a0), (2, .int a1)] [.int r15, .int j13_1, .ref (ad 0)] from ?_)
    refine v_if_ne hG 25 dX9_bound_18 rfl hf (fun hf => ?_) (fun hf => ?_)
    · refine v_iconst hG (v := 0) (by decide) dX9_bound_25 ?_
      exact j26 j13_0 j13_1 0 hf
    · refine v_iconst hG (v := 1) (by decide) dX9_bound_21 ?_
      refine v_goto hG 26 dX9_bound_22 rfl ?_
      exact j26 j13_0 j13_1 1 hf
  refine v_aload_n hG 0 rfl rfl dX9_bound_0 ?_
  refine v_aload_n hG 0 rfl rfl dX9_bound_1 ?_
  refine m_g_0_9 hG wk_1075 dX9_bound_2 ?_
  refine v_if_ne hG 12 dX9_bound_5 rfl hf (fun hf => ?_) (fun hf => ?_)
  · refine v_iconst hG (v := 0) (by decide) dX9_bound_12 ?_
    exact j13 w 0 hf
  · refine v_iconst hG (v := 1) (by decide) dX9_bound_8 ?_
    refine v_goto hG 13 dX9_bound_9 rfl ?_
    exact j13 w 1 hf
def X9_cost_J26 (a0 : Int32) (j26_0 : MW) (j26_1 : Int32) (j26_2 : Int32) : Option (Int32 × MW) := ((X9_passes j26_0 j26_1 j26_2).bind (fun r26 : Int32 × MW => (if r26.1 = 0 then (some (0, r26.2)) else (if inR a0 12 = true then (if ((gM_state r26.2) a0.toNatClampNeg) = 0 then (if inR a0 12 = true then (some (((gM_cost r26.2) a0.toNatClampNeg).toInt32, r26.2)) else none) else (some (0, r26.2))) else none))))
def X9_cost_J13 (a0 : Int32) (j13_0 : MW) (j13_1 : Int32) : Option (Int32 × MW) := ((X9_isColumn j13_0 a0).bind (fun r15 : Int32 => (if r15 = 0 then (X9_cost_J26 a0 j13_0 j13_1 1) else (X9_cost_J26 a0 j13_0 j13_1 0))))
def X9_cost (w : MW) (a0 : Int32) : Option (Int32 × MW) := (if (gM_isSmall w) = 0 then (X9_cost_J13 a0 w 1) else (X9_cost_J13 a0 w 0))
set_option maxRecDepth 100000 in
set_option maxHeartbeats 4000000 in
theorem ct_X9_cost (l : Launch) (g : wG) (ad : Nat → Nat) (w : MW) (a0 : Int32) (rr : Int32 × MW) (hf : X9_cost w a0 = some rr) : MetN l g yX9_cost cX9_cost 2 (some .int) (k2_rm 2 46) [.ref (ad 0), .int a0] (mcells g ad w) (mcells g ad rr.2) (some (.int rr.1)) := by
  refine MetN.of2 [(0, .ref (ad 0)), (1, .int a0)] rfl (by decide +kernel) (Nat.le_of_ble_eq_true rfl) ?_
  intro p e s m args below meth c hG hr
  unfold X9_cost at hf
  have j26 : ∀ (j26_0 : MW) (j26_1 : Int32) (j26_2 : Int32), X9_cost_J26 a0 j26_0 j26_1 j26_2 = some rr → V p l e (k2_rm 2 46) s m args below meth c (inW (mcells g ad w)) (EN below args s g (mcells g ad w) (mcells g ad rr.2) (some (.int rr.1))) g 2 (mcells g ad j26_0) 0 0 26 [(0, .ref (ad 0)), (1, .int a0)] [.int j26_2, .int j26_1, .ref (ad 0)] := by
    intro j26_0 j26_1 j26_2 hf
    unfold X9_cost_J26 at hf
    obtain ⟨r26, hr26, hf⟩ := bd_some hf
    refine v_callV hG (st := []) 0 9 (ct_X9_passes l g ad j26_0 j26_1 j26_2 r26 hr26) iw_X9_passes wk_1212 rfl rfl ⟨rfl, rfl, Nat.le_of_ble_eq_true rfl, Nat.le_of_ble_eq_true rfl⟩ ⟨Nat.le_of_ble_eq_true rfl, Nat.le_of_ble_eq_true rfl⟩ rfl rfl (Nat.le_of_ble_eq_true rfl) (mcells_fst _ _ _ _) dX9_cost_26 ?_
    refine (show V p l e (k2_rm 2 46) s m args below meth c (inW (mcells g ad w)) (EN below args s g (mcells g ad w) (mcells g ad rr.2) (some (.int rr.1))) g 2 (mcells g ad r26.2) 0 0 29 [(0, .ref (ad 0)), (1, .int a0)] [.int r26.1] from ?_)
    refine v_if_eq hG 51 dX9_cost_29 rfl hf (fun hf => ?_) (fun hf => ?_)
    · refine v_iconst hG (v := 0) (by decide) dX9_cost_51 ?_
      cases hf
      exact v_iret hG hr dX9_cost_52
    · refine v_aload_n hG 0 rfl rfl dX9_cost_32 ?_
      refine m_g_0_10 hG wk_1076 dX9_cost_33 ?_
      refine v_iload_n hG 1 rfl rfl dX9_cost_36 ?_
      refine m_l_7 hG dX9_cost_37 hf (fun hf => ?_)
      refine v_if_ne hG 51 dX9_cost_38 rfl hf (fun hf => ?_) (fun hf => ?_)
      · refine v_iconst hG (v := 0) (by decide) dX9_cost_51 ?_
        cases hf
        exact v_iret hG hr dX9_cost_52
      · refine v_aload_n hG 0 rfl rfl dX9_cost_41 ?_
        refine m_g_0_15 hG wk_1081 dX9_cost_42 ?_
        refine v_iload_n hG 1 rfl rfl dX9_cost_45 ?_
        refine m_l_12 hG dX9_cost_46 hf (fun hf => ?_)
        refine v_l2i hG dX9_cost_47 ?_
        refine v_goto hG 52 dX9_cost_48 rfl ?_
        cases hf
        exact v_iret hG hr dX9_cost_52
  have j13 : ∀ (j13_0 : MW) (j13_1 : Int32), X9_cost_J13 a0 j13_0 j13_1 = some rr → V p l e (k2_rm 2 46) s m args below meth c (inW (mcells g ad w)) (EN below args s g (mcells g ad w) (mcells g ad rr.2) (some (.int rr.1))) g 2 (mcells g ad j13_0) 0 0 13 [(0, .ref (ad 0)), (1, .int a0)] [.int j13_1, .ref (ad 0)] := by
    intro j13_0 j13_1 hf
    unfold X9_cost_J13 at hf
    refine v_aload_n hG 0 rfl rfl dX9_cost_13 ?_
    refine v_iload_n hG 1 rfl rfl dX9_cost_14 ?_
    obtain ⟨r15, hr15, hf⟩ := bd_some hf
    refine v_callV hG (st := [.int j13_1, .ref (ad 0)]) 0 9 (ct_X9_isColumn l g ad j13_0 a0 r15 hr15) iw_X9_isColumn wk_1238 rfl rfl ⟨rfl, rfl, Nat.le_of_ble_eq_true rfl, Nat.le_of_ble_eq_true rfl⟩ ⟨Nat.le_of_ble_eq_true rfl, Nat.le_of_ble_eq_true rfl⟩ rfl rfl (Nat.le_of_ble_eq_true rfl) (mcells_fst _ _ _ _) dX9_cost_15 ?_
    refine (show V p l e (k2_rm 2 46) s m args below meth c (inW (mcells g ad w)) (EN below args s g (mcells g ad w) (mcells g ad rr.2) (some (.int rr.1))) g 2 (mcells g ad j13_0) 0 0 18 [(0, .ref (ad 0)), (1, .int a0)] [.int r15, .int j13_1, .ref (ad 0)] from ?_)
    refine v_if_ne hG 25 dX9_cost_18 rfl hf (fun hf => ?_) (fun hf => ?_)
    · refine v_iconst hG (v := 0) (by decide) dX9_cost_25 ?_
      exact j26 j13_0 j13_1 0 hf
    · refine v_iconst hG (v := 1) (by decide) dX9_cost_21 ?_
      refine v_goto hG 26 dX9_cost_22 rfl ?_
      exact j26 j13_0 j13_1 1 hf
  refine v_aload_n hG 0 rfl rfl dX9_cost_0 ?_
  refine v_aload_n hG 0 rfl rfl dX9_cost_1 ?_
  refine m_g_0_9 hG wk_1075 dX9_cost_2 ?_
  refine v_if_ne hG 12 dX9_cost_5 rfl hf (fun hf => ?_) (fun hf => ?_)
  · refine v_iconst hG (v := 0) (by decide) dX9_cost_12 ?_
    exact j13 w 0 hf
  · refine v_iconst hG (v := 1) (by decide) dX9_cost_8 ?_
    refine v_goto hG 13 dX9_cost_9 rfl ?_
    exact j13 w 1 hf
def X9_kind_J26 (a0 : Int32) (j26_0 : MW) (j26_1 : Int32) (j26_2 : Int32) : Option (Int32 × MW) := ((X9_passes j26_0 j26_1 j26_2).bind (fun r26 : Int32 × MW => (if r26.1 = 0 then (some (0, r26.2)) else (if inR a0 12 = true then (if ((gM_gone r26.2) a0.toNatClampNeg) = 0 then (if inR a0 12 = true then (some (((gM_kind r26.2) a0.toNatClampNeg), r26.2)) else none) else (some ((-1), r26.2))) else none))))
def X9_kind_J13 (a0 : Int32) (j13_0 : MW) (j13_1 : Int32) : Option (Int32 × MW) := ((X9_isRow j13_0 a0).bind (fun r15 : Int32 => (if r15 = 0 then (X9_kind_J26 a0 j13_0 j13_1 1) else (X9_kind_J26 a0 j13_0 j13_1 0))))
def X9_kind (w : MW) (a0 : Int32) : Option (Int32 × MW) := (if (gM_isSmall w) = 0 then (X9_kind_J13 a0 w 1) else (X9_kind_J13 a0 w 0))
set_option maxRecDepth 100000 in
set_option maxHeartbeats 4000000 in
theorem ct_X9_kind (l : Launch) (g : wG) (ad : Nat → Nat) (w : MW) (a0 : Int32) (rr : Int32 × MW) (hf : X9_kind w a0 = some rr) : MetN l g yX9_kind cX9_kind 2 (some .int) (k2_rm 2 46) [.ref (ad 0), .int a0] (mcells g ad w) (mcells g ad rr.2) (some (.int rr.1)) := by
  refine MetN.of2 [(0, .ref (ad 0)), (1, .int a0)] rfl (by decide +kernel) (Nat.le_of_ble_eq_true rfl) ?_
  intro p e s m args below meth c hG hr
  unfold X9_kind at hf
  have j26 : ∀ (j26_0 : MW) (j26_1 : Int32) (j26_2 : Int32), X9_kind_J26 a0 j26_0 j26_1 j26_2 = some rr → V p l e (k2_rm 2 46) s m args below meth c (inW (mcells g ad w)) (EN below args s g (mcells g ad w) (mcells g ad rr.2) (some (.int rr.1))) g 2 (mcells g ad j26_0) 0 0 26 [(0, .ref (ad 0)), (1, .int a0)] [.int j26_2, .int j26_1, .ref (ad 0)] := by
    intro j26_0 j26_1 j26_2 hf
    unfold X9_kind_J26 at hf
    obtain ⟨r26, hr26, hf⟩ := bd_some hf
    refine v_callV hG (st := []) 0 9 (ct_X9_passes l g ad j26_0 j26_1 j26_2 r26 hr26) iw_X9_passes wk_1212 rfl rfl ⟨rfl, rfl, Nat.le_of_ble_eq_true rfl, Nat.le_of_ble_eq_true rfl⟩ ⟨Nat.le_of_ble_eq_true rfl, Nat.le_of_ble_eq_true rfl⟩ rfl rfl (Nat.le_of_ble_eq_true rfl) (mcells_fst _ _ _ _) dX9_kind_26 ?_
    refine (show V p l e (k2_rm 2 46) s m args below meth c (inW (mcells g ad w)) (EN below args s g (mcells g ad w) (mcells g ad rr.2) (some (.int rr.1))) g 2 (mcells g ad r26.2) 0 0 29 [(0, .ref (ad 0)), (1, .int a0)] [.int r26.1] from ?_)
    refine v_if_ne hG 36 dX9_kind_29 rfl hf (fun hf => ?_) (fun hf => ?_)
    · refine v_aload_n hG 0 rfl rfl dX9_kind_36 ?_
      refine m_g_0_17 hG wk_1083 dX9_kind_37 ?_
      refine v_iload_n hG 1 rfl rfl dX9_kind_40 ?_
      refine m_l_14 hG dX9_kind_41 hf (fun hf => ?_)
      refine v_if_eq hG 49 dX9_kind_42 rfl hf (fun hf => ?_) (fun hf => ?_)
      · refine v_aload_n hG 0 rfl rfl dX9_kind_49 ?_
        refine m_g_0_16 hG wk_1082 dX9_kind_50 ?_
        refine v_iload_n hG 1 rfl rfl dX9_kind_53 ?_
        refine m_l_13 hG dX9_kind_54 hf (fun hf => ?_)
        cases hf
        exact v_iret hG hr dX9_kind_55
      · refine v_iconst hG (v := -1) (by decide) dX9_kind_45 ?_
        refine v_goto hG 55 dX9_kind_46 rfl ?_
        cases hf
        exact v_iret hG hr dX9_kind_55
    · refine v_iconst hG (v := 0) (by decide) dX9_kind_32 ?_
      refine v_goto hG 55 dX9_kind_33 rfl ?_
      cases hf
      exact v_iret hG hr dX9_kind_55
  have j13 : ∀ (j13_0 : MW) (j13_1 : Int32), X9_kind_J13 a0 j13_0 j13_1 = some rr → V p l e (k2_rm 2 46) s m args below meth c (inW (mcells g ad w)) (EN below args s g (mcells g ad w) (mcells g ad rr.2) (some (.int rr.1))) g 2 (mcells g ad j13_0) 0 0 13 [(0, .ref (ad 0)), (1, .int a0)] [.int j13_1, .ref (ad 0)] := by
    intro j13_0 j13_1 hf
    unfold X9_kind_J13 at hf
    refine v_aload_n hG 0 rfl rfl dX9_kind_13 ?_
    refine v_iload_n hG 1 rfl rfl dX9_kind_14 ?_
    obtain ⟨r15, hr15, hf⟩ := bd_some hf
    refine v_callV hG (st := [.int j13_1, .ref (ad 0)]) 0 9 (ct_X9_isRow l g ad j13_0 a0 r15 hr15) iw_X9_isRow wk_1234 rfl rfl ⟨rfl, rfl, Nat.le_of_ble_eq_true rfl, Nat.le_of_ble_eq_true rfl⟩ ⟨Nat.le_of_ble_eq_true rfl, Nat.le_of_ble_eq_true rfl⟩ rfl rfl (Nat.le_of_ble_eq_true rfl) (mcells_fst _ _ _ _) dX9_kind_15 ?_
    refine (show V p l e (k2_rm 2 46) s m args below meth c (inW (mcells g ad w)) (EN below args s g (mcells g ad w) (mcells g ad rr.2) (some (.int rr.1))) g 2 (mcells g ad j13_0) 0 0 18 [(0, .ref (ad 0)), (1, .int a0)] [.int r15, .int j13_1, .ref (ad 0)] from ?_)
    refine v_if_ne hG 25 dX9_kind_18 rfl hf (fun hf => ?_) (fun hf => ?_)
    · refine v_iconst hG (v := 0) (by decide) dX9_kind_25 ?_
      exact j26 j13_0 j13_1 0 hf
    · refine v_iconst hG (v := 1) (by decide) dX9_kind_21 ?_
      refine v_goto hG 26 dX9_kind_22 rfl ?_
      exact j26 j13_0 j13_1 1 hf
  refine v_aload_n hG 0 rfl rfl dX9_kind_0 ?_
  refine v_aload_n hG 0 rfl rfl dX9_kind_1 ?_
  refine m_g_0_9 hG wk_1075 dX9_kind_2 ?_
  refine v_if_ne hG 12 dX9_kind_5 rfl hf (fun hf => ?_) (fun hf => ?_)
  · refine v_iconst hG (v := 0) (by decide) dX9_kind_12 ?_
    exact j13 w 0 hf
  · refine v_iconst hG (v := 1) (by decide) dX9_kind_8 ?_
    refine v_goto hG 13 dX9_kind_9 rfl ?_
    exact j13 w 1 hf
def X9_right_J26 (a0 : Int32) (j26_0 : MW) (j26_1 : Int32) (j26_2 : Int32) : Option (Int64 × MW) := ((X9_passes j26_0 j26_1 j26_2).bind (fun r26 : Int32 × MW => (if r26.1 = 0 then (some (0, r26.2)) else (if inR a0 12 = true then (some (((gM_right r26.2) a0.toNatClampNeg), r26.2)) else none))))
def X9_right_J13 (a0 : Int32) (j13_0 : MW) (j13_1 : Int32) : Option (Int64 × MW) := ((X9_isRow j13_0 a0).bind (fun r15 : Int32 => (if r15 = 0 then (X9_right_J26 a0 j13_0 j13_1 1) else (X9_right_J26 a0 j13_0 j13_1 0))))
def X9_right (w : MW) (a0 : Int32) : Option (Int64 × MW) := (if (gM_isSmall w) = 0 then (X9_right_J13 a0 w 1) else (X9_right_J13 a0 w 0))
set_option maxRecDepth 100000 in
set_option maxHeartbeats 4000000 in
theorem ct_X9_right (l : Launch) (g : wG) (ad : Nat → Nat) (w : MW) (a0 : Int32) (rr : Int64 × MW) (hf : X9_right w a0 = some rr) : MetN l g yX9_right cX9_right 2 (some .long) (k2_rm 2 46) [.ref (ad 0), .int a0] (mcells g ad w) (mcells g ad rr.2) (some (.long rr.1)) := by
  refine MetN.of2 [(0, .ref (ad 0)), (1, .int a0)] rfl (by decide +kernel) (Nat.le_of_ble_eq_true rfl) ?_
  intro p e s m args below meth c hG hr
  unfold X9_right at hf
  have j26 : ∀ (j26_0 : MW) (j26_1 : Int32) (j26_2 : Int32), X9_right_J26 a0 j26_0 j26_1 j26_2 = some rr → V p l e (k2_rm 2 46) s m args below meth c (inW (mcells g ad w)) (EN below args s g (mcells g ad w) (mcells g ad rr.2) (some (.long rr.1))) g 2 (mcells g ad j26_0) 0 0 26 [(0, .ref (ad 0)), (1, .int a0)] [.int j26_2, .int j26_1, .ref (ad 0)] := by
    intro j26_0 j26_1 j26_2 hf
    unfold X9_right_J26 at hf
    obtain ⟨r26, hr26, hf⟩ := bd_some hf
    refine v_callV hG (st := []) 0 9 (ct_X9_passes l g ad j26_0 j26_1 j26_2 r26 hr26) iw_X9_passes wk_1212 rfl rfl ⟨rfl, rfl, Nat.le_of_ble_eq_true rfl, Nat.le_of_ble_eq_true rfl⟩ ⟨Nat.le_of_ble_eq_true rfl, Nat.le_of_ble_eq_true rfl⟩ rfl rfl (Nat.le_of_ble_eq_true rfl) (mcells_fst _ _ _ _) dX9_right_26 ?_
    refine (show V p l e (k2_rm 2 46) s m args below meth c (inW (mcells g ad w)) (EN below args s g (mcells g ad w) (mcells g ad rr.2) (some (.long rr.1))) g 2 (mcells g ad r26.2) 0 0 29 [(0, .ref (ad 0)), (1, .int a0)] [.int r26.1] from ?_)
    refine v_if_eq hG 41 dX9_right_29 rfl hf (fun hf => ?_) (fun hf => ?_)
    · refine v_lconst hG (v := 0) (by decide) dX9_right_41 ?_
      cases hf
      exact v_lret hG hr dX9_right_42
    · refine v_aload_n hG 0 rfl rfl dX9_right_32 ?_
      refine m_g_0_18 hG wk_1084 dX9_right_33 ?_
      refine v_iload_n hG 1 rfl rfl dX9_right_36 ?_
      refine m_l_15 hG dX9_right_37 hf (fun hf => ?_)
      refine v_goto hG 42 dX9_right_38 rfl ?_
      cases hf
      exact v_lret hG hr dX9_right_42
  have j13 : ∀ (j13_0 : MW) (j13_1 : Int32), X9_right_J13 a0 j13_0 j13_1 = some rr → V p l e (k2_rm 2 46) s m args below meth c (inW (mcells g ad w)) (EN below args s g (mcells g ad w) (mcells g ad rr.2) (some (.long rr.1))) g 2 (mcells g ad j13_0) 0 0 13 [(0, .ref (ad 0)), (1, .int a0)] [.int j13_1, .ref (ad 0)] := by
    intro j13_0 j13_1 hf
    unfold X9_right_J13 at hf
    refine v_aload_n hG 0 rfl rfl dX9_right_13 ?_
    refine v_iload_n hG 1 rfl rfl dX9_right_14 ?_
    obtain ⟨r15, hr15, hf⟩ := bd_some hf
    refine v_callV hG (st := [.int j13_1, .ref (ad 0)]) 0 9 (ct_X9_isRow l g ad j13_0 a0 r15 hr15) iw_X9_isRow wk_1234 rfl rfl ⟨rfl, rfl, Nat.le_of_ble_eq_true rfl, Nat.le_of_ble_eq_true rfl⟩ ⟨Nat.le_of_ble_eq_true rfl, Nat.le_of_ble_eq_true rfl⟩ rfl rfl (Nat.le_of_ble_eq_true rfl) (mcells_fst _ _ _ _) dX9_right_15 ?_
    refine (show V p l e (k2_rm 2 46) s m args below meth c (inW (mcells g ad w)) (EN below args s g (mcells g ad w) (mcells g ad rr.2) (some (.long rr.1))) g 2 (mcells g ad j13_0) 0 0 18 [(0, .ref (ad 0)), (1, .int a0)] [.int r15, .int j13_1, .ref (ad 0)] from ?_)
    refine v_if_ne hG 25 dX9_right_18 rfl hf (fun hf => ?_) (fun hf => ?_)
    · refine v_iconst hG (v := 0) (by decide) dX9_right_25 ?_
      exact j26 j13_0 j13_1 0 hf
    · refine v_iconst hG (v := 1) (by decide) dX9_right_21 ?_
      refine v_goto hG 26 dX9_right_22 rfl ?_
      exact j26 j13_0 j13_1 1 hf
  refine v_aload_n hG 0 rfl rfl dX9_right_0 ?_
  refine v_aload_n hG 0 rfl rfl dX9_right_1 ?_
  refine m_g_0_9 hG wk_1075 dX9_right_2 ?_
  refine v_if_ne hG 12 dX9_right_5 rfl hf (fun hf => ?_) (fun hf => ?_)
  · refine v_iconst hG (v := 0) (by decide) dX9_right_12 ?_
    exact j13 w 0 hf
  · refine v_iconst hG (v := 1) (by decide) dX9_right_8 ?_
    refine v_goto hG 13 dX9_right_9 rfl ?_
    exact j13 w 1 hf
def X9_coefficient_J34 (a0 : Int32) (a1 : Int32) (j34_0 : MW) (j34_1 : Int32) (j34_2 : Int32) : Option (Int32 × MW) := ((X9_passes j34_0 j34_1 j34_2).bind (fun r34 : Int32 × MW => (if r34.1 = 0 then (some (0, r34.2)) else (if inR a0 12 = true then (if ((gM_gone r34.2) a0.toNatClampNeg) = 0 then ((X9_isTerm r34.2 a0 a1).bind (fun r52 : Int32 => (if r52 = 0 then (some (0, r34.2)) else (if inR ((12 * a0) + a1) 144 = true then (some (((gM_coef r34.2) ((12 * a0) + a1).toNatClampNeg).toInt32, r34.2)) else none)))) else (some (0, r34.2))) else none))))
def X9_coefficient_J29 (a0 : Int32) (a1 : Int32) (j29_0 : MW) (j29_1 : Int32) : Option (Int32 × MW) := (X9_coefficient_J34 a0 a1 j29_0 j29_1 1)
def X9_coefficient_J13 (a0 : Int32) (a1 : Int32) (j13_0 : MW) (j13_1 : Int32) : Option (Int32 × MW) := ((X9_isRow j13_0 a0).bind (fun r15 : Int32 => (if r15 = 0 then (X9_coefficient_J29 a0 a1 j13_0 j13_1) else ((X9_isColumn j13_0 a1).bind (fun r23 : Int32 => (if r23 = 0 then (X9_coefficient_J29 a0 a1 j13_0 j13_1) else (X9_coefficient_J34 a0 a1 j13_0 j13_1 0)))))))
def X9_coefficient (w : MW) (a0 : Int32) (a1 : Int32) : Option (Int32 × MW) := (if (gM_isSmall w) = 0 then (X9_coefficient_J13 a0 a1 w 1) else (X9_coefficient_J13 a0 a1 w 0))
set_option maxRecDepth 100000 in
set_option maxHeartbeats 4000000 in
theorem ct_X9_coefficient (l : Launch) (g : wG) (ad : Nat → Nat) (w : MW) (a0 : Int32) (a1 : Int32) (rr : Int32 × MW) (hf : X9_coefficient w a0 a1 = some rr) : MetN l g yX9_coefficient cX9_coefficient 3 (some .int) (k2_rm 2 46) [.ref (ad 0), .int a0, .int a1] (mcells g ad w) (mcells g ad rr.2) (some (.int rr.1)) := by
  refine MetN.of2 [(0, .ref (ad 0)), (1, .int a0), (2, .int a1)] rfl (by decide +kernel) (Nat.le_of_ble_eq_true rfl) ?_
  intro p e s m args below meth c hG hr
  unfold X9_coefficient at hf
  have j34 : ∀ (j34_0 : MW) (j34_1 : Int32) (j34_2 : Int32), X9_coefficient_J34 a0 a1 j34_0 j34_1 j34_2 = some rr → V p l e (k2_rm 2 46) s m args below meth c (inW (mcells g ad w)) (EN below args s g (mcells g ad w) (mcells g ad rr.2) (some (.int rr.1))) g 3 (mcells g ad j34_0) 0 0 34 [(0, .ref (ad 0)), (1, .int a0), (2, .int a1)] [.int j34_2, .int j34_1, .ref (ad 0)] := by
    intro j34_0 j34_1 j34_2 hf
    unfold X9_coefficient_J34 at hf
    obtain ⟨r34, hr34, hf⟩ := bd_some hf
    refine v_callV hG (st := []) 0 9 (ct_X9_passes l g ad j34_0 j34_1 j34_2 r34 hr34) iw_X9_passes wk_1212 rfl rfl ⟨rfl, rfl, Nat.le_of_ble_eq_true rfl, Nat.le_of_ble_eq_true rfl⟩ ⟨Nat.le_of_ble_eq_true rfl, Nat.le_of_ble_eq_true rfl⟩ rfl rfl (Nat.le_of_ble_eq_true rfl) (mcells_fst _ _ _ _) dX9_coefficient_34 ?_
    refine (show V p l e (k2_rm 2 46) s m args below meth c (inW (mcells g ad w)) (EN below args s g (mcells g ad w) (mcells g ad rr.2) (some (.int rr.1))) g 3 (mcells g ad r34.2) 0 0 37 [(0, .ref (ad 0)), (1, .int a0), (2, .int a1)] [.int r34.1] from ?_)
    refine v_if_eq hG 73 dX9_coefficient_37 rfl hf (fun hf => ?_) (fun hf => ?_)
    · refine v_iconst hG (v := 0) (by decide) dX9_coefficient_73 ?_
      cases hf
      exact v_iret hG hr dX9_coefficient_74
    · refine v_aload_n hG 0 rfl rfl dX9_coefficient_40 ?_
      refine m_g_0_17 hG wk_1083 dX9_coefficient_41 ?_
      refine v_iload_n hG 1 rfl rfl dX9_coefficient_44 ?_
      refine m_l_14 hG dX9_coefficient_45 hf (fun hf => ?_)
      refine v_if_ne hG 73 dX9_coefficient_46 rfl hf (fun hf => ?_) (fun hf => ?_)
      · refine v_iconst hG (v := 0) (by decide) dX9_coefficient_73 ?_
        cases hf
        exact v_iret hG hr dX9_coefficient_74
      · refine v_aload_n hG 0 rfl rfl dX9_coefficient_49 ?_
        refine v_iload_n hG 1 rfl rfl dX9_coefficient_50 ?_
        refine v_iload_n hG 2 rfl rfl dX9_coefficient_51 ?_
        obtain ⟨r52, hr52, hf⟩ := bd_some hf
        refine v_callV hG (st := []) 0 9 (ct_X9_isTerm l g ad r34.2 a0 a1 r52 hr52) iw_X9_isTerm wk_1276 rfl rfl ⟨rfl, rfl, Nat.le_of_ble_eq_true rfl, Nat.le_of_ble_eq_true rfl⟩ ⟨Nat.le_of_ble_eq_true rfl, Nat.le_of_ble_eq_true rfl⟩ rfl rfl (Nat.le_of_ble_eq_true rfl) (mcells_fst _ _ _ _) dX9_coefficient_52 ?_
        refine (show V p l e (k2_rm 2 46) s m args below meth c (inW (mcells g ad w)) (EN below args s g (mcells g ad w) (mcells g ad rr.2) (some (.int rr.1))) g 3 (mcells g ad r34.2) 0 0 55 [(0, .ref (ad 0)), (1, .int a0), (2, .int a1)] [.int r52] from ?_)
        refine v_if_eq hG 73 dX9_coefficient_55 rfl hf (fun hf => ?_) (fun hf => ?_)
        · refine v_iconst hG (v := 0) (by decide) dX9_coefficient_73 ?_
          cases hf
          exact v_iret hG hr dX9_coefficient_74
        · refine v_aload_n hG 0 rfl rfl dX9_coefficient_58 ?_
          refine m_g_0_20 hG wk_1086 dX9_coefficient_59 ?_
          refine v_bipush hG (v := 12) (by decide) dX9_coefficient_62 ?_
          refine v_iload_n hG 1 rfl rfl dX9_coefficient_64 ?_
          refine v_imul hG dX9_coefficient_65 ?_
          refine v_iload_n hG 2 rfl rfl dX9_coefficient_66 ?_
          refine v_iadd hG dX9_coefficient_67 ?_
          refine m_l_17 hG dX9_coefficient_68 hf (fun hf => ?_)
          refine v_l2i hG dX9_coefficient_69 ?_
          refine v_goto hG 74 dX9_coefficient_70 rfl ?_
          cases hf
          exact v_iret hG hr dX9_coefficient_74
  have j29 : ∀ (j29_0 : MW) (j29_1 : Int32), X9_coefficient_J29 a0 a1 j29_0 j29_1 = some rr → V p l e (k2_rm 2 46) s m args below meth c (inW (mcells g ad w)) (EN below args s g (mcells g ad w) (mcells g ad rr.2) (some (.int rr.1))) g 3 (mcells g ad j29_0) 0 0 29 [(0, .ref (ad 0)), (1, .int a0), (2, .int a1)] [.int j29_1, .ref (ad 0)] := by
    intro j29_0 j29_1 hf
    unfold X9_coefficient_J29 at hf
    refine v_iconst hG (v := 1) (by decide) dX9_coefficient_29 ?_
    refine v_goto hG 34 dX9_coefficient_30 rfl ?_
    exact j34 j29_0 j29_1 1 hf
  have j13 : ∀ (j13_0 : MW) (j13_1 : Int32), X9_coefficient_J13 a0 a1 j13_0 j13_1 = some rr → V p l e (k2_rm 2 46) s m args below meth c (inW (mcells g ad w)) (EN below args s g (mcells g ad w) (mcells g ad rr.2) (some (.int rr.1))) g 3 (mcells g ad j13_0) 0 0 13 [(0, .ref (ad 0)), (1, .int a0), (2, .int a1)] [.int j13_1, .ref (ad 0)] := by
    intro j13_0 j13_1 hf
    unfold X9_coefficient_J13 at hf
    refine v_aload_n hG 0 rfl rfl dX9_coefficient_13 ?_
    refine v_iload_n hG 1 rfl rfl dX9_coefficient_14 ?_
    obtain ⟨r15, hr15, hf⟩ := bd_some hf
    refine v_callV hG (st := [.int j13_1, .ref (ad 0)]) 0 9 (ct_X9_isRow l g ad j13_0 a0 r15 hr15) iw_X9_isRow wk_1234 rfl rfl ⟨rfl, rfl, Nat.le_of_ble_eq_true rfl, Nat.le_of_ble_eq_true rfl⟩ ⟨Nat.le_of_ble_eq_true rfl, Nat.le_of_ble_eq_true rfl⟩ rfl rfl (Nat.le_of_ble_eq_true rfl) (mcells_fst _ _ _ _) dX9_coefficient_15 ?_
    refine (show V p l e (k2_rm 2 46) s m args below meth c (inW (mcells g ad w)) (EN below args s g (mcells g ad w) (mcells g ad rr.2) (some (.int rr.1))) g 3 (mcells g ad j13_0) 0 0 18 [(0, .ref (ad 0)), (1, .int a0), (2, .int a1)] [.int r15, .int j13_1, .ref (ad 0)] from ?_)
    refine v_if_eq hG 29 dX9_coefficient_18 rfl hf (fun hf => ?_) (fun hf => ?_)
    · exact j29 j13_0 j13_1 hf
    · refine v_aload_n hG 0 rfl rfl dX9_coefficient_21 ?_
      refine v_iload_n hG 2 rfl rfl dX9_coefficient_22 ?_
      obtain ⟨r23, hr23, hf⟩ := bd_some hf
      refine v_callV hG (st := [.int j13_1, .ref (ad 0)]) 0 9 (ct_X9_isColumn l g ad j13_0 a1 r23 hr23) iw_X9_isColumn wk_1238 rfl rfl ⟨rfl, rfl, Nat.le_of_ble_eq_true rfl, Nat.le_of_ble_eq_true rfl⟩ ⟨Nat.le_of_ble_eq_true rfl, Nat.le_of_ble_eq_true rfl⟩ rfl rfl (Nat.le_of_ble_eq_true rfl) (mcells_fst _ _ _ _) dX9_coefficient_23 ?_
      refine (show V p l e (k2_rm 2 46) s m args below meth c (inW (mcells g ad w)) (EN below args s g (mcells g ad w) (mcells g ad rr.2) (some (.int rr.1))) g 3 (mcells g ad j13_0) 0 0 26 [(0, .ref (ad 0)), (1, .int a0), (2, .int a1)] [.int r23, .int j13_1, .ref (ad 0)] from ?_)
      refine v_if_ne hG 33 dX9_coefficient_26 rfl hf (fun hf => ?_) (fun hf => ?_)
      · refine v_iconst hG (v := 0) (by decide) dX9_coefficient_33 ?_
        exact j34 j13_0 j13_1 0 hf
      · exact j29 j13_0 j13_1 hf
  refine v_aload_n hG 0 rfl rfl dX9_coefficient_0 ?_
  refine v_aload_n hG 0 rfl rfl dX9_coefficient_1 ?_
  refine m_g_0_9 hG wk_1075 dX9_coefficient_2 ?_
  refine v_if_ne hG 12 dX9_coefficient_5 rfl hf (fun hf => ?_) (fun hf => ?_)
  · refine v_iconst hG (v := 0) (by decide) dX9_coefficient_12 ?_
    exact j13 w 0 hf
  · refine v_iconst hG (v := 1) (by decide) dX9_coefficient_8 ?_
    refine v_goto hG 13 dX9_coefficient_9 rfl ?_
    exact j13 w 1 hf
def X9_offset_J13  (j13_0 : MW) (j13_1 : Int32) : Option (Int64 × MW) := ((X9_passes j13_0 j13_1 0).bind (fun r14 : Int32 × MW => (if r14.1 = 0 then (some (0, r14.2)) else (some ((gM_offset r14.2), r14.2)))))
def X9_offset (w : MW) : Option (Int64 × MW) := (if (gM_isSmall w) = 0 then (X9_offset_J13 w 1) else (X9_offset_J13 w 0))
set_option maxRecDepth 100000 in
set_option maxHeartbeats 4000000 in
theorem ct_X9_offset (l : Launch) (g : wG) (ad : Nat → Nat) (w : MW)  (rr : Int64 × MW) (hf : X9_offset w = some rr) : MetN l g yX9_offset cX9_offset 1 (some .long) (k2_rm 1 22) [.ref (ad 0)] (mcells g ad w) (mcells g ad rr.2) (some (.long rr.1)) := by
  refine MetN.of2 [(0, .ref (ad 0))] rfl (by decide +kernel) (Nat.le_of_ble_eq_true rfl) ?_
  intro p e s m args below meth c hG hr
  unfold X9_offset at hf
  have j13 : ∀ (j13_0 : MW) (j13_1 : Int32), X9_offset_J13 j13_0 j13_1 = some rr → V p l e (k2_rm 1 22) s m args below meth c (inW (mcells g ad w)) (EN below args s g (mcells g ad w) (mcells g ad rr.2) (some (.long rr.1))) g 1 (mcells g ad j13_0) 0 0 13 [(0, .ref (ad 0))] [.int j13_1, .ref (ad 0)] := by
    intro j13_0 j13_1 hf
    unfold X9_offset_J13 at hf
    refine v_iconst hG (v := 0) (by decide) dX9_offset_13 ?_
    obtain ⟨r14, hr14, hf⟩ := bd_some hf
    refine v_callV hG (st := []) 0 9 (ct_X9_passes l g ad j13_0 j13_1 0 r14 hr14) iw_X9_passes wk_1212 rfl rfl ⟨rfl, rfl, Nat.le_of_ble_eq_true rfl, Nat.le_of_ble_eq_true rfl⟩ ⟨Nat.le_of_ble_eq_true rfl, Nat.le_of_ble_eq_true rfl⟩ rfl rfl (Nat.le_of_ble_eq_true rfl) (mcells_fst _ _ _ _) dX9_offset_14 ?_
    refine (show V p l e (k2_rm 1 22) s m args below meth c (inW (mcells g ad w)) (EN below args s g (mcells g ad w) (mcells g ad rr.2) (some (.long rr.1))) g 1 (mcells g ad r14.2) 0 0 17 [(0, .ref (ad 0))] [.int r14.1] from ?_)
    refine v_if_eq hG 27 dX9_offset_17 rfl hf (fun hf => ?_) (fun hf => ?_)
    · refine v_lconst hG (v := 0) (by decide) dX9_offset_27 ?_
      cases hf
      exact v_lret hG hr dX9_offset_28
    · refine v_aload_n hG 0 rfl rfl dX9_offset_20 ?_
      refine m_g_0_21 hG wk_1087 dX9_offset_21 ?_
      refine v_goto hG 28 dX9_offset_24 rfl ?_
      cases hf
      exact v_lret hG hr dX9_offset_28
  refine v_aload_n hG 0 rfl rfl dX9_offset_0 ?_
  refine v_aload_n hG 0 rfl rfl dX9_offset_1 ?_
  refine m_g_0_9 hG wk_1075 dX9_offset_2 ?_
  refine v_if_ne hG 12 dX9_offset_5 rfl hf (fun hf => ?_) (fun hf => ?_)
  · refine v_iconst hG (v := 0) (by decide) dX9_offset_12 ?_
    exact j13 w 0 hf
  · refine v_iconst hG (v := 1) (by decide) dX9_offset_8 ?_
    refine v_goto hG 13 dX9_offset_9 rfl ?_
    exact j13 w 1 hf
def X9_rest_J63 (a0 : Int32) (a1 : Int32) (j63_0 : MW) (j63_1 : Int32) (j63_2 : Int32) (j63_3 : Int32) : Option (Int32 × MW) := ((X9_passes3 j63_0 j63_1 j63_2 j63_3).bind (fun r63 : Int32 × MW => (if r63.1 = 0 then (some (0, r63.2)) else (if a0 = 0 then (if inR a1 12 = true then (some (((gM_rest r63.2) a1.toNatClampNeg), r63.2)) else none) else (if a0 = 1 then (if inR a1 12 = true then (some (((gM_lowRest r63.2) a1.toNatClampNeg), r63.2)) else none) else (if inR a1 12 = true then (some (((gM_highRest r63.2) a1.toNatClampNeg), r63.2)) else none))))))
def X9_rest_J30 (a0 : Int32) (a1 : Int32) (j30_0 : MW) (j30_1 : Int32) (j30_2 : Int32) : Option (Int32 × MW) := (if a0 = 0 then ((X9_isRow j30_0 a1).bind (fun r36 : Int32 => (if r36 = 0 then (X9_rest_J63 a0 a1 j30_0 j30_1 j30_2 1) else (X9_rest_J63 a0 a1 j30_0 j30_1 j30_2 0)))) else ((X9_isColumn j30_0 a1).bind (fun r52 : Int32 => (if r52 = 0 then (X9_rest_J63 a0 a1 j30_0 j30_1 j30_2 1) else (X9_rest_J63 a0 a1 j30_0 j30_1 j30_2 0)))))
def X9_rest_J13 (a0 : Int32) (a1 : Int32) (j13_0 : MW) (j13_1 : Int32) : Option (Int32 × MW) := ((X9_within a0.toInt64 0 2).bind (fun r19 : Int32 => (if r19 = 0 then (X9_rest_J30 a0 a1 j13_0 j13_1 1) else (X9_rest_J30 a0 a1 j13_0 j13_1 0))))
def X9_rest (w : MW) (a0 : Int32) (a1 : Int32) : Option (Int32 × MW) := (if (gM_isSmall w) = 0 then (X9_rest_J13 a0 a1 w 1) else (X9_rest_J13 a0 a1 w 0))
set_option maxRecDepth 100000 in
set_option maxHeartbeats 4000000 in
theorem ct_X9_rest (l : Launch) (g : wG) (ad : Nat → Nat) (w : MW) (a0 : Int32) (a1 : Int32) (rr : Int32 × MW) (hf : X9_rest w a0 a1 = some rr) : MetN l g yX9_rest cX9_rest 3 (some .int) (k2_rm 2 46) [.ref (ad 0), .int a0, .int a1] (mcells g ad w) (mcells g ad rr.2) (some (.int rr.1)) := by
  refine MetN.of2 [(0, .ref (ad 0)), (1, .int a0), (2, .int a1)] rfl (by decide +kernel) (Nat.le_of_ble_eq_true rfl) ?_
  intro p e s m args below meth c hG hr
  unfold X9_rest at hf
  have j63 : ∀ (j63_0 : MW) (j63_1 : Int32) (j63_2 : Int32) (j63_3 : Int32), X9_rest_J63 a0 a1 j63_0 j63_1 j63_2 j63_3 = some rr → V p l e (k2_rm 2 46) s m args below meth c (inW (mcells g ad w)) (EN below args s g (mcells g ad w) (mcells g ad rr.2) (some (.int rr.1))) g 3 (mcells g ad j63_0) 0 0 63 [(0, .ref (ad 0)), (1, .int a0), (2, .int a1)] [.int j63_3, .int j63_2, .int j63_1, .ref (ad 0)] := by
    intro j63_0 j63_1 j63_2 j63_3 hf
    unfold X9_rest_J63 at hf
    obtain ⟨r63, hr63, hf⟩ := bd_some hf
    refine v_callV hG (st := []) 0 9 (ct_X9_passes3 l g ad j63_0 j63_1 j63_2 j63_3 r63 hr63) iw_X9_passes3 wk_1429 rfl rfl ⟨rfl, rfl, Nat.le_of_ble_eq_true rfl, Nat.le_of_ble_eq_true rfl⟩ ⟨Nat.le_of_ble_eq_true rfl, Nat.le_of_ble_eq_true rfl⟩ rfl rfl (Nat.le_of_ble_eq_true rfl) (mcells_fst _ _ _ _) dX9_rest_63 ?_
    refine (show V p l e (k2_rm 2 46) s m args below meth c (inW (mcells g ad w)) (EN below args s g (mcells g ad w) (mcells g ad rr.2) (some (.int rr.1))) g 3 (mcells g ad r63.2) 0 0 66 [(0, .ref (ad 0)), (1, .int a0), (2, .int a1)] [.int r63.1] from ?_)
    refine v_if_ne hG 71 dX9_rest_66 rfl hf (fun hf => ?_) (fun hf => ?_)
    · refine v_iload_n hG 1 rfl rfl dX9_rest_71 ?_
      refine v_if_ne hG 84 dX9_rest_72 rfl hf (fun hf => ?_) (fun hf => ?_)
      · refine v_iload_n hG 1 rfl rfl dX9_rest_84 ?_
        refine v_iconst hG (v := 1) (by decide) dX9_rest_85 ?_
        refine v_icmp_ne hG 98 dX9_rest_86 rfl hf (fun hf => ?_) (fun hf => ?_)
        · refine v_aload_n hG 0 rfl rfl dX9_rest_98 ?_
          refine m_g_0_14 hG wk_1080 dX9_rest_99 ?_
          refine v_iload_n hG 2 rfl rfl dX9_rest_102 ?_
          refine m_l_11 hG dX9_rest_103 hf (fun hf => ?_)
          cases hf
          exact v_iret hG hr dX9_rest_104
        · refine v_aload_n hG 0 rfl rfl dX9_rest_89 ?_
          refine m_g_0_13 hG wk_1079 dX9_rest_90 ?_
          refine v_iload_n hG 2 rfl rfl dX9_rest_93 ?_
          refine m_l_10 hG dX9_rest_94 hf (fun hf => ?_)
          refine v_goto hG 104 dX9_rest_95 rfl ?_
          cases hf
          exact v_iret hG hr dX9_rest_104
      · refine v_aload_n hG 0 rfl rfl dX9_rest_75 ?_
        refine m_g_0_19 hG wk_1085 dX9_rest_76 ?_
        refine v_iload_n hG 2 rfl rfl dX9_rest_79 ?_
        refine m_l_16 hG dX9_rest_80 hf (fun hf => ?_)
        refine v_goto hG 104 dX9_rest_81 rfl ?_
        cases hf
        exact v_iret hG hr dX9_rest_104
    · refine v_iconst hG (v := 0) (by decide) dX9_rest_69 ?_
      cases hf
      exact v_iret hG hr dX9_rest_70
  have j30 : ∀ (j30_0 : MW) (j30_1 : Int32) (j30_2 : Int32), X9_rest_J30 a0 a1 j30_0 j30_1 j30_2 = some rr → V p l e (k2_rm 2 46) s m args below meth c (inW (mcells g ad w)) (EN below args s g (mcells g ad w) (mcells g ad rr.2) (some (.int rr.1))) g 3 (mcells g ad j30_0) 0 0 30 [(0, .ref (ad 0)), (1, .int a0), (2, .int a1)] [.int j30_2, .int j30_1, .ref (ad 0)] := by
    intro j30_0 j30_1 j30_2 hf
    unfold X9_rest_J30 at hf
    refine v_iload_n hG 1 rfl rfl dX9_rest_30 ?_
    refine v_if_ne hG 50 dX9_rest_31 rfl hf (fun hf => ?_) (fun hf => ?_)
    · refine v_aload_n hG 0 rfl rfl dX9_rest_50 ?_
      refine v_iload_n hG 2 rfl rfl dX9_rest_51 ?_
      obtain ⟨r52, hr52, hf⟩ := bd_some hf
      refine v_callV hG (st := [.int j30_2, .int j30_1, .ref (ad 0)]) 0 9 (ct_X9_isColumn l g ad j30_0 a1 r52 hr52) iw_X9_isColumn wk_1238 rfl rfl ⟨rfl, rfl, Nat.le_of_ble_eq_true rfl, Nat.le_of_ble_eq_true rfl⟩ ⟨Nat.le_of_ble_eq_true rfl, Nat.le_of_ble_eq_true rfl⟩ rfl rfl (Nat.le_of_ble_eq_true rfl) (mcells_fst _ _ _ _) dX9_rest_52 ?_
      refine (show V p l e (k2_rm 2 46) s m args below meth c (inW (mcells g ad w)) (EN below args s g (mcells g ad w) (mcells g ad rr.2) (some (.int rr.1))) g 3 (mcells g ad j30_0) 0 0 55 [(0, .ref (ad 0)), (1, .int a0), (2, .int a1)] [.int r52, .int j30_2, .int j30_1, .ref (ad 0)] from ?_)
      refine v_if_ne hG 62 dX9_rest_55 rfl hf (fun hf => ?_) (fun hf => ?_)
      · refine v_iconst hG (v := 0) (by decide) dX9_rest_62 ?_
        exact j63 j30_0 j30_1 j30_2 0 hf
      · refine v_iconst hG (v := 1) (by decide) dX9_rest_58 ?_
        refine v_goto hG 63 dX9_rest_59 rfl ?_
        exact j63 j30_0 j30_1 j30_2 1 hf
    · refine v_aload_n hG 0 rfl rfl dX9_rest_34 ?_
      refine v_iload_n hG 2 rfl rfl dX9_rest_35 ?_
      obtain ⟨r36, hr36, hf⟩ := bd_some hf
      refine v_callV hG (st := [.int j30_2, .int j30_1, .ref (ad 0)]) 0 9 (ct_X9_isRow l g ad j30_0 a1 r36 hr36) iw_X9_isRow wk_1234 rfl rfl ⟨rfl, rfl, Nat.le_of_ble_eq_true rfl, Nat.le_of_ble_eq_true rfl⟩ ⟨Nat.le_of_ble_eq_true rfl, Nat.le_of_ble_eq_true rfl⟩ rfl rfl (Nat.le_of_ble_eq_true rfl) (mcells_fst _ _ _ _) dX9_rest_36 ?_
      refine (show V p l e (k2_rm 2 46) s m args below meth c (inW (mcells g ad w)) (EN below args s g (mcells g ad w) (mcells g ad rr.2) (some (.int rr.1))) g 3 (mcells g ad j30_0) 0 0 39 [(0, .ref (ad 0)), (1, .int a0), (2, .int a1)] [.int r36, .int j30_2, .int j30_1, .ref (ad 0)] from ?_)
      refine v_if_ne hG 46 dX9_rest_39 rfl hf (fun hf => ?_) (fun hf => ?_)
      · refine v_iconst hG (v := 0) (by decide) dX9_rest_46 ?_
        refine v_goto hG 63 dX9_rest_47 rfl ?_
        exact j63 j30_0 j30_1 j30_2 0 hf
      · refine v_iconst hG (v := 1) (by decide) dX9_rest_42 ?_
        refine v_goto hG 63 dX9_rest_43 rfl ?_
        exact j63 j30_0 j30_1 j30_2 1 hf
  have j13 : ∀ (j13_0 : MW) (j13_1 : Int32), X9_rest_J13 a0 a1 j13_0 j13_1 = some rr → V p l e (k2_rm 2 46) s m args below meth c (inW (mcells g ad w)) (EN below args s g (mcells g ad w) (mcells g ad rr.2) (some (.int rr.1))) g 3 (mcells g ad j13_0) 0 0 13 [(0, .ref (ad 0)), (1, .int a0), (2, .int a1)] [.int j13_1, .ref (ad 0)] := by
    intro j13_0 j13_1 hf
    unfold X9_rest_J13 at hf
    refine v_iload_n hG 1 rfl rfl dX9_rest_13 ?_
    refine v_i2l hG dX9_rest_14 ?_
    refine v_lconst hG (v := 0) (by decide) dX9_rest_15 ?_
    refine v_ldc2 hG wk_1428 dX9_rest_16 ?_
    obtain ⟨r19, hr19, hf⟩ := bd_some hf
    refine v_callP hG (st := [.int j13_1, .ref (ad 0)]) (ct_X9_within l g a0.toInt64 0 2 r19 hr19) sw_X9_within wk_1207 ⟨rfl, rfl, Nat.le_of_ble_eq_true rfl, Nat.le_of_ble_eq_true rfl⟩ ⟨Nat.le_of_ble_eq_true rfl, Nat.le_of_ble_eq_true rfl⟩ rfl rfl (Nat.le_of_ble_eq_true rfl) dX9_rest_19 ?_
    refine (show V p l e (k2_rm 2 46) s m args below meth c (inW (mcells g ad w)) (EN below args s g (mcells g ad w) (mcells g ad rr.2) (some (.int rr.1))) g 3 (mcells g ad j13_0) 0 0 22 [(0, .ref (ad 0)), (1, .int a0), (2, .int a1)] [.int r19, .int j13_1, .ref (ad 0)] from ?_)
    refine v_if_ne hG 29 dX9_rest_22 rfl hf (fun hf => ?_) (fun hf => ?_)
    · refine v_iconst hG (v := 0) (by decide) dX9_rest_29 ?_
      exact j30 j13_0 j13_1 0 hf
    · refine v_iconst hG (v := 1) (by decide) dX9_rest_25 ?_
      refine v_goto hG 30 dX9_rest_26 rfl ?_
      exact j30 j13_0 j13_1 1 hf
  refine v_aload_n hG 0 rfl rfl dX9_rest_0 ?_
  refine v_aload_n hG 0 rfl rfl dX9_rest_1 ?_
  refine m_g_0_9 hG wk_1075 dX9_rest_2 ?_
  refine v_if_ne hG 12 dX9_rest_5 rfl hf (fun hf => ?_) (fun hf => ?_)
  · refine v_iconst hG (v := 0) (by decide) dX9_rest_12 ?_
    exact j13 w 0 hf
  · refine v_iconst hG (v := 1) (by decide) dX9_rest_8 ?_
    refine v_goto hG 13 dX9_rest_9 rfl ?_
    exact j13 w 1 hf
def X9_certificate_J13  (j13_0 : MW) (j13_1 : Int32) : Option (Int32 × MW) := ((X9_passes j13_0 j13_1 0).bind (fun r14 : Int32 × MW => (if r14.1 = 0 then (some (0, r14.2)) else (some ((gM_certificate r14.2), r14.2)))))
def X9_certificate (w : MW) : Option (Int32 × MW) := (if (gM_isSmall w) = 0 then (X9_certificate_J13 w 1) else (X9_certificate_J13 w 0))
set_option maxRecDepth 100000 in
set_option maxHeartbeats 4000000 in
theorem ct_X9_certificate (l : Launch) (g : wG) (ad : Nat → Nat) (w : MW)  (rr : Int32 × MW) (hf : X9_certificate w = some rr) : MetN l g yX9_certificate cX9_certificate 1 (some .int) (k2_rm 1 22) [.ref (ad 0)] (mcells g ad w) (mcells g ad rr.2) (some (.int rr.1)) := by
  refine MetN.of2 [(0, .ref (ad 0))] rfl (by decide +kernel) (Nat.le_of_ble_eq_true rfl) ?_
  intro p e s m args below meth c hG hr
  unfold X9_certificate at hf
  have j13 : ∀ (j13_0 : MW) (j13_1 : Int32), X9_certificate_J13 j13_0 j13_1 = some rr → V p l e (k2_rm 1 22) s m args below meth c (inW (mcells g ad w)) (EN below args s g (mcells g ad w) (mcells g ad rr.2) (some (.int rr.1))) g 1 (mcells g ad j13_0) 0 0 13 [(0, .ref (ad 0))] [.int j13_1, .ref (ad 0)] := by
    intro j13_0 j13_1 hf
    unfold X9_certificate_J13 at hf
    refine v_iconst hG (v := 0) (by decide) dX9_certificate_13 ?_
    obtain ⟨r14, hr14, hf⟩ := bd_some hf
    refine v_callV hG (st := []) 0 9 (ct_X9_passes l g ad j13_0 j13_1 0 r14 hr14) iw_X9_passes wk_1212 rfl rfl ⟨rfl, rfl, Nat.le_of_ble_eq_true rfl, Nat.le_of_ble_eq_true rfl⟩ ⟨Nat.le_of_ble_eq_true rfl, Nat.le_of_ble_eq_true rfl⟩ rfl rfl (Nat.le_of_ble_eq_true rfl) (mcells_fst _ _ _ _) dX9_certificate_14 ?_
    refine (show V p l e (k2_rm 1 22) s m args below meth c (inW (mcells g ad w)) (EN below args s g (mcells g ad w) (mcells g ad rr.2) (some (.int rr.1))) g 1 (mcells g ad r14.2) 0 0 17 [(0, .ref (ad 0))] [.int r14.1] from ?_)
    refine v_if_eq hG 27 dX9_certificate_17 rfl hf (fun hf => ?_) (fun hf => ?_)
    · refine v_iconst hG (v := 0) (by decide) dX9_certificate_27 ?_
      cases hf
      exact v_iret hG hr dX9_certificate_28
    · refine v_aload_n hG 0 rfl rfl dX9_certificate_20 ?_
      refine m_g_0_22 hG wk_1088 dX9_certificate_21 ?_
      refine v_goto hG 28 dX9_certificate_24 rfl ?_
      cases hf
      exact v_iret hG hr dX9_certificate_28
  refine v_aload_n hG 0 rfl rfl dX9_certificate_0 ?_
  refine v_aload_n hG 0 rfl rfl dX9_certificate_1 ?_
  refine m_g_0_9 hG wk_1075 dX9_certificate_2 ?_
  refine v_if_ne hG 12 dX9_certificate_5 rfl hf (fun hf => ?_) (fun hf => ?_)
  · refine v_iconst hG (v := 0) (by decide) dX9_certificate_12 ?_
    exact j13 w 0 hf
  · refine v_iconst hG (v := 1) (by decide) dX9_certificate_8 ?_
    refine v_goto hG 13 dX9_certificate_9 rfl ?_
    exact j13 w 1 hf
def X9_points_J94  (j94_0 : Int32) (j94_1 : Int64) : Option ((Int64 × Int32) ⊕ ((Int64))) := (some (.inl (j94_1, (j94_0 + 1))))
def X9_points_J71  (j71_0 : Int64) (j71_1 : Int32) (j71_2 : Int64) : Option ((Int64 × Int32) ⊕ ((Int64))) := (if (j71_0 * j71_2) ≤ 4000 then (X9_points_J94 j71_1 (j71_0 * j71_2)) else (X9_points_J94 j71_1 4001))
def X9_points_L5 (w : MW) (a0 : Int32) (s5 : Int64 × Int32) : Option ((Int64 × Int32) ⊕ ((Int64))) := (if (gM_columns w) ≤ s5.2 then (some (.inr s5.1)) else (if a0 = 0 then (if inR s5.2 12 = true then (if inR s5.2 12 = true then (X9_points_J71 s5.1 s5.2 (((((gM_highs w) s5.2.toNatClampNeg) - ((gM_lows w) s5.2.toNatClampNeg)).toInt64) + 1)) else none) else none) else (if inR s5.2 12 = true then (if ((gM_state w) s5.2.toNatClampNeg) = 0 then (if inR s5.2 12 = true then (if inR s5.2 12 = true then (X9_points_J71 s5.1 s5.2 (((((gM_high w) s5.2.toNatClampNeg) - ((gM_low w) s5.2.toNatClampNeg)).toInt64) + 1)) else none) else none) else (X9_points_J71 s5.1 s5.2 1)) else none)))
def X9_points (w : MW) (a0 : Int32) : Option (Int32) := ((iter (X9_points_L5 w a0) 5000 (1, 0)).bind (fun z5 : (Int64) => (some z5.toInt32)))
set_option maxRecDepth 100000 in
set_option maxHeartbeats 4000000 in
theorem ct_X9_points (l : Launch) (g : wG) (ad : Nat → Nat) (w : MW) (a0 : Int32) (rr : Int32) (hf : X9_points w a0 = some rr) : MetN l g yX9_points cX9_points 7 (some .int) (k2_rm 0 0) [.ref (ad 0), .int a0] (mcells g ad w) (mcells g ad w) (some (.int rr)) := by
  refine MetN.of2 [(0, .ref (ad 0)), (1, .int a0)] rfl (by decide +kernel) (Nat.le_of_ble_eq_true rfl) ?_
  intro p e s m args below meth c hG hr
  unfold X9_points at hf
  refine v_lconst hG (v := 1) (by decide) dX9_points_0 ?_
  refine v_lstore_n hG [(2, _), (0, _), (1, _)] dX9_points_1 rfl (by decide) rfl ?_
  refine v_iconst hG (v := 0) (by decide) dX9_points_2 ?_
  refine v_istore hG [(4, _), (2, _), (0, _), (1, _)] dX9_points_3 (by decide) rfl ?_
  refine v_sub [(0, _), (1, _), (2, _), (4, _)] [2, 3, 1, 0] rfl ?_
  obtain ⟨z5, hlz5, hf⟩ := bd_some hf
  refine loop_v (step := X9_points_L5 w a0) (fun s5 : Int64 × Int32 => V p l e (k2_rm 0 0) s m args below meth c (inW (mcells g ad w)) (EN below args s g (mcells g ad w) (mcells g ad w) (some (.int rr))) g 7 (mcells g ad w) 0 0 5 [(0, .ref (ad 0)), (1, .int a0), (2, .long s5.1), (4, .int s5.2)] []) (fun z5_q : (Int64) => V p l e (k2_rm 0 0) s m args below meth c (inW (mcells g ad w)) (EN below args s g (mcells g ad w) (mcells g ad w) (some (.int rr))) g 7 (mcells g ad w) 0 0 101 [(2, .long z5_q)] []) ?_ 5000 (1, 0) z5 hlz5 ?_
  · intro s5 rL hf hin hout
    unfold X9_points_L5 at hf
    have j94 : ∀ (j94_0 : Int32) (j94_1 : Int64), X9_points_J94 j94_0 j94_1 = some rL → V p l e (k2_rm 0 0) s m args below meth c (inW (mcells g ad w)) (EN below args s g (mcells g ad w) (mcells g ad w) (some (.int rr))) g 7 (mcells g ad w) 0 0 94 [(0, .ref (ad 0)), (1, .int a0), (4, .int j94_0)] [.long j94_1] := by
      intro j94_0 j94_1 hf
      unfold X9_points_J94 at hf
      refine v_lstore_n hG [(2, _), (0, _), (1, _), (4, _)] dX9_points_94 rfl (by decide) rfl ?_
      refine v_iinc hG 3 (v := j94_0 + 1) [(4, _), (2, _), (0, _), (1, _)] dX9_points_95 rfl rfl (by decide) rfl ?_
      refine v_goto hG 5 dX9_points_98 rfl ?_
      refine v_sub [(0, _), (1, _), (2, _), (4, _)] [2, 3, 1, 0] rfl ?_
      exact hin _ (Option.some.inj hf).symm
    have j71 : ∀ (j71_0 : Int64) (j71_1 : Int32) (j71_2 : Int64), X9_points_J71 j71_0 j71_1 j71_2 = some rL → V p l e (k2_rm 0 0) s m args below meth c (inW (mcells g ad w)) (EN below args s g (mcells g ad w) (mcells g ad w) (some (.int rr))) g 7 (mcells g ad w) 0 0 71 [(0, .ref (ad 0)), (1, .int a0), (2, .long j71_0), (4, .int j71_1)] [.long j71_2] := by
      intro j71_0 j71_1 j71_2 hf
      unfold X9_points_J71 at hf
      refine v_lstore hG [(5, _), (0, _), (1, _), (2, _), (4, _)] dX9_points_71 (by decide) rfl ?_
      refine v_lload_n hG 3 rfl rfl dX9_points_73 ?_
      refine v_lload hG 0 rfl dX9_points_74 ?_
      refine v_lmul hG dX9_points_76 ?_
      refine v_ldc2 hG wk_1445 dX9_points_77 ?_
      refine v_lcmp_le hG 90 dX9_points_80 dX9_points_81 rfl hf (fun hf => ?_) (fun hf => ?_)
      · refine v_lload_n hG 3 rfl rfl dX9_points_90 ?_
        refine v_lload hG 0 rfl dX9_points_91 ?_
        refine v_lmul hG dX9_points_93 ?_
        refine v_sub [(0, _), (1, _), (4, _)] [1, 2, 4] rfl ?_
        exact j94 j71_1 (j71_0 * j71_2) hf
      · refine v_ldc2 hG wk_1446 dX9_points_84 ?_
        refine v_goto hG 94 dX9_points_87 rfl ?_
        refine v_sub [(0, _), (1, _), (4, _)] [1, 2, 4] rfl ?_
        exact j94 j71_1 4001 hf
    refine v_iload hG 3 rfl dX9_points_5 ?_
    refine v_aload_n hG 0 rfl rfl dX9_points_7 ?_
    refine m_g_0_1 hG wk_1067 dX9_points_8 ?_
    refine v_icmp_ge hG 101 dX9_points_11 rfl hf (fun hf => ?_) (fun hf => ?_)
    · refine v_sub [(2, _)] [2] rfl ?_
      exact hout _ (Option.some.inj hf).symm
    · refine v_iload_n hG 1 rfl rfl dX9_points_14 ?_
      refine v_if_ne hG 39 dX9_points_15 rfl hf (fun hf => ?_) (fun hf => ?_)
      · refine v_aload_n hG 0 rfl rfl dX9_points_39 ?_
        refine m_g_0_10 hG wk_1076 dX9_points_40 ?_
        refine v_iload hG 3 rfl dX9_points_43 ?_
        refine m_l_7 hG dX9_points_45 hf (fun hf => ?_)
        refine v_if_ne hG 70 dX9_points_46 rfl hf (fun hf => ?_) (fun hf => ?_)
        · refine v_lconst hG (v := 1) (by decide) dX9_points_70 ?_
          exact j71 s5.1 s5.2 1 hf
        · refine v_aload_n hG 0 rfl rfl dX9_points_49 ?_
          refine m_g_0_12 hG wk_1078 dX9_points_50 ?_
          refine v_iload hG 3 rfl dX9_points_53 ?_
          refine m_l_9 hG dX9_points_55 hf (fun hf => ?_)
          refine v_aload_n hG 0 rfl rfl dX9_points_56 ?_
          refine m_g_0_11 hG wk_1077 dX9_points_57 ?_
          refine v_iload hG 3 rfl dX9_points_60 ?_
          refine m_l_8 hG dX9_points_62 hf (fun hf => ?_)
          refine v_isub hG dX9_points_63 ?_
          refine v_i2l hG dX9_points_64 ?_
          refine v_lconst hG (v := 1) (by decide) dX9_points_65 ?_
          refine v_ladd hG dX9_points_66 ?_
          refine v_goto hG 71 dX9_points_67 rfl ?_
          exact j71 s5.1 s5.2 (((((gM_high w) s5.2.toNatClampNeg) - ((gM_low w) s5.2.toNatClampNeg)).toInt64) + 1) hf
      · refine v_aload_n hG 0 rfl rfl dX9_points_18 ?_
        refine m_g_0_4 hG wk_1070 dX9_points_19 ?_
        refine v_iload hG 3 rfl dX9_points_22 ?_
        refine m_l_2 hG dX9_points_24 hf (fun hf => ?_)
        refine v_aload_n hG 0 rfl rfl dX9_points_25 ?_
        refine m_g_0_3 hG wk_1069 dX9_points_26 ?_
        refine v_iload hG 3 rfl dX9_points_29 ?_
        refine m_l_1 hG dX9_points_31 hf (fun hf => ?_)
        refine v_isub hG dX9_points_32 ?_
        refine v_i2l hG dX9_points_33 ?_
        refine v_lconst hG (v := 1) (by decide) dX9_points_34 ?_
        refine v_ladd hG dX9_points_35 ?_
        refine v_goto hG 71 dX9_points_36 rfl ?_
        exact j71 s5.1 s5.2 (((((gM_highs w) s5.2.toNatClampNeg) - ((gM_lows w) s5.2.toNatClampNeg)).toInt64) + 1) hf
  · show V p l e (k2_rm 0 0) s m args below meth c (inW (mcells g ad w)) (EN below args s g (mcells g ad w) (mcells g ad w) (some (.int rr))) g 7 (mcells g ad w) 0 0 101 [(2, .long z5)] []
    refine v_lload_n hG 0 rfl rfl dX9_points_101 ?_
    refine v_l2i hG dX9_points_102 ?_
    cases hf
    exact v_iret hG hr dX9_points_103
def X9_firstPoint_J47  (j47_0 : MW) (j47_1 : Int32) (j47_2 : Int32) (j47_3 : Int32) : Option ((MW × Int32) ⊕ ((MW))) := (if inR j47_2 12 = true then (bnd (sM_point j47_0 (upd (gM_point j47_0) j47_2.toNatClampNeg j47_3)) (fun w47 : MW => (some (.inl (w47, (j47_1 + 1)))))) else none)
def X9_firstPoint_L2 (a0 : Int32) (s2 : MW × Int32) : Option ((MW × Int32) ⊕ ((MW))) := (if (gM_columns s2.1) ≤ s2.2 then (some (.inr s2.1)) else (if a0 = 0 then (if inR s2.2 12 = true then (X9_firstPoint_J47 s2.1 s2.2 s2.2 ((gM_lows s2.1) s2.2.toNatClampNeg)) else none) else (if inR s2.2 12 = true then (if ((gM_state s2.1) s2.2.toNatClampNeg) = 0 then (if inR s2.2 12 = true then (X9_firstPoint_J47 s2.1 s2.2 s2.2 ((gM_low s2.1) s2.2.toNatClampNeg)) else none) else (X9_firstPoint_J47 s2.1 s2.2 s2.2 0)) else none)))
def X9_firstPoint (w : MW) (a0 : Int32) : Option (MW) := ((iter (X9_firstPoint_L2 a0) 5000 (w, 0)).bind (fun z2 : (MW) => (some z2)))
set_option maxRecDepth 100000 in
set_option maxHeartbeats 4000000 in
theorem ct_X9_firstPoint (l : Launch) (g : wG) (ad : Nat → Nat) (w : MW) (a0 : Int32) (rr : MW) (hf : X9_firstPoint w a0 = some rr) : MetN l g yX9_firstPoint cX9_firstPoint 3 none (k2_rm 0 0) [.ref (ad 0), .int a0] (mcells g ad w) (mcells g ad rr) none := by
  refine MetN.of2 [(0, .ref (ad 0)), (1, .int a0)] rfl (by decide +kernel) (Nat.le_of_ble_eq_true rfl) ?_
  intro p e s m args below meth c hG hr
  unfold X9_firstPoint at hf
  refine v_iconst hG (v := 0) (by decide) dX9_firstPoint_0 ?_
  refine v_istore_n hG [(2, _), (0, _), (1, _)] dX9_firstPoint_1 rfl (by decide) rfl ?_
  refine v_sub [(0, _), (1, _), (2, _)] [1, 2, 0] rfl ?_
  obtain ⟨z2, hlz2, hf⟩ := bd_some hf
  refine loop_v (step := X9_firstPoint_L2 a0) (fun s2 : MW × Int32 => V p l e (k2_rm 0 0) s m args below meth c (inW (mcells g ad w)) (EN below args s g (mcells g ad w) (mcells g ad rr) none) g 3 (mcells g ad s2.1) 0 0 2 [(0, .ref (ad 0)), (1, .int a0), (2, .int s2.2)] []) (fun z2_q : (MW) => V p l e (k2_rm 0 0) s m args below meth c (inW (mcells g ad w)) (EN below args s g (mcells g ad w) (mcells g ad rr) none) g 3 (mcells g ad z2_q) 0 0 54 [] []) ?_ 5000 (w, 0) z2 hlz2 ?_
  · intro s2 rL hf hin hout
    unfold X9_firstPoint_L2 at hf
    have j47 : ∀ (j47_0 : MW) (j47_1 : Int32) (j47_2 : Int32) (j47_3 : Int32), X9_firstPoint_J47 j47_0 j47_1 j47_2 j47_3 = some rL → V p l e (k2_rm 0 0) s m args below meth c (inW (mcells g ad w)) (EN below args s g (mcells g ad w) (mcells g ad rr) none) g 3 (mcells g ad j47_0) 0 0 47 [(0, .ref (ad 0)), (1, .int a0), (2, .int j47_1)] [.int j47_3, .int j47_2, .ref (ad 30)] := by
      intro j47_0 j47_1 j47_2 j47_3 hf
      unfold X9_firstPoint_J47 at hf
      refine m_s_30 hG dX9_firstPoint_47 hf (fun w47 hf => ?_)
      refine v_iinc hG 2 (v := j47_1 + 1) [(2, _), (0, _), (1, _)] dX9_firstPoint_48 rfl rfl (by decide) rfl ?_
      refine v_goto hG 2 dX9_firstPoint_51 rfl ?_
      refine v_sub [(0, _), (1, _), (2, _)] [1, 2, 0] rfl ?_
      exact hin _ (Option.some.inj hf).symm
    refine v_iload_n hG 2 rfl rfl dX9_firstPoint_2 ?_
    refine v_aload_n hG 0 rfl rfl dX9_firstPoint_3 ?_
    refine m_g_0_1 hG wk_1067 dX9_firstPoint_4 ?_
    refine v_icmp_ge hG 54 dX9_firstPoint_7 rfl hf (fun hf => ?_) (fun hf => ?_)
    · refine v_sub [] [] rfl ?_
      exact hout _ (Option.some.inj hf).symm
    · refine v_aload_n hG 0 rfl rfl dX9_firstPoint_10 ?_
      refine m_g_0_40 hG wk_1106 dX9_firstPoint_11 ?_
      refine v_iload_n hG 2 rfl rfl dX9_firstPoint_14 ?_
      refine v_iload_n hG 1 rfl rfl dX9_firstPoint_15 ?_
      refine v_if_ne hG 28 dX9_firstPoint_16 rfl hf (fun hf => ?_) (fun hf => ?_)
      · refine v_aload_n hG 0 rfl rfl dX9_firstPoint_28 ?_
        refine m_g_0_10 hG wk_1076 dX9_firstPoint_29 ?_
        refine v_iload_n hG 2 rfl rfl dX9_firstPoint_32 ?_
        refine m_l_7 hG dX9_firstPoint_33 hf (fun hf => ?_)
        refine v_if_ne hG 46 dX9_firstPoint_34 rfl hf (fun hf => ?_) (fun hf => ?_)
        · refine v_iconst hG (v := 0) (by decide) dX9_firstPoint_46 ?_
          exact j47 s2.1 s2.2 s2.2 0 hf
        · refine v_aload_n hG 0 rfl rfl dX9_firstPoint_37 ?_
          refine m_g_0_11 hG wk_1077 dX9_firstPoint_38 ?_
          refine v_iload_n hG 2 rfl rfl dX9_firstPoint_41 ?_
          refine m_l_8 hG dX9_firstPoint_42 hf (fun hf => ?_)
          refine v_goto hG 47 dX9_firstPoint_43 rfl ?_
          exact j47 s2.1 s2.2 s2.2 ((gM_low s2.1) s2.2.toNatClampNeg) hf
      · refine v_aload_n hG 0 rfl rfl dX9_firstPoint_19 ?_
        refine m_g_0_3 hG wk_1069 dX9_firstPoint_20 ?_
        refine v_iload_n hG 2 rfl rfl dX9_firstPoint_23 ?_
        refine m_l_1 hG dX9_firstPoint_24 hf (fun hf => ?_)
        refine v_goto hG 47 dX9_firstPoint_25 rfl ?_
        exact j47 s2.1 s2.2 s2.2 ((gM_lows s2.1) s2.2.toNatClampNeg) hf
  · show V p l e (k2_rm 0 0) s m args below meth c (inW (mcells g ad w)) (EN below args s g (mcells g ad w) (mcells g ad rr) none) g 3 (mcells g ad z2) 0 0 54 [] []
    cases hf
    exact v_vret hG hr dX9_firstPoint_54
def X9_nextPoint_J108  (j108_0 : MW) (j108_1 : Int32) (j108_2 : Int32) : Option ((MW × Int32 × Int32) ⊕ ((MW))) := (some (.inl (j108_0, j108_1, (j108_2 + (-1)))))
def X9_nextPoint_J107  (j107_0 : MW) (j107_1 : Int32) (j107_2 : Int32) (j107_3 : Int32) (j107_4 : Int32) : Option ((MW × Int32 × Int32) ⊕ ((MW))) := (if inR j107_3 12 = true then (bnd (sM_point j107_0 (upd (gM_point j107_0) j107_3.toNatClampNeg j107_4)) (fun w107 : MW => (X9_nextPoint_J108 w107 j107_1 j107_2))) else none)
def X9_nextPoint_J67 (a0 : Int32) (j67_0 : MW) (j67_1 : Int32) (j67_2 : Int32) : Option ((MW × Int32 × Int32) ⊕ ((MW))) := (if j67_2 = 0 then (if inR j67_1 12 = true then (X9_nextPoint_J107 j67_0 j67_2 j67_1 j67_1 (((gM_point j67_0) j67_1.toNatClampNeg) + 1)) else none) else (if a0 = 0 then (if inR j67_1 12 = true then (X9_nextPoint_J107 j67_0 j67_2 j67_1 j67_1 ((gM_lows j67_0) j67_1.toNatClampNeg)) else none) else (if inR j67_1 12 = true then (X9_nextPoint_J107 j67_0 j67_2 j67_1 j67_1 ((gM_low j67_0) j67_1.toNatClampNeg)) else none)))
def X9_nextPoint_J49 (a0 : Int32) (j49_0 : MW) (j49_1 : Int32) (j49_2 : Int32) : Option ((MW × Int32 × Int32) ⊕ ((MW))) := (if inR j49_1 12 = true then (if ((gM_point j49_0) j49_1.toNatClampNeg) = j49_2 then (X9_nextPoint_J67 a0 j49_0 j49_1 1) else (X9_nextPoint_J67 a0 j49_0 j49_1 0)) else none)
def X9_nextPoint_J30 (a0 : Int32) (j30_0 : MW) (j30_1 : Int32) : Option ((MW × Int32 × Int32) ⊕ ((MW))) := (if a0 = 0 then (if inR j30_1 12 = true then (X9_nextPoint_J49 a0 j30_0 j30_1 ((gM_highs j30_0) j30_1.toNatClampNeg)) else none) else (if inR j30_1 12 = true then (X9_nextPoint_J49 a0 j30_0 j30_1 ((gM_high j30_0) j30_1.toNatClampNeg)) else none))
def X9_nextPoint_L9 (a0 : Int32) (s9 : MW × Int32 × Int32) : Option ((MW × Int32 × Int32) ⊕ ((MW))) := (if s9.2.2 < 0 then (some (.inr s9.1)) else (if s9.2.1 = 0 then (some (.inr s9.1)) else (if a0 = 0 then (X9_nextPoint_J30 a0 s9.1 s9.2.2) else (if inR s9.2.2 12 = true then (if ((gM_state s9.1) s9.2.2.toNatClampNeg) = 0 then (X9_nextPoint_J30 a0 s9.1 s9.2.2) else (X9_nextPoint_J108 s9.1 s9.2.1 s9.2.2)) else none))))
def X9_nextPoint (w : MW) (a0 : Int32) : Option (MW) := ((iter (X9_nextPoint_L9 a0) 5000 (w, 1, ((gM_columns w) - 1))).bind (fun z9 : (MW) => (some z9)))
set_option maxRecDepth 100000 in
set_option maxHeartbeats 4000000 in
theorem ct_X9_nextPoint (l : Launch) (g : wG) (ad : Nat → Nat) (w : MW) (a0 : Int32) (rr : MW) (hf : X9_nextPoint w a0 = some rr) : MetN l g yX9_nextPoint cX9_nextPoint 5 none (k2_rm 0 0) [.ref (ad 0), .int a0] (mcells g ad w) (mcells g ad rr) none := by
  refine MetN.of2 [(0, .ref (ad 0)), (1, .int a0)] rfl (by decide +kernel) (Nat.le_of_ble_eq_true rfl) ?_
  intro p e s m args below meth c hG hr
  unfold X9_nextPoint at hf
  refine v_iconst hG (v := 1) (by decide) dX9_nextPoint_0 ?_
  refine v_istore_n hG [(2, _), (0, _), (1, _)] dX9_nextPoint_1 rfl (by decide) rfl ?_
  refine v_aload_n hG 1 rfl rfl dX9_nextPoint_2 ?_
  refine m_g_0_1 hG wk_1067 dX9_nextPoint_3 ?_
  refine v_iconst hG (v := 1) (by decide) dX9_nextPoint_6 ?_
  refine v_isub hG dX9_nextPoint_7 ?_
  refine v_istore_n hG [(3, _), (2, _), (0, _), (1, _)] dX9_nextPoint_8 rfl (by decide) rfl ?_
  refine v_sub [(0, _), (1, _), (2, _), (3, _)] [2, 3, 1, 0] rfl ?_
  obtain ⟨z9, hlz9, hf⟩ := bd_some hf
  refine loop_v (step := X9_nextPoint_L9 a0) (fun s9 : MW × Int32 × Int32 => V p l e (k2_rm 0 0) s m args below meth c (inW (mcells g ad w)) (EN below args s g (mcells g ad w) (mcells g ad rr) none) g 5 (mcells g ad s9.1) 0 0 9 [(0, .ref (ad 0)), (1, .int a0), (2, .int s9.2.1), (3, .int s9.2.2)] []) (fun z9_q : (MW) => V p l e (k2_rm 0 0) s m args below meth c (inW (mcells g ad w)) (EN below args s g (mcells g ad w) (mcells g ad rr) none) g 5 (mcells g ad z9_q) 0 0 114 [] []) ?_ 5000 (w, 1, ((gM_columns w) - 1)) z9 hlz9 ?_
  · intro s9 rL hf hin hout
    unfold X9_nextPoint_L9 at hf
    have j108 : ∀ (j108_0 : MW) (j108_1 : Int32) (j108_2 : Int32), X9_nextPoint_J108 j108_0 j108_1 j108_2 = some rL → V p l e (k2_rm 0 0) s m args below meth c (inW (mcells g ad w)) (EN below args s g (mcells g ad w) (mcells g ad rr) none) g 5 (mcells g ad j108_0) 0 0 108 [(0, .ref (ad 0)), (1, .int a0), (2, .int j108_1), (3, .int j108_2)] [] := by
      intro j108_0 j108_1 j108_2 hf
      unfold X9_nextPoint_J108 at hf
      refine v_iinc hG 3 (v := j108_2 + (-1)) [(3, _), (0, _), (1, _), (2, _)] dX9_nextPoint_108 rfl rfl (by decide) rfl ?_
      refine v_goto hG 9 dX9_nextPoint_111 rfl ?_
      refine v_sub [(0, _), (1, _), (2, _), (3, _)] [1, 2, 3, 0] rfl ?_
      exact hin _ (Option.some.inj hf).symm
    have j107 : ∀ (j107_0 : MW) (j107_1 : Int32) (j107_2 : Int32) (j107_3 : Int32) (j107_4 : Int32), X9_nextPoint_J107 j107_0 j107_1 j107_2 j107_3 j107_4 = some rL → V p l e (k2_rm 0 0) s m args below meth c (inW (mcells g ad w)) (EN below args s g (mcells g ad w) (mcells g ad rr) none) g 5 (mcells g ad j107_0) 0 0 107 [(0, .ref (ad 0)), (1, .int a0), (2, .int j107_1), (3, .int j107_2)] [.int j107_4, .int j107_3, .ref (ad 30)] := by
      intro j107_0 j107_1 j107_2 j107_3 j107_4 hf
      unfold X9_nextPoint_J107 at hf
      refine m_s_30 hG dX9_nextPoint_107 hf (fun w107 hf => ?_)
      exact j108 w107 j107_1 j107_2 hf
    have j67 : ∀ (j67_0 : MW) (j67_1 : Int32) (j67_2 : Int32), X9_nextPoint_J67 a0 j67_0 j67_1 j67_2 = some rL → V p l e (k2_rm 0 0) s m args below meth c (inW (mcells g ad w)) (EN below args s g (mcells g ad w) (mcells g ad rr) none) g 5 (mcells g ad j67_0) 0 0 67 [(0, .ref (ad 0)), (1, .int a0), (3, .int j67_1)] [.int j67_2] := by
      intro j67_0 j67_1 j67_2 hf
      unfold X9_nextPoint_J67 at hf
      refine v_istore_n hG [(2, _), (0, _), (1, _), (3, _)] dX9_nextPoint_67 rfl (by decide) rfl ?_
      refine v_aload_n hG 1 rfl rfl dX9_nextPoint_68 ?_
      refine m_g_0_40 hG wk_1106 dX9_nextPoint_69 ?_
      refine v_iload_n hG 3 rfl rfl dX9_nextPoint_72 ?_
      refine v_iload_n hG 0 rfl rfl dX9_nextPoint_73 ?_
      refine v_if_ne hG 88 dX9_nextPoint_74 rfl hf (fun hf => ?_) (fun hf => ?_)
      · refine v_iload_n hG 2 rfl rfl dX9_nextPoint_88 ?_
        refine v_if_eq hG 101 dX9_nextPoint_89 rfl hf (fun hf => ?_) (fun hf => ?_)
        · refine v_aload_n hG 1 rfl rfl dX9_nextPoint_101 ?_
          refine m_g_0_3 hG wk_1069 dX9_nextPoint_102 ?_
          refine v_iload_n hG 3 rfl rfl dX9_nextPoint_105 ?_
          refine m_l_1 hG dX9_nextPoint_106 hf (fun hf => ?_)
          refine v_sub [(0, _), (1, _), (2, _), (3, _)] [1, 2, 0, 3] rfl ?_
          exact j107 j67_0 j67_2 j67_1 j67_1 ((gM_lows j67_0) j67_1.toNatClampNeg) hf
        · refine v_aload_n hG 1 rfl rfl dX9_nextPoint_92 ?_
          refine m_g_0_11 hG wk_1077 dX9_nextPoint_93 ?_
          refine v_iload_n hG 3 rfl rfl dX9_nextPoint_96 ?_
          refine m_l_8 hG dX9_nextPoint_97 hf (fun hf => ?_)
          refine v_goto hG 107 dX9_nextPoint_98 rfl ?_
          refine v_sub [(0, _), (1, _), (2, _), (3, _)] [1, 2, 0, 3] rfl ?_
          exact j107 j67_0 j67_2 j67_1 j67_1 ((gM_low j67_0) j67_1.toNatClampNeg) hf
      · refine v_aload_n hG 1 rfl rfl dX9_nextPoint_77 ?_
        refine m_g_0_40 hG wk_1106 dX9_nextPoint_78 ?_
        refine v_iload_n hG 3 rfl rfl dX9_nextPoint_81 ?_
        refine m_l_30 hG dX9_nextPoint_82 hf (fun hf => ?_)
        refine v_iconst hG (v := 1) (by decide) dX9_nextPoint_83 ?_
        refine v_iadd hG dX9_nextPoint_84 ?_
        refine v_goto hG 107 dX9_nextPoint_85 rfl ?_
        refine v_sub [(0, _), (1, _), (2, _), (3, _)] [1, 2, 0, 3] rfl ?_
        exact j107 j67_0 j67_2 j67_1 j67_1 (((gM_point j67_0) j67_1.toNatClampNeg) + 1) hf
    have j49 : ∀ (j49_0 : MW) (j49_1 : Int32) (j49_2 : Int32), X9_nextPoint_J49 a0 j49_0 j49_1 j49_2 = some rL → V p l e (k2_rm 0 0) s m args below meth c (inW (mcells g ad w)) (EN below args s g (mcells g ad w) (mcells g ad rr) none) g 5 (mcells g ad j49_0) 0 0 49 [(0, .ref (ad 0)), (1, .int a0), (3, .int j49_1)] [.int j49_2] := by
      intro j49_0 j49_1 j49_2 hf
      unfold X9_nextPoint_J49 at hf
      refine v_istore hG [(4, _), (0, _), (1, _), (3, _)] dX9_nextPoint_49 (by decide) rfl ?_
      refine v_aload_n hG 1 rfl rfl dX9_nextPoint_51 ?_
      refine m_g_0_40 hG wk_1106 dX9_nextPoint_52 ?_
      refine v_iload_n hG 3 rfl rfl dX9_nextPoint_55 ?_
      refine m_l_30 hG dX9_nextPoint_56 hf (fun hf => ?_)
      refine v_iload hG 0 rfl dX9_nextPoint_57 ?_
      refine v_icmp_ne hG 66 dX9_nextPoint_59 rfl hf (fun hf => ?_) (fun hf => ?_)
      · refine v_iconst hG (v := 0) (by decide) dX9_nextPoint_66 ?_
        refine v_sub [(0, _), (1, _), (3, _)] [1, 2, 3] rfl ?_
        exact j67 j49_0 j49_1 0 hf
      · refine v_iconst hG (v := 1) (by decide) dX9_nextPoint_62 ?_
        refine v_goto hG 67 dX9_nextPoint_63 rfl ?_
        refine v_sub [(0, _), (1, _), (3, _)] [1, 2, 3] rfl ?_
        exact j67 j49_0 j49_1 1 hf
    have j30 : ∀ (j30_0 : MW) (j30_1 : Int32), X9_nextPoint_J30 a0 j30_0 j30_1 = some rL → V p l e (k2_rm 0 0) s m args below meth c (inW (mcells g ad w)) (EN below args s g (mcells g ad w) (mcells g ad rr) none) g 5 (mcells g ad j30_0) 0 0 30 [(0, .ref (ad 0)), (1, .int a0), (3, .int j30_1)] [] := by
      intro j30_0 j30_1 hf
      unfold X9_nextPoint_J30 at hf
      refine v_iload_n hG 1 rfl rfl dX9_nextPoint_30 ?_
      refine v_if_eq hG 43 dX9_nextPoint_31 rfl hf (fun hf => ?_) (fun hf => ?_)
      · refine v_aload_n hG 0 rfl rfl dX9_nextPoint_43 ?_
        refine m_g_0_4 hG wk_1070 dX9_nextPoint_44 ?_
        refine v_iload_n hG 2 rfl rfl dX9_nextPoint_47 ?_
        refine m_l_2 hG dX9_nextPoint_48 hf (fun hf => ?_)
        exact j49 j30_0 j30_1 ((gM_highs j30_0) j30_1.toNatClampNeg) hf
      · refine v_aload_n hG 0 rfl rfl dX9_nextPoint_34 ?_
        refine m_g_0_12 hG wk_1078 dX9_nextPoint_35 ?_
        refine v_iload_n hG 2 rfl rfl dX9_nextPoint_38 ?_
        refine m_l_9 hG dX9_nextPoint_39 hf (fun hf => ?_)
        refine v_goto hG 49 dX9_nextPoint_40 rfl ?_
        exact j49 j30_0 j30_1 ((gM_high j30_0) j30_1.toNatClampNeg) hf
    refine v_iload_n hG 3 rfl rfl dX9_nextPoint_9 ?_
    refine v_if_lt hG 114 dX9_nextPoint_10 rfl hf (fun hf => ?_) (fun hf => ?_)
    · refine v_sub [] [] rfl ?_
      exact hout _ (Option.some.inj hf).symm
    · refine v_iload_n hG 2 rfl rfl dX9_nextPoint_13 ?_
      refine v_if_eq hG 114 dX9_nextPoint_14 rfl hf (fun hf => ?_) (fun hf => ?_)
      · refine v_sub [] [] rfl ?_
        exact hout _ (Option.some.inj hf).symm
      · refine v_iload_n hG 1 rfl rfl dX9_nextPoint_17 ?_
        refine v_if_eq hG 30 dX9_nextPoint_18 rfl hf (fun hf => ?_) (fun hf => ?_)
        · refine v_sub [(0, _), (1, _), (3, _)] [0, 1, 3] rfl ?_
          exact j30 s9.1 s9.2.2 hf
        · refine v_aload_n hG 0 rfl rfl dX9_nextPoint_21 ?_
          refine m_g_0_10 hG wk_1076 dX9_nextPoint_22 ?_
          refine v_iload_n hG 3 rfl rfl dX9_nextPoint_25 ?_
          refine m_l_7 hG dX9_nextPoint_26 hf (fun hf => ?_)
          refine v_if_ne hG 108 dX9_nextPoint_27 rfl hf (fun hf => ?_) (fun hf => ?_)
          · exact j108 s9.1 s9.2.1 s9.2.2 hf
          · refine v_sub [(0, _), (1, _), (3, _)] [0, 1, 3] rfl ?_
            exact j30 s9.1 s9.2.2 hf
  · show V p l e (k2_rm 0 0) s m args below meth c (inW (mcells g ad w)) (EN below args s g (mcells g ad w) (mcells g ad rr) none) g 5 (mcells g ad z9) 0 0 114 [] []
    cases hf
    exact v_vret hG hr dX9_nextPoint_114
def X9_holds_L5 (w : MW) (a0 : Int32) (s5 : Int64 × Int32) : Option ((Int64 × Int32) ⊕ ((Int64))) := (if (gM_columns w) ≤ s5.2 then (some (.inr s5.1)) else (if inR ((12 * a0) + s5.2) 144 = true then (if inR s5.2 12 = true then (some (.inl ((s5.1 + ((((gM_coefficients w) ((12 * a0) + s5.2).toNatClampNeg).toInt64) * (((gM_point w) s5.2.toNatClampNeg).toInt64))), (s5.2 + 1)))) else none) else none))
def X9_holds (w : MW) (a0 : Int32) : Option (Int32) := ((iter (X9_holds_L5 w a0) 5000 (0, 0)).bind (fun z5 : (Int64) => (if inR a0 12 = true then (if ((gM_kinds w) a0.toNatClampNeg) = 0 then (if inR a0 12 = true then (if (((gM_rights w) a0.toNatClampNeg).toInt64) < z5 then (some 0) else (some 1)) else none) else (if inR a0 12 = true then (if z5 = (((gM_rights w) a0.toNatClampNeg).toInt64) then (some 1) else (some 0)) else none)) else none)))
set_option maxRecDepth 100000 in
set_option maxHeartbeats 4000000 in
theorem ct_X9_holds (l : Launch) (g : wG) (ad : Nat → Nat) (w : MW) (a0 : Int32) (rr : Int32) (hf : X9_holds w a0 = some rr) : MetN l g yX9_holds cX9_holds 5 (some .boolean) (k2_rm 0 0) [.ref (ad 0), .int a0] (mcells g ad w) (mcells g ad w) (some (.int rr)) := by
  refine MetN.of2 [(0, .ref (ad 0)), (1, .int a0)] rfl (by decide +kernel) (Nat.le_of_ble_eq_true rfl) ?_
  intro p e s m args below meth c hG hr
  unfold X9_holds at hf
  refine v_lconst hG (v := 0) (by decide) dX9_holds_0 ?_
  refine v_lstore_n hG [(2, _), (0, _), (1, _)] dX9_holds_1 rfl (by decide) rfl ?_
  refine v_iconst hG (v := 0) (by decide) dX9_holds_2 ?_
  refine v_istore hG [(4, _), (2, _), (0, _), (1, _)] dX9_holds_3 (by decide) rfl ?_
  refine v_sub [(0, _), (1, _), (2, _), (4, _)] [2, 3, 1, 0] rfl ?_
  obtain ⟨z5, hlz5, hf⟩ := bd_some hf
  refine loop_v (step := X9_holds_L5 w a0) (fun s5 : Int64 × Int32 => V p l e (k2_rm 0 0) s m args below meth c (inW (mcells g ad w)) (EN below args s g (mcells g ad w) (mcells g ad w) (some (.int rr))) g 5 (mcells g ad w) 0 0 5 [(0, .ref (ad 0)), (1, .int a0), (2, .long s5.1), (4, .int s5.2)] []) (fun z5_q : (Int64) => V p l e (k2_rm 0 0) s m args below meth c (inW (mcells g ad w)) (EN below args s g (mcells g ad w) (mcells g ad w) (some (.int rr))) g 5 (mcells g ad w) 0 0 45 [(0, .ref (ad 0)), (1, .int a0), (2, .long z5_q)] []) ?_ 5000 (0, 0) z5 hlz5 ?_
  · intro s5 rL hf hin hout
    unfold X9_holds_L5 at hf
    refine v_iload hG 3 rfl dX9_holds_5 ?_
    refine v_aload_n hG 0 rfl rfl dX9_holds_7 ?_
    refine m_g_0_1 hG wk_1067 dX9_holds_8 ?_
    refine v_icmp_ge hG 45 dX9_holds_11 rfl hf (fun hf => ?_) (fun hf => ?_)
    · refine v_sub [(0, _), (1, _), (2, _)] [0, 1, 2] rfl ?_
      exact hout _ (Option.some.inj hf).symm
    · refine v_lload_n hG 2 rfl rfl dX9_holds_14 ?_
      refine v_aload_n hG 0 rfl rfl dX9_holds_15 ?_
      refine m_g_0_8 hG wk_1074 dX9_holds_16 ?_
      refine v_bipush hG (v := 12) (by decide) dX9_holds_19 ?_
      refine v_iload_n hG 1 rfl rfl dX9_holds_21 ?_
      refine v_imul hG dX9_holds_22 ?_
      refine v_iload hG 3 rfl dX9_holds_23 ?_
      refine v_iadd hG dX9_holds_25 ?_
      refine m_l_6 hG dX9_holds_26 hf (fun hf => ?_)
      refine v_i2l hG dX9_holds_27 ?_
      refine v_aload_n hG 0 rfl rfl dX9_holds_28 ?_
      refine m_g_0_40 hG wk_1106 dX9_holds_29 ?_
      refine v_iload hG 3 rfl dX9_holds_32 ?_
      refine m_l_30 hG dX9_holds_34 hf (fun hf => ?_)
      refine v_i2l hG dX9_holds_35 ?_
      refine v_lmul hG dX9_holds_36 ?_
      refine v_ladd hG dX9_holds_37 ?_
      refine v_lstore_n hG [(2, _), (0, _), (1, _), (4, _)] dX9_holds_38 rfl (by decide) rfl ?_
      refine v_iinc hG 3 (v := s5.2 + 1) [(4, _), (2, _), (0, _), (1, _)] dX9_holds_39 rfl rfl (by decide) rfl ?_
      refine v_goto hG 5 dX9_holds_42 rfl ?_
      refine v_sub [(0, _), (1, _), (2, _), (4, _)] [2, 3, 1, 0] rfl ?_
      exact hin _ (Option.some.inj hf).symm
  · show V p l e (k2_rm 0 0) s m args below meth c (inW (mcells g ad w)) (EN below args s g (mcells g ad w) (mcells g ad w) (some (.int rr))) g 5 (mcells g ad w) 0 0 45 [(0, .ref (ad 0)), (1, .int a0), (2, .long z5)] []
    refine v_aload_n hG 0 rfl rfl dX9_holds_45 ?_
    refine m_g_0_6 hG wk_1072 dX9_holds_46 ?_
    refine v_iload_n hG 1 rfl rfl dX9_holds_49 ?_
    refine m_l_4 hG dX9_holds_50 hf (fun hf => ?_)
    refine v_if_ne hG 74 dX9_holds_51 rfl hf (fun hf => ?_) (fun hf => ?_)
    · refine v_lload_n hG 2 rfl rfl dX9_holds_74 ?_
      refine v_aload_n hG 0 rfl rfl dX9_holds_75 ?_
      refine m_g_0_7 hG wk_1073 dX9_holds_76 ?_
      refine v_iload_n hG 1 rfl rfl dX9_holds_79 ?_
      refine m_l_5 hG dX9_holds_80 hf (fun hf => ?_)
      refine v_i2l hG dX9_holds_81 ?_
      refine v_lcmp_ne hG 90 dX9_holds_82 dX9_holds_83 rfl hf (fun hf => ?_) (fun hf => ?_)
      · refine v_iconst hG (v := 0) (by decide) dX9_holds_90 ?_
        cases hf
        exact v_zret (x := 0) hG hr rfl dX9_holds_91
      · refine v_iconst hG (v := 1) (by decide) dX9_holds_86 ?_
        refine v_goto hG 91 dX9_holds_87 rfl ?_
        cases hf
        exact v_zret (x := 1) hG hr rfl dX9_holds_91
    · refine v_lload_n hG 2 rfl rfl dX9_holds_54 ?_
      refine v_aload_n hG 0 rfl rfl dX9_holds_55 ?_
      refine m_g_0_7 hG wk_1073 dX9_holds_56 ?_
      refine v_iload_n hG 1 rfl rfl dX9_holds_59 ?_
      refine m_l_5 hG dX9_holds_60 hf (fun hf => ?_)
      refine v_i2l hG dX9_holds_61 ?_
      refine v_lcmp_gt hG 70 dX9_holds_62 dX9_holds_63 rfl hf (fun hf => ?_) (fun hf => ?_)
      · refine v_iconst hG (v := 0) (by decide) dX9_holds_70 ?_
        refine v_goto hG 91 dX9_holds_71 rfl ?_
        cases hf
        exact v_zret (x := 0) hG hr rfl dX9_holds_91
      · refine v_iconst hG (v := 1) (by decide) dX9_holds_66 ?_
        refine v_goto hG 91 dX9_holds_67 rfl ?_
        cases hf
        exact v_zret (x := 1) hG hr rfl dX9_holds_91
def X9_holdsSmall_J50  (j50_0 : Int32) (j50_1 : Int64) (j50_2 : Int64) : Option ((Int64 × Int32) ⊕ ((Int64))) := (some (.inl ((j50_1 + j50_2), (j50_0 + 1))))
def X9_holdsSmall_L5 (w : MW) (a0 : Int32) (s5 : Int64 × Int32) : Option ((Int64 × Int32) ⊕ ((Int64))) := (if (gM_columns w) ≤ s5.2 then (some (.inr s5.1)) else ((X9_isTerm w a0 s5.2).bind (fun r19 : Int32 => (if r19 = 0 then (X9_holdsSmall_J50 s5.2 s5.1 0) else (if inR ((12 * a0) + s5.2) 144 = true then (if inR s5.2 12 = true then (X9_holdsSmall_J50 s5.2 s5.1 (((gM_coef w) ((12 * a0) + s5.2).toNatClampNeg) * (((gM_point w) s5.2.toNatClampNeg).toInt64))) else none) else none)))))
def X9_holdsSmall_J101   : Option (Int32) := (some 1)
def X9_holdsSmall (w : MW) (a0 : Int32) : Option (Int32) := ((iter (X9_holdsSmall_L5 w a0) 5000 (0, 0)).bind (fun z5 : (Int64) => (if inR a0 12 = true then (if ((gM_gone w) a0.toNatClampNeg) = 0 then (if inR a0 12 = true then (if ((gM_kind w) a0.toNatClampNeg) = 0 then (if inR a0 12 = true then (if ((gM_right w) a0.toNatClampNeg) < z5 then (some 0) else (X9_holdsSmall_J101 )) else none) else (if inR a0 12 = true then (if z5 = ((gM_right w) a0.toNatClampNeg) then (X9_holdsSmall_J101 ) else (some 0)) else none)) else none) else (X9_holdsSmall_J101 )) else none)))
set_option maxRecDepth 100000 in
set_option maxHeartbeats 4000000 in
theorem ct_X9_holdsSmall (l : Launch) (g : wG) (ad : Nat → Nat) (w : MW) (a0 : Int32) (rr : Int32) (hf : X9_holdsSmall w a0 = some rr) : MetN l g yX9_holdsSmall cX9_holdsSmall 5 (some .boolean) (k2_rm 1 22) [.ref (ad 0), .int a0] (mcells g ad w) (mcells g ad w) (some (.int rr)) := by
  refine MetN.of2 [(0, .ref (ad 0)), (1, .int a0)] rfl (by decide +kernel) (Nat.le_of_ble_eq_true rfl) ?_
  intro p e s m args below meth c hG hr
  unfold X9_holdsSmall at hf
  have j101 : X9_holdsSmall_J101  = some rr → V p l e (k2_rm 1 22) s m args below meth c (inW (mcells g ad w)) (EN below args s g (mcells g ad w) (mcells g ad w) (some (.int rr))) g 5 (mcells g ad w) 0 0 101 [] [] := by
    intro hf
    unfold X9_holdsSmall_J101 at hf
    refine v_iconst hG (v := 1) (by decide) dX9_holdsSmall_101 ?_
    refine v_goto hG 106 dX9_holdsSmall_102 rfl ?_
    cases hf
    exact v_zret (x := 1) hG hr rfl dX9_holdsSmall_106
  refine v_lconst hG (v := 0) (by decide) dX9_holdsSmall_0 ?_
  refine v_lstore_n hG [(2, _), (0, _), (1, _)] dX9_holdsSmall_1 rfl (by decide) rfl ?_
  refine v_iconst hG (v := 0) (by decide) dX9_holdsSmall_2 ?_
  refine v_istore hG [(4, _), (2, _), (0, _), (1, _)] dX9_holdsSmall_3 (by decide) rfl ?_
  refine v_sub [(0, _), (1, _), (2, _), (4, _)] [2, 3, 1, 0] rfl ?_
  obtain ⟨z5, hlz5, hf⟩ := bd_some hf
  refine loop_v (step := X9_holdsSmall_L5 w a0) (fun s5 : Int64 × Int32 => V p l e (k2_rm 1 22) s m args below meth c (inW (mcells g ad w)) (EN below args s g (mcells g ad w) (mcells g ad w) (some (.int rr))) g 5 (mcells g ad w) 0 0 5 [(0, .ref (ad 0)), (1, .int a0), (2, .long s5.1), (4, .int s5.2)] []) (fun z5_q : (Int64) => V p l e (k2_rm 1 22) s m args below meth c (inW (mcells g ad w)) (EN below args s g (mcells g ad w) (mcells g ad w) (some (.int rr))) g 5 (mcells g ad w) 0 0 58 [(0, .ref (ad 0)), (1, .int a0), (2, .long z5_q)] []) ?_ 5000 (0, 0) z5 hlz5 ?_
  · intro s5 rL hf hin hout
    unfold X9_holdsSmall_L5 at hf
    have j50 : ∀ (j50_0 : Int32) (j50_1 : Int64) (j50_2 : Int64), X9_holdsSmall_J50 j50_0 j50_1 j50_2 = some rL → V p l e (k2_rm 1 22) s m args below meth c (inW (mcells g ad w)) (EN below args s g (mcells g ad w) (mcells g ad w) (some (.int rr))) g 5 (mcells g ad w) 0 0 50 [(0, .ref (ad 0)), (1, .int a0), (4, .int j50_0)] [.long j50_2, .long j50_1] := by
      intro j50_0 j50_1 j50_2 hf
      unfold X9_holdsSmall_J50 at hf
      refine v_ladd hG dX9_holdsSmall_50 ?_
      refine v_lstore_n hG [(2, _), (0, _), (1, _), (4, _)] dX9_holdsSmall_51 rfl (by decide) rfl ?_
      refine v_iinc hG 3 (v := j50_0 + 1) [(4, _), (2, _), (0, _), (1, _)] dX9_holdsSmall_52 rfl rfl (by decide) rfl ?_
      refine v_goto hG 5 dX9_holdsSmall_55 rfl ?_
      refine v_sub [(0, _), (1, _), (2, _), (4, _)] [2, 3, 1, 0] rfl ?_
      exact hin _ (Option.some.inj hf).symm
    refine v_iload hG 3 rfl dX9_holdsSmall_5 ?_
    refine v_aload_n hG 0 rfl rfl dX9_holdsSmall_7 ?_
    refine m_g_0_1 hG wk_1067 dX9_holdsSmall_8 ?_
    refine v_icmp_ge hG 58 dX9_holdsSmall_11 rfl hf (fun hf => ?_) (fun hf => ?_)
    · refine v_sub [(0, _), (1, _), (2, _)] [0, 1, 2] rfl ?_
      exact hout _ (Option.some.inj hf).symm
    · refine v_lload_n hG 2 rfl rfl dX9_holdsSmall_14 ?_
      refine v_aload_n hG 0 rfl rfl dX9_holdsSmall_15 ?_
      refine v_iload_n hG 1 rfl rfl dX9_holdsSmall_16 ?_
      refine v_iload hG 3 rfl dX9_holdsSmall_17 ?_
      obtain ⟨r19, hr19, hf⟩ := bd_some hf
      refine v_callV hG (st := [.long s5.1]) 0 9 (ct_X9_isTerm l g ad w a0 s5.2 r19 hr19) iw_X9_isTerm wk_1276 rfl rfl ⟨rfl, rfl, Nat.le_of_ble_eq_true rfl, Nat.le_of_ble_eq_true rfl⟩ ⟨Nat.le_of_ble_eq_true rfl, Nat.le_of_ble_eq_true rfl⟩ rfl rfl (Nat.le_of_ble_eq_true rfl) (mcells_fst _ _ _ _) dX9_holdsSmall_19 ?_
      refine (show V p l e (k2_rm 1 22) s m args below meth c (inW (mcells g ad w)) (EN below args s g (mcells g ad w) (mcells g ad w) (some (.int rr))) g 5 (mcells g ad w) 0 0 22 [(0, .ref (ad 0)), (1, .int a0), (2, .long s5.1), (4, .int s5.2)] [.int r19, .long s5.1] from ?_)
      refine v_if_eq hG 49 dX9_holdsSmall_22 rfl hf (fun hf => ?_) (fun hf => ?_)
      · refine v_lconst hG (v := 0) (by decide) dX9_holdsSmall_49 ?_
        refine v_sub [(0, _), (1, _), (4, _)] [0, 1, 3] rfl ?_
        exact j50 s5.2 s5.1 0 hf
      · refine v_aload_n hG 0 rfl rfl dX9_holdsSmall_25 ?_
        refine m_g_0_20 hG wk_1086 dX9_holdsSmall_26 ?_
        refine v_bipush hG (v := 12) (by decide) dX9_holdsSmall_29 ?_
        refine v_iload_n hG 1 rfl rfl dX9_holdsSmall_31 ?_
        refine v_imul hG dX9_holdsSmall_32 ?_
        refine v_iload hG 3 rfl dX9_holdsSmall_33 ?_
        refine v_iadd hG dX9_holdsSmall_35 ?_
        refine m_l_17 hG dX9_holdsSmall_36 hf (fun hf => ?_)
        refine v_aload_n hG 0 rfl rfl dX9_holdsSmall_37 ?_
        refine m_g_0_40 hG wk_1106 dX9_holdsSmall_38 ?_
        refine v_iload hG 3 rfl dX9_holdsSmall_41 ?_
        refine m_l_30 hG dX9_holdsSmall_43 hf (fun hf => ?_)
        refine v_i2l hG dX9_holdsSmall_44 ?_
        refine v_lmul hG dX9_holdsSmall_45 ?_
        refine v_goto hG 50 dX9_holdsSmall_46 rfl ?_
        refine v_sub [(0, _), (1, _), (4, _)] [0, 1, 3] rfl ?_
        exact j50 s5.2 s5.1 (((gM_coef w) ((12 * a0) + s5.2).toNatClampNeg) * (((gM_point w) s5.2.toNatClampNeg).toInt64)) hf
  · show V p l e (k2_rm 1 22) s m args below meth c (inW (mcells g ad w)) (EN below args s g (mcells g ad w) (mcells g ad w) (some (.int rr))) g 5 (mcells g ad w) 0 0 58 [(0, .ref (ad 0)), (1, .int a0), (2, .long z5)] []
    refine v_aload_n hG 0 rfl rfl dX9_holdsSmall_58 ?_
    refine m_g_0_17 hG wk_1083 dX9_holdsSmall_59 ?_
    refine v_iload_n hG 1 rfl rfl dX9_holdsSmall_62 ?_
    refine m_l_14 hG dX9_holdsSmall_63 hf (fun hf => ?_)
    refine v_if_ne hG 101 dX9_holdsSmall_64 rfl hf (fun hf => ?_) (fun hf => ?_)
    · refine v_sub [] [] rfl ?_
      exact j101  hf
    · refine v_aload_n hG 0 rfl rfl dX9_holdsSmall_67 ?_
      refine m_g_0_16 hG wk_1082 dX9_holdsSmall_68 ?_
      refine v_iload_n hG 1 rfl rfl dX9_holdsSmall_71 ?_
      refine m_l_13 hG dX9_holdsSmall_72 hf (fun hf => ?_)
      refine v_if_ne hG 90 dX9_holdsSmall_73 rfl hf (fun hf => ?_) (fun hf => ?_)
      · refine v_lload_n hG 2 rfl rfl dX9_holdsSmall_90 ?_
        refine v_aload_n hG 0 rfl rfl dX9_holdsSmall_91 ?_
        refine m_g_0_18 hG wk_1084 dX9_holdsSmall_92 ?_
        refine v_iload_n hG 1 rfl rfl dX9_holdsSmall_95 ?_
        refine m_l_15 hG dX9_holdsSmall_96 hf (fun hf => ?_)
        refine v_lcmp_ne hG 105 dX9_holdsSmall_97 dX9_holdsSmall_98 rfl hf (fun hf => ?_) (fun hf => ?_)
        · refine v_iconst hG (v := 0) (by decide) dX9_holdsSmall_105 ?_
          cases hf
          exact v_zret (x := 0) hG hr rfl dX9_holdsSmall_106
        · refine v_sub [] [] rfl ?_
          exact j101  hf
      · refine v_lload_n hG 2 rfl rfl dX9_holdsSmall_76 ?_
        refine v_aload_n hG 0 rfl rfl dX9_holdsSmall_77 ?_
        refine m_g_0_18 hG wk_1084 dX9_holdsSmall_78 ?_
        refine v_iload_n hG 1 rfl rfl dX9_holdsSmall_81 ?_
        refine m_l_15 hG dX9_holdsSmall_82 hf (fun hf => ?_)
        refine v_lcmp_gt hG 105 dX9_holdsSmall_83 dX9_holdsSmall_84 rfl hf (fun hf => ?_) (fun hf => ?_)
        · refine v_iconst hG (v := 0) (by decide) dX9_holdsSmall_105 ?_
          cases hf
          exact v_zret (x := 0) hG hr rfl dX9_holdsSmall_106
        · refine v_goto hG 101 dX9_holdsSmall_87 rfl ?_
          refine v_sub [] [] rfl ?_
          exact j101  hf
def X9_certified_J105  (j105_0 : Int32) (j105_1 : Int32) : Option ((Int32 × Int32) ⊕ ((Int32))) := (some (.inl (j105_1, (j105_0 + 1))))
def X9_certified_J104  (j104_0 : Int32) : Option ((Int32 × Int32) ⊕ ((Int32))) := (X9_certified_J105 j104_0 0)
def X9_certified_J100  (j100_0 : Int32) : Option ((Int32 × Int32) ⊕ ((Int32))) := (X9_certified_J105 j100_0 1)
def X9_certified_L65 (s54 : MW × Int32 × Int32) (s65 : Int32 × Int32) : Option ((Int32 × Int32) ⊕ ((Int32))) := (if (gM_rows s54.1) ≤ s65.2 then (some (.inr s65.1)) else (if s65.1 = 0 then (X9_certified_J104 s65.2) else (if (((gM_certificate s54.1) >>> (s65.2 &&& 31)) &&& 1) = 0 then (X9_certified_J100 s65.2) else ((X9_holds s54.1 s65.2).bind (fun r94 : Int32 => (if r94 = 0 then (X9_certified_J104 s65.2) else (X9_certified_J100 s65.2)))))))
def X9_certified_J123  (j123_0 : MW) (j123_1 : Int32) (j123_2 : Int32) : Option ((MW × Int32 × Int32) ⊕ ((MW × Int32))) := ((X9_nextPoint j123_0 0).bind (fun r126 : MW => (some (.inl (r126, j123_2, (j123_1 + 1))))))
def X9_certified_L54 (r32 : Int32) (s54 : MW × Int32 × Int32) : Option ((MW × Int32 × Int32) ⊕ ((MW × Int32))) := (if r32 ≤ s54.2.2 then (some (.inr (s54.1, s54.2.1))) else ((iter (X9_certified_L65 s54) 5000 (1, 0)).bind (fun z65 : (Int32) => (if z65 = 0 then (X9_certified_J123 s54.1 s54.2.2 s54.2.1) else (X9_certified_J123 s54.1 s54.2.2 0)))))
def X9_certified_J21  (j21_0 : MW) (j21_1 : Int32) : Option (Int32 × MW) := ((X9_passes j21_0 j21_1 0).bind (fun r22 : Int32 × MW => (if r22.1 = 0 then (some (0, r22.2)) else ((X9_points r22.2 0).bind (fun r32 : Int32 => (if r32 ≤ 4000 then ((X9_firstPoint r22.2 0).bind (fun r47 : MW => ((iter (X9_certified_L54 r32) 5000 (r47, 1, 0)).bind (fun z54 : (MW × Int32) => (some (z54.2, z54.1)))))) else (some ((-1), r22.2))))))))
def X9_certified_J16  (j16_0 : MW) : Option (Int32 × MW) := (X9_certified_J21 j16_0 1)
def X9_certified (w : MW) : Option (Int32 × MW) := (if (gM_isSmall w) = 0 then (X9_certified_J16 w) else (if (gM_certificate w) = (-1) then (X9_certified_J16 w) else (X9_certified_J21 w 0)))
set_option maxRecDepth 100000 in
set_option maxHeartbeats 4000000 in
theorem ct_X9_certified (l : Launch) (g : wG) (ad : Nat → Nat) (w : MW)  (rr : Int32 × MW) (hf : X9_certified w = some rr) : MetN l g yX9_certified cX9_certified 6 (some .int) (k2_rm 1 26) [.ref (ad 0)] (mcells g ad w) (mcells g ad rr.2) (some (.int rr.1)) := by
  refine MetN.of2 [(0, .ref (ad 0))] rfl (by decide +kernel) (Nat.le_of_ble_eq_true rfl) ?_
  intro p e s m args below meth c hG hr
  unfold X9_certified at hf
  have j21 : ∀ (j21_0 : MW) (j21_1 : Int32), X9_certified_J21 j21_0 j21_1 = some rr → V p l e (k2_rm 1 26) s m args below meth c (inW (mcells g ad w)) (EN below args s g (mcells g ad w) (mcells g ad rr.2) (some (.int rr.1))) g 6 (mcells g ad j21_0) 0 0 21 [(0, .ref (ad 0))] [.int j21_1, .ref (ad 0)] := by
    intro j21_0 j21_1 hf
    unfold X9_certified_J21 at hf
    refine v_iconst hG (v := 0) (by decide) dX9_certified_21 ?_
    obtain ⟨r22, hr22, hf⟩ := bd_some hf
    refine v_callV hG (st := []) 0 9 (ct_X9_passes l g ad j21_0 j21_1 0 r22 hr22) iw_X9_passes wk_1212 rfl rfl ⟨rfl, rfl, Nat.le_of_ble_eq_true rfl, Nat.le_of_ble_eq_true rfl⟩ ⟨Nat.le_of_ble_eq_true rfl, Nat.le_of_ble_eq_true rfl⟩ rfl rfl (Nat.le_of_ble_eq_true rfl) (mcells_fst _ _ _ _) dX9_certified_22 ?_
    refine (show V p l e (k2_rm 1 26) s m args below meth c (inW (mcells g ad w)) (EN below args s g (mcells g ad w) (mcells g ad rr.2) (some (.int rr.1))) g 6 (mcells g ad r22.2) 0 0 25 [(0, .ref (ad 0))] [.int r22.1] from ?_)
    refine v_if_ne hG 30 dX9_certified_25 rfl hf (fun hf => ?_) (fun hf => ?_)
    · refine v_aload_n hG 0 rfl rfl dX9_certified_30 ?_
      refine v_iconst hG (v := 0) (by decide) dX9_certified_31 ?_
      obtain ⟨r32, hr32, hf⟩ := bd_some hf
      refine v_callV hG (st := []) 0 9 (ct_X9_points l g ad r22.2 0 r32 hr32) iw_X9_points wk_1441 rfl rfl ⟨rfl, rfl, Nat.le_of_ble_eq_true rfl, Nat.le_of_ble_eq_true rfl⟩ ⟨Nat.le_of_ble_eq_true rfl, Nat.le_of_ble_eq_true rfl⟩ rfl rfl (Nat.le_of_ble_eq_true rfl) (mcells_fst _ _ _ _) dX9_certified_32 ?_
      refine (show V p l e (k2_rm 1 26) s m args below meth c (inW (mcells g ad w)) (EN below args s g (mcells g ad w) (mcells g ad rr.2) (some (.int rr.1))) g 6 (mcells g ad r22.2) 0 0 35 [(0, .ref (ad 0))] [.int r32] from ?_)
      refine v_istore_n hG [(1, _), (0, _)] dX9_certified_35 rfl (by decide) rfl ?_
      refine v_iload_n hG 0 rfl rfl dX9_certified_36 ?_
      refine v_sipush hG (v := 4000) (by decide) dX9_certified_37 ?_
      refine v_icmp_le hG 45 dX9_certified_40 rfl hf (fun hf => ?_) (fun hf => ?_)
      · refine v_aload_n hG 1 rfl rfl dX9_certified_45 ?_
        refine v_iconst hG (v := 0) (by decide) dX9_certified_46 ?_
        obtain ⟨r47, hr47, hf⟩ := bd_some hf
        refine v_callV hG (st := []) 0 9 (ct_X9_firstPoint l g ad r22.2 0 r47 hr47) iw_X9_firstPoint wk_1447 rfl rfl ⟨rfl, rfl, Nat.le_of_ble_eq_true rfl, Nat.le_of_ble_eq_true rfl⟩ ⟨Nat.le_of_ble_eq_true rfl, Nat.le_of_ble_eq_true rfl⟩ rfl rfl (Nat.le_of_ble_eq_true rfl) (mcells_fst _ _ _ _) dX9_certified_47 ?_
        refine (show V p l e (k2_rm 1 26) s m args below meth c (inW (mcells g ad w)) (EN below args s g (mcells g ad w) (mcells g ad rr.2) (some (.int rr.1))) g 6 (mcells g ad r47) 0 0 50 [(1, .int r32), (0, .ref (ad 0))] [] from ?_)
        refine v_iconst hG (v := 1) (by decide) dX9_certified_50 ?_
        refine v_istore_n hG [(2, _), (1, _), (0, _)] dX9_certified_51 rfl (by decide) rfl ?_
        refine v_iconst hG (v := 0) (by decide) dX9_certified_52 ?_
        refine v_istore_n hG [(3, _), (2, _), (1, _), (0, _)] dX9_certified_53 rfl (by decide) rfl ?_
        refine v_sub [(0, _), (1, _), (2, _), (3, _)] [3, 2, 1, 0] rfl ?_
        obtain ⟨z54, hlz54, hf⟩ := bd_some hf
        refine loop_v (step := X9_certified_L54 r32) (fun s54 : MW × Int32 × Int32 => V p l e (k2_rm 1 26) s m args below meth c (inW (mcells g ad w)) (EN below args s g (mcells g ad w) (mcells g ad rr.2) (some (.int rr.1))) g 6 (mcells g ad s54.1) 0 0 54 [(0, .ref (ad 0)), (1, .int r32), (2, .int s54.2.1), (3, .int s54.2.2)] []) (fun z54_q : (MW × Int32) => V p l e (k2_rm 1 26) s m args below meth c (inW (mcells g ad w)) (EN below args s g (mcells g ad w) (mcells g ad rr.2) (some (.int rr.1))) g 6 (mcells g ad z54_q.1) 0 0 135 [(2, .int z54_q.2)] []) ?_ 5000 (r47, 1, 0) z54 hlz54 ?_
        · intro s54 rL hf hin hout
          unfold X9_certified_L54 at hf
          have j123 : ∀ (j123_0 : MW) (j123_1 : Int32) (j123_2 : Int32), X9_certified_J123 j123_0 j123_1 j123_2 = some rL → V p l e (k2_rm 1 26) s m args below meth c (inW (mcells g ad w)) (EN below args s g (mcells g ad w) (mcells g ad rr.2) (some (.int rr.1))) g 6 (mcells g ad j123_0) 0 0 123 [(0, .ref (ad 0)), (1, .int r32), (3, .int j123_1)] [.int j123_2] := by
            intro j123_0 j123_1 j123_2 hf
            unfold X9_certified_J123 at hf
            refine v_istore_n hG [(2, _), (0, _), (1, _), (3, _)] dX9_certified_123 rfl (by decide) rfl ?_
            refine v_aload_n hG 1 rfl rfl dX9_certified_124 ?_
            refine v_iconst hG (v := 0) (by decide) dX9_certified_125 ?_
            obtain ⟨r126, hr126, hf⟩ := bd_some hf
            refine v_callV hG (st := []) 0 9 (ct_X9_nextPoint l g ad j123_0 0 r126 hr126) iw_X9_nextPoint wk_1455 rfl rfl ⟨rfl, rfl, Nat.le_of_ble_eq_true rfl, Nat.le_of_ble_eq_true rfl⟩ ⟨Nat.le_of_ble_eq_true rfl, Nat.le_of_ble_eq_true rfl⟩ rfl rfl (Nat.le_of_ble_eq_true rfl) (mcells_fst _ _ _ _) dX9_certified_126 ?_
            refine (show V p l e (k2_rm 1 26) s m args below meth c (inW (mcells g ad w)) (EN below args s g (mcells g ad w) (mcells g ad rr.2) (some (.int rr.1))) g 6 (mcells g ad r126) 0 0 129 [(2, .int j123_2), (0, .ref (ad 0)), (1, .int r32), (3, .int j123_1)] [] from ?_)
            refine v_iinc hG 3 (v := j123_1 + 1) [(3, _), (2, _), (0, _), (1, _)] dX9_certified_129 rfl rfl (by decide) rfl ?_
            refine v_goto hG 54 dX9_certified_132 rfl ?_
            refine v_sub [(0, _), (1, _), (2, _), (3, _)] [2, 3, 1, 0] rfl ?_
            exact hin _ (Option.some.inj hf).symm
          refine v_iload_n hG 3 rfl rfl dX9_certified_54 ?_
          refine v_iload_n hG 1 rfl rfl dX9_certified_55 ?_
          refine v_icmp_ge hG 135 dX9_certified_56 rfl hf (fun hf => ?_) (fun hf => ?_)
          · refine v_sub [(2, _)] [2] rfl ?_
            exact hout _ (Option.some.inj hf).symm
          · refine v_iconst hG (v := 1) (by decide) dX9_certified_59 ?_
            refine v_istore hG [(4, _), (0, _), (1, _), (2, _), (3, _)] dX9_certified_60 (by decide) rfl ?_
            refine v_iconst hG (v := 0) (by decide) dX9_certified_62 ?_
            refine v_istore hG [(5, _), (4, _), (0, _), (1, _), (2, _), (3, _)] dX9_certified_63 (by decide) rfl ?_
            refine v_sub [(0, _), (1, _), (2, _), (3, _), (4, _), (5, _)] [2, 3, 4, 5, 1, 0] rfl ?_
            obtain ⟨z65, hlz65, hf⟩ := bd_some hf
            refine loop_v (step := X9_certified_L65 s54) (fun s65 : Int32 × Int32 => V p l e (k2_rm 1 26) s m args below meth c (inW (mcells g ad w)) (EN below args s g (mcells g ad w) (mcells g ad rr.2) (some (.int rr.1))) g 6 (mcells g ad s54.1) 0 0 65 [(0, .ref (ad 0)), (1, .int r32), (2, .int s54.2.1), (3, .int s54.2.2), (4, .int s65.1), (5, .int s65.2)] []) (fun z65_q : (Int32) => V p l e (k2_rm 1 26) s m args below meth c (inW (mcells g ad w)) (EN below args s g (mcells g ad w) (mcells g ad rr.2) (some (.int rr.1))) g 6 (mcells g ad s54.1) 0 0 113 [(0, .ref (ad 0)), (1, .int r32), (2, .int s54.2.1), (3, .int s54.2.2), (4, .int z65_q)] []) ?_ 5000 (1, 0) z65 hlz65 ?_
            · intro s65 rL hf hin hout
              unfold X9_certified_L65 at hf
              have j105 : ∀ (j105_0 : Int32) (j105_1 : Int32), X9_certified_J105 j105_0 j105_1 = some rL → V p l e (k2_rm 1 26) s m args below meth c (inW (mcells g ad w)) (EN below args s g (mcells g ad w) (mcells g ad rr.2) (some (.int rr.1))) g 6 (mcells g ad s54.1) 0 0 105 [(0, .ref (ad 0)), (1, .int r32), (2, .int s54.2.1), (3, .int s54.2.2), (5, .int j105_0)] [.int j105_1] := by
                intro j105_0 j105_1 hf
                unfold X9_certified_J105 at hf
                refine v_istore hG [(4, _), (0, _), (1, _), (2, _), (3, _), (5, _)] dX9_certified_105 (by decide) rfl ?_
                refine v_iinc hG 5 (v := j105_0 + 1) [(5, _), (4, _), (0, _), (1, _), (2, _), (3, _)] dX9_certified_107 rfl rfl (by decide) rfl ?_
                refine v_goto hG 65 dX9_certified_110 rfl ?_
                refine v_sub [(0, _), (1, _), (2, _), (3, _), (4, _), (5, _)] [2, 3, 4, 5, 1, 0] rfl ?_
                exact hin _ (Option.some.inj hf).symm
              have j104 : ∀ (j104_0 : Int32), X9_certified_J104 j104_0 = some rL → V p l e (k2_rm 1 26) s m args below meth c (inW (mcells g ad w)) (EN below args s g (mcells g ad w) (mcells g ad rr.2) (some (.int rr.1))) g 6 (mcells g ad s54.1) 0 0 104 [(0, .ref (ad 0)), (1, .int r32), (2, .int s54.2.1), (3, .int s54.2.2), (5, .int j104_0)] [] := by
                intro j104_0 hf
                unfold X9_certified_J104 at hf
                refine v_iconst hG (v := 0) (by decide) dX9_certified_104 ?_
                exact j105 j104_0 0 hf
              have j100 : ∀ (j100_0 : Int32), X9_certified_J100 j100_0 = some rL → V p l e (k2_rm 1 26) s m args below meth c (inW (mcells g ad w)) (EN below args s g (mcells g ad w) (mcells g ad rr.2) (some (.int rr.1))) g 6 (mcells g ad s54.1) 0 0 100 [(0, .ref (ad 0)), (1, .int r32), (2, .int s54.2.1), (3, .int s54.2.2), (5, .int j100_0)] [] := by
                intro j100_0 hf
                unfold X9_certified_J100 at hf
                refine v_iconst hG (v := 1) (by decide) dX9_certified_100 ?_
                refine v_goto hG 105 dX9_certified_101 rfl ?_
                exact j105 j100_0 1 hf
              refine v_iload hG 5 rfl dX9_certified_65 ?_
              refine v_aload_n hG 0 rfl rfl dX9_certified_67 ?_
              refine m_g_0_2 hG wk_1068 dX9_certified_68 ?_
              refine v_icmp_ge hG 113 dX9_certified_71 rfl hf (fun hf => ?_) (fun hf => ?_)
              · refine v_sub [(0, _), (1, _), (2, _), (3, _), (4, _)] [0, 1, 2, 3, 4] rfl ?_
                exact hout _ (Option.some.inj hf).symm
              · refine v_iload hG 4 rfl dX9_certified_74 ?_
                refine v_if_eq hG 104 dX9_certified_76 rfl hf (fun hf => ?_) (fun hf => ?_)
                · refine v_sub [(0, _), (1, _), (2, _), (3, _), (5, _)] [0, 1, 2, 3, 5] rfl ?_
                  exact j104 s65.2 hf
                · refine v_aload_n hG 0 rfl rfl dX9_certified_79 ?_
                  refine m_g_0_22 hG wk_1088 dX9_certified_80 ?_
                  refine v_iload hG 5 rfl dX9_certified_83 ?_
                  refine v_ishr hG dX9_certified_85 ?_
                  refine v_iconst hG (v := 1) (by decide) dX9_certified_86 ?_
                  refine v_iand hG dX9_certified_87 ?_
                  refine v_if_eq hG 100 dX9_certified_88 rfl hf (fun hf => ?_) (fun hf => ?_)
                  · refine v_sub [(0, _), (1, _), (2, _), (3, _), (5, _)] [0, 1, 2, 3, 5] rfl ?_
                    exact j100 s65.2 hf
                  · refine v_aload_n hG 0 rfl rfl dX9_certified_91 ?_
                    refine v_iload hG 5 rfl dX9_certified_92 ?_
                    obtain ⟨r94, hr94, hf⟩ := bd_some hf
                    refine v_callV hG (st := []) 0 9 (ct_X9_holds l g ad s54.1 s65.2 r94 hr94) iw_X9_holds wk_1451 rfl rfl ⟨rfl, rfl, Nat.le_of_ble_eq_true rfl, Nat.le_of_ble_eq_true rfl⟩ ⟨Nat.le_of_ble_eq_true rfl, Nat.le_of_ble_eq_true rfl⟩ rfl rfl (Nat.le_of_ble_eq_true rfl) (mcells_fst _ _ _ _) dX9_certified_94 ?_
                    refine (show V p l e (k2_rm 1 26) s m args below meth c (inW (mcells g ad w)) (EN below args s g (mcells g ad w) (mcells g ad rr.2) (some (.int rr.1))) g 6 (mcells g ad s54.1) 0 0 97 [(0, .ref (ad 0)), (1, .int r32), (2, .int s54.2.1), (3, .int s54.2.2), (4, .int s65.1), (5, .int s65.2)] [.int r94] from ?_)
                    refine v_if_eq hG 104 dX9_certified_97 rfl hf (fun hf => ?_) (fun hf => ?_)
                    · refine v_sub [(0, _), (1, _), (2, _), (3, _), (5, _)] [0, 1, 2, 3, 5] rfl ?_
                      exact j104 s65.2 hf
                    · refine v_sub [(0, _), (1, _), (2, _), (3, _), (5, _)] [0, 1, 2, 3, 5] rfl ?_
                      exact j100 s65.2 hf
            · show V p l e (k2_rm 1 26) s m args below meth c (inW (mcells g ad w)) (EN below args s g (mcells g ad w) (mcells g ad rr.2) (some (.int rr.1))) g 6 (mcells g ad s54.1) 0 0 113 [(0, .ref (ad 0)), (1, .int r32), (2, .int s54.2.1), (3, .int s54.2.2), (4, .int z65)] []
              refine v_iload hG 4 rfl dX9_certified_113 ?_
              refine v_if_eq hG 122 dX9_certified_115 rfl hf (fun hf => ?_) (fun hf => ?_)
              · refine v_iload_n hG 2 rfl rfl dX9_certified_122 ?_
                refine v_sub [(0, _), (1, _), (3, _)] [0, 1, 3] rfl ?_
                exact j123 s54.1 s54.2.2 s54.2.1 hf
              · refine v_iconst hG (v := 0) (by decide) dX9_certified_118 ?_
                refine v_goto hG 123 dX9_certified_119 rfl ?_
                refine v_sub [(0, _), (1, _), (3, _)] [0, 1, 3] rfl ?_
                exact j123 s54.1 s54.2.2 0 hf
        · show V p l e (k2_rm 1 26) s m args below meth c (inW (mcells g ad w)) (EN below args s g (mcells g ad w) (mcells g ad rr.2) (some (.int rr.1))) g 6 (mcells g ad z54.1) 0 0 135 [(2, .int z54.2)] []
          refine v_iload_n hG 0 rfl rfl dX9_certified_135 ?_
          cases hf
          exact v_iret hG hr dX9_certified_136
      · refine v_iconst hG (v := -1) (by decide) dX9_certified_43 ?_
        cases hf
        exact v_iret hG hr dX9_certified_44
    · refine v_iconst hG (v := 0) (by decide) dX9_certified_28 ?_
      cases hf
      exact v_iret hG hr dX9_certified_29
  have j16 : ∀ (j16_0 : MW), X9_certified_J16 j16_0 = some rr → V p l e (k2_rm 1 26) s m args below meth c (inW (mcells g ad w)) (EN below args s g (mcells g ad w) (mcells g ad rr.2) (some (.int rr.1))) g 6 (mcells g ad j16_0) 0 0 16 [(0, .ref (ad 0))] [.ref (ad 0)] := by
    intro j16_0 hf
    unfold X9_certified_J16 at hf
    refine v_iconst hG (v := 1) (by decide) dX9_certified_16 ?_
    refine v_goto hG 21 dX9_certified_17 rfl ?_
    exact j21 j16_0 1 hf
  refine v_aload_n hG 0 rfl rfl dX9_certified_0 ?_
  refine v_aload_n hG 0 rfl rfl dX9_certified_1 ?_
  refine m_g_0_9 hG wk_1075 dX9_certified_2 ?_
  refine v_if_eq hG 16 dX9_certified_5 rfl hf (fun hf => ?_) (fun hf => ?_)
  · exact j16 w hf
  · refine v_aload_n hG 0 rfl rfl dX9_certified_8 ?_
    refine m_g_0_22 hG wk_1088 dX9_certified_9 ?_
    refine v_iconst hG (v := -1) (by decide) dX9_certified_12 ?_
    refine v_icmp_ne hG 20 dX9_certified_13 rfl hf (fun hf => ?_) (fun hf => ?_)
    · refine v_iconst hG (v := 0) (by decide) dX9_certified_20 ?_
      exact j21 w 0 hf
    · exact j16 w hf
def X9_acts_J13  (j13_0 : MW) (j13_1 : Int32) : Option (Int32 × MW) := ((X9_passes j13_0 j13_1 0).bind (fun r14 : Int32 × MW => (if r14.1 = 0 then (some (0, r14.2)) else (some ((gM_acts r14.2), r14.2)))))
def X9_acts (w : MW) : Option (Int32 × MW) := (if (gM_isSmall w) = 0 then (X9_acts_J13 w 1) else (X9_acts_J13 w 0))
set_option maxRecDepth 100000 in
set_option maxHeartbeats 4000000 in
theorem ct_X9_acts (l : Launch) (g : wG) (ad : Nat → Nat) (w : MW)  (rr : Int32 × MW) (hf : X9_acts w = some rr) : MetN l g yX9_acts cX9_acts 1 (some .int) (k2_rm 1 22) [.ref (ad 0)] (mcells g ad w) (mcells g ad rr.2) (some (.int rr.1)) := by
  refine MetN.of2 [(0, .ref (ad 0))] rfl (by decide +kernel) (Nat.le_of_ble_eq_true rfl) ?_
  intro p e s m args below meth c hG hr
  unfold X9_acts at hf
  have j13 : ∀ (j13_0 : MW) (j13_1 : Int32), X9_acts_J13 j13_0 j13_1 = some rr → V p l e (k2_rm 1 22) s m args below meth c (inW (mcells g ad w)) (EN below args s g (mcells g ad w) (mcells g ad rr.2) (some (.int rr.1))) g 1 (mcells g ad j13_0) 0 0 13 [(0, .ref (ad 0))] [.int j13_1, .ref (ad 0)] := by
    intro j13_0 j13_1 hf
    unfold X9_acts_J13 at hf
    refine v_iconst hG (v := 0) (by decide) dX9_acts_13 ?_
    obtain ⟨r14, hr14, hf⟩ := bd_some hf
    refine v_callV hG (st := []) 0 9 (ct_X9_passes l g ad j13_0 j13_1 0 r14 hr14) iw_X9_passes wk_1212 rfl rfl ⟨rfl, rfl, Nat.le_of_ble_eq_true rfl, Nat.le_of_ble_eq_true rfl⟩ ⟨Nat.le_of_ble_eq_true rfl, Nat.le_of_ble_eq_true rfl⟩ rfl rfl (Nat.le_of_ble_eq_true rfl) (mcells_fst _ _ _ _) dX9_acts_14 ?_
    refine (show V p l e (k2_rm 1 22) s m args below meth c (inW (mcells g ad w)) (EN below args s g (mcells g ad w) (mcells g ad rr.2) (some (.int rr.1))) g 1 (mcells g ad r14.2) 0 0 17 [(0, .ref (ad 0))] [.int r14.1] from ?_)
    refine v_if_eq hG 27 dX9_acts_17 rfl hf (fun hf => ?_) (fun hf => ?_)
    · refine v_iconst hG (v := 0) (by decide) dX9_acts_27 ?_
      cases hf
      exact v_iret hG hr dX9_acts_28
    · refine v_aload_n hG 0 rfl rfl dX9_acts_20 ?_
      refine m_g_0_23 hG wk_1089 dX9_acts_21 ?_
      refine v_goto hG 28 dX9_acts_24 rfl ?_
      cases hf
      exact v_iret hG hr dX9_acts_28
  refine v_aload_n hG 0 rfl rfl dX9_acts_0 ?_
  refine v_aload_n hG 0 rfl rfl dX9_acts_1 ?_
  refine m_g_0_9 hG wk_1075 dX9_acts_2 ?_
  refine v_if_ne hG 12 dX9_acts_5 rfl hf (fun hf => ?_) (fun hf => ?_)
  · refine v_iconst hG (v := 0) (by decide) dX9_acts_12 ?_
    exact j13 w 0 hf
  · refine v_iconst hG (v := 1) (by decide) dX9_acts_8 ?_
    refine v_goto hG 13 dX9_acts_9 rfl ?_
    exact j13 w 1 hf
def X9_act__J69 (a0 : Int32) (a1 : Int32) (j69_0 : MW) (j69_1 : Int32) (j69_2 : Int32) (j69_3 : Int32) : Option (Int64 × MW) := ((X9_passes3 j69_0 j69_1 j69_2 j69_3).bind (fun r69 : Int32 × MW => (if r69.1 = 0 then (some (0, r69.2)) else (if a1 = 0 then (if inR a0 400 = true then (some (((gM_actRule r69.2) a0.toNatClampNeg).toInt64, r69.2)) else none) else (if a1 = 1 then (if inR a0 400 = true then (some (((gM_actRow r69.2) a0.toNatClampNeg).toInt64, r69.2)) else none) else (if a1 = 2 then (if inR a0 400 = true then (some (((gM_actColumn r69.2) a0.toNatClampNeg).toInt64, r69.2)) else none) else (if a1 = 3 then (if inR a0 400 = true then (some (((gM_actWhat r69.2) a0.toNatClampNeg).toInt64, r69.2)) else none) else (if inR a0 400 = true then (some (((gM_actValue r69.2) a0.toNatClampNeg), r69.2)) else none))))))))
def X9_act__J52 (a0 : Int32) (a1 : Int32) (j52_0 : MW) (j52_1 : Int32) (j52_2 : Int32) : Option (Int64 × MW) := ((X9_within a1.toInt64 0 4).bind (fun r58 : Int32 => (if r58 = 0 then (X9_act__J69 a0 a1 j52_0 j52_1 j52_2 1) else (X9_act__J69 a0 a1 j52_0 j52_1 j52_2 0))))
def X9_act__J34 (a0 : Int32) (a1 : Int32) (j34_0 : MW) (j34_1 : Int32) (j34_2 : Int32) : Option (Int64 × MW) := ((X9_within a0.toInt64 0 ((j34_1 - 1).toInt64)).bind (fun r41 : Int32 => (if r41 = 0 then (X9_act__J52 a0 a1 j34_0 j34_2 1) else (X9_act__J52 a0 a1 j34_0 j34_2 0))))
def X9_act__J20 (a0 : Int32) (a1 : Int32) (j20_0 : MW) (j20_1 : Int32) : Option (Int64 × MW) := (if (gM_isSmall j20_0) = 0 then (X9_act__J34 a0 a1 j20_0 j20_1 1) else (X9_act__J34 a0 a1 j20_0 j20_1 0))
def X9_act_ (w : MW) (a0 : Int32) (a1 : Int32) : Option (Int64 × MW) := (if 400 ≤ (gM_acts w) then (X9_act__J20 a0 a1 w 400) else (X9_act__J20 a0 a1 w (gM_acts w)))
set_option maxRecDepth 100000 in
set_option maxHeartbeats 4000000 in
theorem ct_X9_act_ (l : Launch) (g : wG) (ad : Nat → Nat) (w : MW) (a0 : Int32) (a1 : Int32) (rr : Int64 × MW) (hf : X9_act_ w a0 a1 = some rr) : MetN l g yX9_act_ cX9_act_ 4 (some .long) (k2_rm 1 25) [.ref (ad 0), .int a0, .int a1] (mcells g ad w) (mcells g ad rr.2) (some (.long rr.1)) := by
  refine MetN.of2 [(0, .ref (ad 0)), (1, .int a0), (2, .int a1)] rfl (by decide +kernel) (Nat.le_of_ble_eq_true rfl) ?_
  intro p e s m args below meth c hG hr
  unfold X9_act_ at hf
  have j69 : ∀ (j69_0 : MW) (j69_1 : Int32) (j69_2 : Int32) (j69_3 : Int32), X9_act__J69 a0 a1 j69_0 j69_1 j69_2 j69_3 = some rr → V p l e (k2_rm 1 25) s m args below meth c (inW (mcells g ad w)) (EN below args s g (mcells g ad w) (mcells g ad rr.2) (some (.long rr.1))) g 4 (mcells g ad j69_0) 0 0 69 [(0, .ref (ad 0)), (1, .int a0), (2, .int a1)] [.int j69_3, .int j69_2, .int j69_1, .ref (ad 0)] := by
    intro j69_0 j69_1 j69_2 j69_3 hf
    unfold X9_act__J69 at hf
    obtain ⟨r69, hr69, hf⟩ := bd_some hf
    refine v_callV hG (st := []) 0 9 (ct_X9_passes3 l g ad j69_0 j69_1 j69_2 j69_3 r69 hr69) iw_X9_passes3 wk_1429 rfl rfl ⟨rfl, rfl, Nat.le_of_ble_eq_true rfl, Nat.le_of_ble_eq_true rfl⟩ ⟨Nat.le_of_ble_eq_true rfl, Nat.le_of_ble_eq_true rfl⟩ rfl rfl (Nat.le_of_ble_eq_true rfl) (mcells_fst _ _ _ _) dX9_act__69 ?_
    refine (show V p l e (k2_rm 1 25) s m args below meth c (inW (mcells g ad w)) (EN below args s g (mcells g ad w) (mcells g ad rr.2) (some (.long rr.1))) g 4 (mcells g ad r69.2) 0 0 72 [(0, .ref (ad 0)), (1, .int a0), (2, .int a1)] [.int r69.1] from ?_)
    refine v_if_ne hG 77 dX9_act__72 rfl hf (fun hf => ?_) (fun hf => ?_)
    · refine v_iload_n hG 2 rfl rfl dX9_act__77 ?_
      refine v_if_ne hG 91 dX9_act__78 rfl hf (fun hf => ?_) (fun hf => ?_)
      · refine v_iload_n hG 2 rfl rfl dX9_act__91 ?_
        refine v_iconst hG (v := 1) (by decide) dX9_act__92 ?_
        refine v_icmp_ne hG 106 dX9_act__93 rfl hf (fun hf => ?_) (fun hf => ?_)
        · refine v_iload_n hG 2 rfl rfl dX9_act__106 ?_
          refine v_iconst hG (v := 2) (by decide) dX9_act__107 ?_
          refine v_icmp_ne hG 121 dX9_act__108 rfl hf (fun hf => ?_) (fun hf => ?_)
          · refine v_iload_n hG 2 rfl rfl dX9_act__121 ?_
            refine v_iconst hG (v := 3) (by decide) dX9_act__122 ?_
            refine v_icmp_ne hG 136 dX9_act__123 rfl hf (fun hf => ?_) (fun hf => ?_)
            · refine v_aload_n hG 0 rfl rfl dX9_act__136 ?_
              refine m_g_0_28 hG wk_1094 dX9_act__137 ?_
              refine v_iload_n hG 1 rfl rfl dX9_act__140 ?_
              refine m_l_22 hG dX9_act__141 hf (fun hf => ?_)
              cases hf
              exact v_lret hG hr dX9_act__142
            · refine v_aload_n hG 0 rfl rfl dX9_act__126 ?_
              refine m_g_0_27 hG wk_1093 dX9_act__127 ?_
              refine v_iload_n hG 1 rfl rfl dX9_act__130 ?_
              refine m_l_21 hG dX9_act__131 hf (fun hf => ?_)
              refine v_i2l hG dX9_act__132 ?_
              refine v_goto hG 142 dX9_act__133 rfl ?_
              cases hf
              exact v_lret hG hr dX9_act__142
          · refine v_aload_n hG 0 rfl rfl dX9_act__111 ?_
            refine m_g_0_26 hG wk_1092 dX9_act__112 ?_
            refine v_iload_n hG 1 rfl rfl dX9_act__115 ?_
            refine m_l_20 hG dX9_act__116 hf (fun hf => ?_)
            refine v_i2l hG dX9_act__117 ?_
            refine v_goto hG 142 dX9_act__118 rfl ?_
            cases hf
            exact v_lret hG hr dX9_act__142
        · refine v_aload_n hG 0 rfl rfl dX9_act__96 ?_
          refine m_g_0_25 hG wk_1091 dX9_act__97 ?_
          refine v_iload_n hG 1 rfl rfl dX9_act__100 ?_
          refine m_l_19 hG dX9_act__101 hf (fun hf => ?_)
          refine v_i2l hG dX9_act__102 ?_
          refine v_goto hG 142 dX9_act__103 rfl ?_
          cases hf
          exact v_lret hG hr dX9_act__142
      · refine v_aload_n hG 0 rfl rfl dX9_act__81 ?_
        refine m_g_0_24 hG wk_1090 dX9_act__82 ?_
        refine v_iload_n hG 1 rfl rfl dX9_act__85 ?_
        refine m_l_18 hG dX9_act__86 hf (fun hf => ?_)
        refine v_i2l hG dX9_act__87 ?_
        refine v_goto hG 142 dX9_act__88 rfl ?_
        cases hf
        exact v_lret hG hr dX9_act__142
    · refine v_lconst hG (v := 0) (by decide) dX9_act__75 ?_
      cases hf
      exact v_lret hG hr dX9_act__76
  have j52 : ∀ (j52_0 : MW) (j52_1 : Int32) (j52_2 : Int32), X9_act__J52 a0 a1 j52_0 j52_1 j52_2 = some rr → V p l e (k2_rm 1 25) s m args below meth c (inW (mcells g ad w)) (EN below args s g (mcells g ad w) (mcells g ad rr.2) (some (.long rr.1))) g 4 (mcells g ad j52_0) 0 0 52 [(0, .ref (ad 0)), (1, .int a0), (2, .int a1)] [.int j52_2, .int j52_1, .ref (ad 0)] := by
    intro j52_0 j52_1 j52_2 hf
    unfold X9_act__J52 at hf
    refine v_iload_n hG 2 rfl rfl dX9_act__52 ?_
    refine v_i2l hG dX9_act__53 ?_
    refine v_lconst hG (v := 0) (by decide) dX9_act__54 ?_
    refine v_ldc2 hG wk_1467 dX9_act__55 ?_
    obtain ⟨r58, hr58, hf⟩ := bd_some hf
    refine v_callP hG (st := [.int j52_2, .int j52_1, .ref (ad 0)]) (ct_X9_within l g a1.toInt64 0 4 r58 hr58) sw_X9_within wk_1207 ⟨rfl, rfl, Nat.le_of_ble_eq_true rfl, Nat.le_of_ble_eq_true rfl⟩ ⟨Nat.le_of_ble_eq_true rfl, Nat.le_of_ble_eq_true rfl⟩ rfl rfl (Nat.le_of_ble_eq_true rfl) dX9_act__58 ?_
    refine (show V p l e (k2_rm 1 25) s m args below meth c (inW (mcells g ad w)) (EN below args s g (mcells g ad w) (mcells g ad rr.2) (some (.long rr.1))) g 4 (mcells g ad j52_0) 0 0 61 [(0, .ref (ad 0)), (1, .int a0), (2, .int a1)] [.int r58, .int j52_2, .int j52_1, .ref (ad 0)] from ?_)
    refine v_if_ne hG 68 dX9_act__61 rfl hf (fun hf => ?_) (fun hf => ?_)
    · refine v_iconst hG (v := 0) (by decide) dX9_act__68 ?_
      exact j69 j52_0 j52_1 j52_2 0 hf
    · refine v_iconst hG (v := 1) (by decide) dX9_act__64 ?_
      refine v_goto hG 69 dX9_act__65 rfl ?_
      exact j69 j52_0 j52_1 j52_2 1 hf
  have j34 : ∀ (j34_0 : MW) (j34_1 : Int32) (j34_2 : Int32), X9_act__J34 a0 a1 j34_0 j34_1 j34_2 = some rr → V p l e (k2_rm 1 25) s m args below meth c (inW (mcells g ad w)) (EN below args s g (mcells g ad w) (mcells g ad rr.2) (some (.long rr.1))) g 4 (mcells g ad j34_0) 0 0 34 [(0, .ref (ad 0)), (1, .int a0), (2, .int a1), (3, .int j34_1)] [.int j34_2, .ref (ad 0)] := by
    intro j34_0 j34_1 j34_2 hf
    unfold X9_act__J34 at hf
    refine v_iload_n hG 1 rfl rfl dX9_act__34 ?_
    refine v_i2l hG dX9_act__35 ?_
    refine v_lconst hG (v := 0) (by decide) dX9_act__36 ?_
    refine v_iload_n hG 3 rfl rfl dX9_act__37 ?_
    refine v_iconst hG (v := 1) (by decide) dX9_act__38 ?_
    refine v_isub hG dX9_act__39 ?_
    refine v_i2l hG dX9_act__40 ?_
    obtain ⟨r41, hr41, hf⟩ := bd_some hf
    refine v_callP hG (st := [.int j34_2, .ref (ad 0)]) (ct_X9_within l g a0.toInt64 0 ((j34_1 - 1).toInt64) r41 hr41) sw_X9_within wk_1207 ⟨rfl, rfl, Nat.le_of_ble_eq_true rfl, Nat.le_of_ble_eq_true rfl⟩ ⟨Nat.le_of_ble_eq_true rfl, Nat.le_of_ble_eq_true rfl⟩ rfl rfl (Nat.le_of_ble_eq_true rfl) dX9_act__41 ?_
    refine (show V p l e (k2_rm 1 25) s m args below meth c (inW (mcells g ad w)) (EN below args s g (mcells g ad w) (mcells g ad rr.2) (some (.long rr.1))) g 4 (mcells g ad j34_0) 0 0 44 [(0, .ref (ad 0)), (1, .int a0), (2, .int a1), (3, .int j34_1)] [.int r41, .int j34_2, .ref (ad 0)] from ?_)
    refine v_if_ne hG 51 dX9_act__44 rfl hf (fun hf => ?_) (fun hf => ?_)
    · refine v_iconst hG (v := 0) (by decide) dX9_act__51 ?_
      refine v_sub [(0, _), (1, _), (2, _)] [0, 1, 2] rfl ?_
      exact j52 j34_0 j34_2 0 hf
    · refine v_iconst hG (v := 1) (by decide) dX9_act__47 ?_
      refine v_goto hG 52 dX9_act__48 rfl ?_
      refine v_sub [(0, _), (1, _), (2, _)] [0, 1, 2] rfl ?_
      exact j52 j34_0 j34_2 1 hf
  have j20 : ∀ (j20_0 : MW) (j20_1 : Int32), X9_act__J20 a0 a1 j20_0 j20_1 = some rr → V p l e (k2_rm 1 25) s m args below meth c (inW (mcells g ad w)) (EN below args s g (mcells g ad w) (mcells g ad rr.2) (some (.long rr.1))) g 4 (mcells g ad j20_0) 0 0 20 [(0, .ref (ad 0)), (1, .int a0), (2, .int a1)] [.int j20_1] := by
    intro j20_0 j20_1 hf
    unfold X9_act__J20 at hf
    refine v_istore_n hG [(3, _), (0, _), (1, _), (2, _)] dX9_act__20 rfl (by decide) rfl ?_
    refine v_aload_n hG 1 rfl rfl dX9_act__21 ?_
    refine v_aload_n hG 1 rfl rfl dX9_act__22 ?_
    refine m_g_0_9 hG wk_1075 dX9_act__23 ?_
    refine v_if_ne hG 33 dX9_act__26 rfl hf (fun hf => ?_) (fun hf => ?_)
    · refine v_iconst hG (v := 0) (by decide) dX9_act__33 ?_
      refine v_sub [(0, _), (1, _), (2, _), (3, _)] [1, 2, 3, 0] rfl ?_
      exact j34 j20_0 j20_1 0 hf
    · refine v_iconst hG (v := 1) (by decide) dX9_act__29 ?_
      refine v_goto hG 34 dX9_act__30 rfl ?_
      refine v_sub [(0, _), (1, _), (2, _), (3, _)] [1, 2, 3, 0] rfl ?_
      exact j34 j20_0 j20_1 1 hf
  refine v_aload_n hG 0 rfl rfl dX9_act__0 ?_
  refine m_g_0_23 hG wk_1089 dX9_act__1 ?_
  refine v_sipush hG (v := 400) (by decide) dX9_act__4 ?_
  refine v_icmp_ge hG 17 dX9_act__7 rfl hf (fun hf => ?_) (fun hf => ?_)
  · refine v_sipush hG (v := 400) (by decide) dX9_act__17 ?_
    exact j20 w 400 hf
  · refine v_aload_n hG 0 rfl rfl dX9_act__10 ?_
    refine m_g_0_23 hG wk_1089 dX9_act__11 ?_
    refine v_goto hG 20 dX9_act__14 rfl ?_
    exact j20 w (gM_acts w) hf
def X9_joinParts_J51  (j51_0 : Int32) (j51_1 : Int32) : Option ((Int32 × Int32) ⊕ ((Int32))) := (some (.inl (j51_1, (j51_0 + 1))))
def X9_joinParts_J50  (j50_0 : Int32) (j50_1 : Int32) : Option ((Int32 × Int32) ⊕ ((Int32))) := (X9_joinParts_J51 j50_1 j50_0)
def X9_joinParts_L5 (w : MW) (a0 : Int32) (s5 : Int32 × Int32) : Option ((Int32 × Int32) ⊕ ((Int32))) := (if (gM_columns w) ≤ s5.2 then (some (.inr s5.1)) else (if inR a0 12 = true then (if ((gM_gone w) a0.toNatClampNeg) = 0 then ((X9_isTerm w a0 s5.2).bind (fun r25 : Int32 => (if r25 = 0 then (X9_joinParts_J50 s5.1 s5.2) else (if inR s5.2 12 = true then (if s5.1 ≤ ((gM_part w) s5.2.toNatClampNeg) then (X9_joinParts_J50 s5.1 s5.2) else (if inR s5.2 12 = true then (X9_joinParts_J51 s5.2 ((gM_part w) s5.2.toNatClampNeg)) else none)) else none)))) else (some (.inr s5.1))) else none))
def X9_joinParts_J101  (j101_0 : MW) (j101_1 : Int32) (j101_2 : Int32) (j101_3 : Int32) : Option ((MW × Int32) ⊕ ((MW))) := (if inR j101_2 12 = true then (bnd (sM_part j101_0 (upd (gM_part j101_0) j101_2.toNatClampNeg j101_3)) (fun w101 : MW => (some (.inl (w101, (j101_1 + 1)))))) else none)
def X9_joinParts_L60 (a0 : Int32) (z5 : (Int32)) (s60 : MW × Int32) : Option ((MW × Int32) ⊕ ((MW))) := (if (gM_columns s60.1) ≤ s60.2 then (some (.inr s60.1)) else (if inR a0 12 = true then (if ((gM_gone s60.1) a0.toNatClampNeg) = 0 then ((X9_isTerm s60.1 a0 s60.2).bind (fun r85 : Int32 => (if r85 = 0 then (if inR s60.2 12 = true then (X9_joinParts_J101 s60.1 s60.2 s60.2 ((gM_part s60.1) s60.2.toNatClampNeg)) else none) else (X9_joinParts_J101 s60.1 s60.2 s60.2 z5)))) else (some (.inr s60.1))) else none))
def X9_joinParts (w : MW) (a0 : Int32) : Option (MW) := ((iter (X9_joinParts_L5 w a0) 5000 (12, 0)).bind (fun z5 : (Int32) => ((iter (X9_joinParts_L60 a0 z5) 5000 (w, 0)).bind (fun z60 : (MW) => (some z60)))))
set_option maxRecDepth 100000 in
set_option maxHeartbeats 4000000 in
theorem ct_X9_joinParts (l : Launch) (g : wG) (ad : Nat → Nat) (w : MW) (a0 : Int32) (rr : MW) (hf : X9_joinParts w a0 = some rr) : MetN l g yX9_joinParts cX9_joinParts 4 none (k2_rm 1 22) [.ref (ad 0), .int a0] (mcells g ad w) (mcells g ad rr) none := by
  refine MetN.of2 [(0, .ref (ad 0)), (1, .int a0)] rfl (by decide +kernel) (Nat.le_of_ble_eq_true rfl) ?_
  intro p e s m args below meth c hG hr
  unfold X9_joinParts at hf
  refine v_bipush hG (v := 12) (by decide) dX9_joinParts_0 ?_
  refine v_istore_n hG [(2, _), (0, _), (1, _)] dX9_joinParts_2 rfl (by decide) rfl ?_
  refine v_iconst hG (v := 0) (by decide) dX9_joinParts_3 ?_
  refine v_istore_n hG [(3, _), (2, _), (0, _), (1, _)] dX9_joinParts_4 rfl (by decide) rfl ?_
  refine v_sub [(0, _), (1, _), (2, _), (3, _)] [2, 3, 1, 0] rfl ?_
  obtain ⟨z5, hlz5, hf⟩ := bd_some hf
  refine loop_v (step := X9_joinParts_L5 w a0) (fun s5 : Int32 × Int32 => V p l e (k2_rm 1 22) s m args below meth c (inW (mcells g ad w)) (EN below args s g (mcells g ad w) (mcells g ad rr) none) g 4 (mcells g ad w) 0 0 5 [(0, .ref (ad 0)), (1, .int a0), (2, .int s5.1), (3, .int s5.2)] []) (fun z5_q : (Int32) => V p l e (k2_rm 1 22) s m args below meth c (inW (mcells g ad w)) (EN below args s g (mcells g ad w) (mcells g ad rr) none) g 4 (mcells g ad w) 0 0 58 [(0, .ref (ad 0)), (1, .int a0), (2, .int z5_q)] []) ?_ 5000 (12, 0) z5 hlz5 ?_
  · intro s5 rL hf hin hout
    unfold X9_joinParts_L5 at hf
    have j51 : ∀ (j51_0 : Int32) (j51_1 : Int32), X9_joinParts_J51 j51_0 j51_1 = some rL → V p l e (k2_rm 1 22) s m args below meth c (inW (mcells g ad w)) (EN below args s g (mcells g ad w) (mcells g ad rr) none) g 4 (mcells g ad w) 0 0 51 [(0, .ref (ad 0)), (1, .int a0), (3, .int j51_0)] [.int j51_1] := by
      intro j51_0 j51_1 hf
      unfold X9_joinParts_J51 at hf
      refine v_istore_n hG [(2, _), (0, _), (1, _), (3, _)] dX9_joinParts_51 rfl (by decide) rfl ?_
      refine v_iinc hG 3 (v := j51_0 + 1) [(3, _), (2, _), (0, _), (1, _)] dX9_joinParts_52 rfl rfl (by decide) rfl ?_
      refine v_goto hG 5 dX9_joinParts_55 rfl ?_
      refine v_sub [(0, _), (1, _), (2, _), (3, _)] [2, 3, 1, 0] rfl ?_
      exact hin _ (Option.some.inj hf).symm
    have j50 : ∀ (j50_0 : Int32) (j50_1 : Int32), X9_joinParts_J50 j50_0 j50_1 = some rL → V p l e (k2_rm 1 22) s m args below meth c (inW (mcells g ad w)) (EN below args s g (mcells g ad w) (mcells g ad rr) none) g 4 (mcells g ad w) 0 0 50 [(0, .ref (ad 0)), (1, .int a0), (2, .int j50_0), (3, .int j50_1)] [] := by
      intro j50_0 j50_1 hf
      unfold X9_joinParts_J50 at hf
      refine v_iload_n hG 2 rfl rfl dX9_joinParts_50 ?_
      refine v_sub [(0, _), (1, _), (3, _)] [0, 1, 3] rfl ?_
      exact j51 j50_1 j50_0 hf
    refine v_iload_n hG 3 rfl rfl dX9_joinParts_5 ?_
    refine v_aload_n hG 0 rfl rfl dX9_joinParts_6 ?_
    refine m_g_0_1 hG wk_1067 dX9_joinParts_7 ?_
    refine v_icmp_ge hG 58 dX9_joinParts_10 rfl hf (fun hf => ?_) (fun hf => ?_)
    · refine v_sub [(0, _), (1, _), (2, _)] [0, 1, 2] rfl ?_
      exact hout _ (Option.some.inj hf).symm
    · refine v_aload_n hG 0 rfl rfl dX9_joinParts_13 ?_
      refine m_g_0_17 hG wk_1083 dX9_joinParts_14 ?_
      refine v_iload_n hG 1 rfl rfl dX9_joinParts_17 ?_
      refine m_l_14 hG dX9_joinParts_18 hf (fun hf => ?_)
      refine v_if_ne hG 58 dX9_joinParts_19 rfl hf (fun hf => ?_) (fun hf => ?_)
      · refine v_sub [(0, _), (1, _), (2, _)] [0, 1, 2] rfl ?_
        exact hout _ (Option.some.inj hf).symm
      · refine v_aload_n hG 0 rfl rfl dX9_joinParts_22 ?_
        refine v_iload_n hG 1 rfl rfl dX9_joinParts_23 ?_
        refine v_iload_n hG 3 rfl rfl dX9_joinParts_24 ?_
        obtain ⟨r25, hr25, hf⟩ := bd_some hf
        refine v_callV hG (st := []) 0 9 (ct_X9_isTerm l g ad w a0 s5.2 r25 hr25) iw_X9_isTerm wk_1276 rfl rfl ⟨rfl, rfl, Nat.le_of_ble_eq_true rfl, Nat.le_of_ble_eq_true rfl⟩ ⟨Nat.le_of_ble_eq_true rfl, Nat.le_of_ble_eq_true rfl⟩ rfl rfl (Nat.le_of_ble_eq_true rfl) (mcells_fst _ _ _ _) dX9_joinParts_25 ?_
        refine (show V p l e (k2_rm 1 22) s m args below meth c (inW (mcells g ad w)) (EN below args s g (mcells g ad w) (mcells g ad rr) none) g 4 (mcells g ad w) 0 0 28 [(0, .ref (ad 0)), (1, .int a0), (2, .int s5.1), (3, .int s5.2)] [.int r25] from ?_)
        refine v_if_eq hG 50 dX9_joinParts_28 rfl hf (fun hf => ?_) (fun hf => ?_)
        · exact j50 s5.1 s5.2 hf
        · refine v_aload_n hG 0 rfl rfl dX9_joinParts_31 ?_
          refine m_g_0_41 hG wk_1107 dX9_joinParts_32 ?_
          refine v_iload_n hG 3 rfl rfl dX9_joinParts_35 ?_
          refine m_l_31 hG dX9_joinParts_36 hf (fun hf => ?_)
          refine v_iload_n hG 2 rfl rfl dX9_joinParts_37 ?_
          refine v_icmp_ge hG 50 dX9_joinParts_38 rfl hf (fun hf => ?_) (fun hf => ?_)
          · exact j50 s5.1 s5.2 hf
          · refine v_aload_n hG 0 rfl rfl dX9_joinParts_41 ?_
            refine m_g_0_41 hG wk_1107 dX9_joinParts_42 ?_
            refine v_iload_n hG 3 rfl rfl dX9_joinParts_45 ?_
            refine m_l_31 hG dX9_joinParts_46 hf (fun hf => ?_)
            refine v_goto hG 51 dX9_joinParts_47 rfl ?_
            refine v_sub [(0, _), (1, _), (3, _)] [0, 1, 3] rfl ?_
            exact j51 s5.2 ((gM_part w) s5.2.toNatClampNeg) hf
  · show V p l e (k2_rm 1 22) s m args below meth c (inW (mcells g ad w)) (EN below args s g (mcells g ad w) (mcells g ad rr) none) g 4 (mcells g ad w) 0 0 58 [(0, .ref (ad 0)), (1, .int a0), (2, .int z5)] []
    refine v_iconst hG (v := 0) (by decide) dX9_joinParts_58 ?_
    refine v_istore_n hG [(3, _), (0, _), (1, _), (2, _)] dX9_joinParts_59 rfl (by decide) rfl ?_
    refine v_sub [(0, _), (1, _), (2, _), (3, _)] [1, 2, 3, 0] rfl ?_
    obtain ⟨z60, hlz60, hf⟩ := bd_some hf
    refine loop_v (step := X9_joinParts_L60 a0 z5) (fun s60 : MW × Int32 => V p l e (k2_rm 1 22) s m args below meth c (inW (mcells g ad w)) (EN below args s g (mcells g ad w) (mcells g ad rr) none) g 4 (mcells g ad s60.1) 0 0 60 [(0, .ref (ad 0)), (1, .int a0), (2, .int z5), (3, .int s60.2)] []) (fun z60_q : (MW) => V p l e (k2_rm 1 22) s m args below meth c (inW (mcells g ad w)) (EN below args s g (mcells g ad w) (mcells g ad rr) none) g 4 (mcells g ad z60_q) 0 0 108 [] []) ?_ 5000 (w, 0) z60 hlz60 ?_
    · intro s60 rL hf hin hout
      unfold X9_joinParts_L60 at hf
      have j101 : ∀ (j101_0 : MW) (j101_1 : Int32) (j101_2 : Int32) (j101_3 : Int32), X9_joinParts_J101 j101_0 j101_1 j101_2 j101_3 = some rL → V p l e (k2_rm 1 22) s m args below meth c (inW (mcells g ad w)) (EN below args s g (mcells g ad w) (mcells g ad rr) none) g 4 (mcells g ad j101_0) 0 0 101 [(0, .ref (ad 0)), (1, .int a0), (2, .int z5), (3, .int j101_1)] [.int j101_3, .int j101_2, .ref (ad 31)] := by
        intro j101_0 j101_1 j101_2 j101_3 hf
        unfold X9_joinParts_J101 at hf
        refine m_s_31 hG dX9_joinParts_101 hf (fun w101 hf => ?_)
        refine v_iinc hG 3 (v := j101_1 + 1) [(3, _), (0, _), (1, _), (2, _)] dX9_joinParts_102 rfl rfl (by decide) rfl ?_
        refine v_goto hG 60 dX9_joinParts_105 rfl ?_
        refine v_sub [(0, _), (1, _), (2, _), (3, _)] [1, 2, 3, 0] rfl ?_
        exact hin _ (Option.some.inj hf).symm
      refine v_iload_n hG 3 rfl rfl dX9_joinParts_60 ?_
      refine v_aload_n hG 0 rfl rfl dX9_joinParts_61 ?_
      refine m_g_0_1 hG wk_1067 dX9_joinParts_62 ?_
      refine v_icmp_ge hG 108 dX9_joinParts_65 rfl hf (fun hf => ?_) (fun hf => ?_)
      · refine v_sub [] [] rfl ?_
        exact hout _ (Option.some.inj hf).symm
      · refine v_aload_n hG 0 rfl rfl dX9_joinParts_68 ?_
        refine m_g_0_17 hG wk_1083 dX9_joinParts_69 ?_
        refine v_iload_n hG 1 rfl rfl dX9_joinParts_72 ?_
        refine m_l_14 hG dX9_joinParts_73 hf (fun hf => ?_)
        refine v_if_ne hG 108 dX9_joinParts_74 rfl hf (fun hf => ?_) (fun hf => ?_)
        · refine v_sub [] [] rfl ?_
          exact hout _ (Option.some.inj hf).symm
        · refine v_aload_n hG 0 rfl rfl dX9_joinParts_77 ?_
          refine m_g_0_41 hG wk_1107 dX9_joinParts_78 ?_
          refine v_iload_n hG 3 rfl rfl dX9_joinParts_81 ?_
          refine v_aload_n hG 0 rfl rfl dX9_joinParts_82 ?_
          refine v_iload_n hG 1 rfl rfl dX9_joinParts_83 ?_
          refine v_iload_n hG 3 rfl rfl dX9_joinParts_84 ?_
          obtain ⟨r85, hr85, hf⟩ := bd_some hf
          refine v_callV hG (st := [.int s60.2, .ref (ad 31)]) 0 9 (ct_X9_isTerm l g ad s60.1 a0 s60.2 r85 hr85) iw_X9_isTerm wk_1276 rfl rfl ⟨rfl, rfl, Nat.le_of_ble_eq_true rfl, Nat.le_of_ble_eq_true rfl⟩ ⟨Nat.le_of_ble_eq_true rfl, Nat.le_of_ble_eq_true rfl⟩ rfl rfl (Nat.le_of_ble_eq_true rfl) (mcells_fst _ _ _ _) dX9_joinParts_85 ?_
          refine (show V p l e (k2_rm 1 22) s m args below meth c (inW (mcells g ad w)) (EN below args s g (mcells g ad w) (mcells g ad rr) none) g 4 (mcells g ad s60.1) 0 0 88 [(0, .ref (ad 0)), (1, .int a0), (2, .int z5), (3, .int s60.2)] [.int r85, .int s60.2, .ref (ad 31)] from ?_)
          refine v_if_eq hG 95 dX9_joinParts_88 rfl hf (fun hf => ?_) (fun hf => ?_)
          · refine v_aload_n hG 0 rfl rfl dX9_joinParts_95 ?_
            refine m_g_0_41 hG wk_1107 dX9_joinParts_96 ?_
            refine v_iload_n hG 3 rfl rfl dX9_joinParts_99 ?_
            refine m_l_31 hG dX9_joinParts_100 hf (fun hf => ?_)
            exact j101 s60.1 s60.2 s60.2 ((gM_part s60.1) s60.2.toNatClampNeg) hf
          · refine v_iload_n hG 2 rfl rfl dX9_joinParts_91 ?_
            refine v_goto hG 101 dX9_joinParts_92 rfl ?_
            exact j101 s60.1 s60.2 s60.2 z5 hf
    · show V p l e (k2_rm 1 22) s m args below meth c (inW (mcells g ad w)) (EN below args s g (mcells g ad w) (mcells g ad rr) none) g 4 (mcells g ad z60) 0 0 108 [] []
      cases hf
      exact v_vret hG hr dX9_joinParts_108
def X9_parts_L24  (s24 : MW × Int32) : Option ((MW × Int32) ⊕ ((MW))) := (if (gM_columns s24.1) ≤ s24.2 then (some (.inr s24.1)) else (if inR s24.2 12 = true then (bnd (sM_part s24.1 (upd (gM_part s24.1) s24.2.toNatClampNeg s24.2)) (fun w38 : MW => (some (.inl (w38, (s24.2 + 1)))))) else none))
def X9_parts_L55  (s55 : MW × Int32) : Option ((MW × Int32) ⊕ ((MW))) := (if (gM_rows s55.1) ≤ s55.2 then (some (.inr s55.1)) else ((X9_joinParts s55.1 s55.2).bind (fun r65 : MW => (some (.inl (r65, (s55.2 + 1)))))))
def X9_parts_L47  (s47 : MW × Int32) : Option ((MW × Int32) ⊕ ((MW))) := (if 12 ≤ s47.2 then (some (.inr s47.1)) else ((iter (X9_parts_L55) 5000 (s47.1, 0)).bind (fun z55 : (MW) => (some (.inl (z55, (s47.2 + 1)))))))
def X9_parts_J117  (j117_0 : Int32) (j117_1 : Int32) (j117_2 : Int32) : Option ((Int32 × Int32) ⊕ ((Int32))) := (some (.inl ((j117_1 + j117_2), (j117_0 + 1))))
def X9_parts_J116  (j116_0 : Int32) (j116_1 : Int32) : Option ((Int32 × Int32) ⊕ ((Int32))) := (X9_parts_J117 j116_0 j116_1 0)
def X9_parts_L84 (z47 : (MW)) (s84 : Int32 × Int32) : Option ((Int32 × Int32) ⊕ ((Int32))) := (if (gM_columns z47) ≤ s84.2 then (some (.inr s84.1)) else (if inR s84.2 12 = true then (if ((gM_state z47) s84.2.toNatClampNeg) = 0 then (if inR s84.2 12 = true then (if ((gM_part z47) s84.2.toNatClampNeg) = s84.2 then (X9_parts_J117 s84.2 s84.1 1) else (X9_parts_J116 s84.2 s84.1)) else none) else (X9_parts_J116 s84.2 s84.1)) else none))
def X9_parts_J13  (j13_0 : MW) (j13_1 : Int32) : Option (Int32 × MW) := ((X9_passes j13_0 j13_1 0).bind (fun r14 : Int32 × MW => (if r14.1 = 0 then (some (0, r14.2)) else ((iter (X9_parts_L24) 5000 (r14.2, 0)).bind (fun z24 : (MW) => ((iter (X9_parts_L47) 5000 (z24, 0)).bind (fun z47 : (MW) => ((iter (X9_parts_L84 z47) 5000 (0, 0)).bind (fun z84 : (Int32) => (some (z84, z47)))))))))))
def X9_parts (w : MW) : Option (Int32 × MW) := (if (gM_isSmall w) = 0 then (X9_parts_J13 w 1) else (X9_parts_J13 w 0))
set_option maxRecDepth 100000 in
set_option maxHeartbeats 4000000 in
theorem ct_X9_parts (l : Launch) (g : wG) (ad : Nat → Nat) (w : MW)  (rr : Int32 × MW) (hf : X9_parts w = some rr) : MetN l g yX9_parts cX9_parts 3 (some .int) (k2_rm 2 45) [.ref (ad 0)] (mcells g ad w) (mcells g ad rr.2) (some (.int rr.1)) := by
  refine MetN.of2 [(0, .ref (ad 0))] rfl (by decide +kernel) (Nat.le_of_ble_eq_true rfl) ?_
  intro p e s m args below meth c hG hr
  unfold X9_parts at hf
  have j13 : ∀ (j13_0 : MW) (j13_1 : Int32), X9_parts_J13 j13_0 j13_1 = some rr → V p l e (k2_rm 2 45) s m args below meth c (inW (mcells g ad w)) (EN below args s g (mcells g ad w) (mcells g ad rr.2) (some (.int rr.1))) g 3 (mcells g ad j13_0) 0 0 13 [(0, .ref (ad 0))] [.int j13_1, .ref (ad 0)] := by
    intro j13_0 j13_1 hf
    unfold X9_parts_J13 at hf
    refine v_iconst hG (v := 0) (by decide) dX9_parts_13 ?_
    obtain ⟨r14, hr14, hf⟩ := bd_some hf
    refine v_callV hG (st := []) 0 9 (ct_X9_passes l g ad j13_0 j13_1 0 r14 hr14) iw_X9_passes wk_1212 rfl rfl ⟨rfl, rfl, Nat.le_of_ble_eq_true rfl, Nat.le_of_ble_eq_true rfl⟩ ⟨Nat.le_of_ble_eq_true rfl, Nat.le_of_ble_eq_true rfl⟩ rfl rfl (Nat.le_of_ble_eq_true rfl) (mcells_fst _ _ _ _) dX9_parts_14 ?_
    refine (show V p l e (k2_rm 2 45) s m args below meth c (inW (mcells g ad w)) (EN below args s g (mcells g ad w) (mcells g ad rr.2) (some (.int rr.1))) g 3 (mcells g ad r14.2) 0 0 17 [(0, .ref (ad 0))] [.int r14.1] from ?_)
    refine v_if_ne hG 22 dX9_parts_17 rfl hf (fun hf => ?_) (fun hf => ?_)
    · refine v_iconst hG (v := 0) (by decide) dX9_parts_22 ?_
      refine v_istore_n hG [(1, _), (0, _)] dX9_parts_23 rfl (by decide) rfl ?_
      refine v_sub [(0, _), (1, _)] [1, 0] rfl ?_
      obtain ⟨z24, hlz24, hf⟩ := bd_some hf
      refine loop_v (step := X9_parts_L24) (fun s24 : MW × Int32 => V p l e (k2_rm 2 45) s m args below meth c (inW (mcells g ad w)) (EN below args s g (mcells g ad w) (mcells g ad rr.2) (some (.int rr.1))) g 3 (mcells g ad s24.1) 0 0 24 [(0, .ref (ad 0)), (1, .int s24.2)] []) (fun z24_q : (MW) => V p l e (k2_rm 2 45) s m args below meth c (inW (mcells g ad w)) (EN below args s g (mcells g ad w) (mcells g ad rr.2) (some (.int rr.1))) g 3 (mcells g ad z24_q) 0 0 45 [(0, .ref (ad 0))] []) ?_ 5000 (r14.2, 0) z24 hlz24 ?_
      · intro s24 rL hf hin hout
        unfold X9_parts_L24 at hf
        refine v_iload_n hG 1 rfl rfl dX9_parts_24 ?_
        refine v_aload_n hG 0 rfl rfl dX9_parts_25 ?_
        refine m_g_0_1 hG wk_1067 dX9_parts_26 ?_
        refine v_icmp_ge hG 45 dX9_parts_29 rfl hf (fun hf => ?_) (fun hf => ?_)
        · refine v_sub [(0, _)] [0] rfl ?_
          exact hout _ (Option.some.inj hf).symm
        · refine v_aload_n hG 0 rfl rfl dX9_parts_32 ?_
          refine m_g_0_41 hG wk_1107 dX9_parts_33 ?_
          refine v_iload_n hG 1 rfl rfl dX9_parts_36 ?_
          refine v_iload_n hG 1 rfl rfl dX9_parts_37 ?_
          refine m_s_31 hG dX9_parts_38 hf (fun w38 hf => ?_)
          refine v_iinc hG 1 (v := s24.2 + 1) [(1, _), (0, _)] dX9_parts_39 rfl rfl (by decide) rfl ?_
          refine v_goto hG 24 dX9_parts_42 rfl ?_
          refine v_sub [(0, _), (1, _)] [1, 0] rfl ?_
          exact hin _ (Option.some.inj hf).symm
      · show V p l e (k2_rm 2 45) s m args below meth c (inW (mcells g ad w)) (EN below args s g (mcells g ad w) (mcells g ad rr.2) (some (.int rr.1))) g 3 (mcells g ad z24) 0 0 45 [(0, .ref (ad 0))] []
        refine v_iconst hG (v := 0) (by decide) dX9_parts_45 ?_
        refine v_istore_n hG [(1, _), (0, _)] dX9_parts_46 rfl (by decide) rfl ?_
        refine v_sub [(0, _), (1, _)] [1, 0] rfl ?_
        obtain ⟨z47, hlz47, hf⟩ := bd_some hf
        refine loop_v (step := X9_parts_L47) (fun s47 : MW × Int32 => V p l e (k2_rm 2 45) s m args below meth c (inW (mcells g ad w)) (EN below args s g (mcells g ad w) (mcells g ad rr.2) (some (.int rr.1))) g 3 (mcells g ad s47.1) 0 0 47 [(0, .ref (ad 0)), (1, .int s47.2)] []) (fun z47_q : (MW) => V p l e (k2_rm 2 45) s m args below meth c (inW (mcells g ad w)) (EN below args s g (mcells g ad w) (mcells g ad rr.2) (some (.int rr.1))) g 3 (mcells g ad z47_q) 0 0 80 [(0, .ref (ad 0))] []) ?_ 5000 (z24, 0) z47 hlz47 ?_
        · intro s47 rL hf hin hout
          unfold X9_parts_L47 at hf
          refine v_iload_n hG 1 rfl rfl dX9_parts_47 ?_
          refine v_bipush hG (v := 12) (by decide) dX9_parts_48 ?_
          refine v_icmp_ge hG 80 dX9_parts_50 rfl hf (fun hf => ?_) (fun hf => ?_)
          · refine v_sub [(0, _)] [0] rfl ?_
            exact hout _ (Option.some.inj hf).symm
          · refine v_iconst hG (v := 0) (by decide) dX9_parts_53 ?_
            refine v_istore_n hG [(2, _), (0, _), (1, _)] dX9_parts_54 rfl (by decide) rfl ?_
            refine v_sub [(0, _), (1, _), (2, _)] [1, 2, 0] rfl ?_
            obtain ⟨z55, hlz55, hf⟩ := bd_some hf
            refine loop_v (step := X9_parts_L55) (fun s55 : MW × Int32 => V p l e (k2_rm 2 45) s m args below meth c (inW (mcells g ad w)) (EN below args s g (mcells g ad w) (mcells g ad rr.2) (some (.int rr.1))) g 3 (mcells g ad s55.1) 0 0 55 [(0, .ref (ad 0)), (1, .int s47.2), (2, .int s55.2)] []) (fun z55_q : (MW) => V p l e (k2_rm 2 45) s m args below meth c (inW (mcells g ad w)) (EN below args s g (mcells g ad w) (mcells g ad rr.2) (some (.int rr.1))) g 3 (mcells g ad z55_q) 0 0 74 [(0, .ref (ad 0)), (1, .int s47.2)] []) ?_ 5000 (s47.1, 0) z55 hlz55 ?_
            · intro s55 rL hf hin hout
              unfold X9_parts_L55 at hf
              refine v_iload_n hG 2 rfl rfl dX9_parts_55 ?_
              refine v_aload_n hG 0 rfl rfl dX9_parts_56 ?_
              refine m_g_0_2 hG wk_1068 dX9_parts_57 ?_
              refine v_icmp_ge hG 74 dX9_parts_60 rfl hf (fun hf => ?_) (fun hf => ?_)
              · refine v_sub [(0, _), (1, _)] [0, 1] rfl ?_
                exact hout _ (Option.some.inj hf).symm
              · refine v_aload_n hG 0 rfl rfl dX9_parts_63 ?_
                refine v_iload_n hG 2 rfl rfl dX9_parts_64 ?_
                obtain ⟨r65, hr65, hf⟩ := bd_some hf
                refine v_callV hG (st := []) 0 9 (ct_X9_joinParts l g ad s55.1 s55.2 r65 hr65) iw_X9_joinParts wk_1472 rfl rfl ⟨rfl, rfl, Nat.le_of_ble_eq_true rfl, Nat.le_of_ble_eq_true rfl⟩ ⟨Nat.le_of_ble_eq_true rfl, Nat.le_of_ble_eq_true rfl⟩ rfl rfl (Nat.le_of_ble_eq_true rfl) (mcells_fst _ _ _ _) dX9_parts_65 ?_
                refine (show V p l e (k2_rm 2 45) s m args below meth c (inW (mcells g ad w)) (EN below args s g (mcells g ad w) (mcells g ad rr.2) (some (.int rr.1))) g 3 (mcells g ad r65) 0 0 68 [(0, .ref (ad 0)), (1, .int s47.2), (2, .int s55.2)] [] from ?_)
                refine v_iinc hG 2 (v := s55.2 + 1) [(2, _), (0, _), (1, _)] dX9_parts_68 rfl rfl (by decide) rfl ?_
                refine v_goto hG 55 dX9_parts_71 rfl ?_
                refine v_sub [(0, _), (1, _), (2, _)] [1, 2, 0] rfl ?_
                exact hin _ (Option.some.inj hf).symm
            · show V p l e (k2_rm 2 45) s m args below meth c (inW (mcells g ad w)) (EN below args s g (mcells g ad w) (mcells g ad rr.2) (some (.int rr.1))) g 3 (mcells g ad z55) 0 0 74 [(0, .ref (ad 0)), (1, .int s47.2)] []
              refine v_iinc hG 1 (v := s47.2 + 1) [(1, _), (0, _)] dX9_parts_74 rfl rfl (by decide) rfl ?_
              refine v_goto hG 47 dX9_parts_77 rfl ?_
              refine v_sub [(0, _), (1, _)] [1, 0] rfl ?_
              exact hin _ (Option.some.inj hf).symm
        · show V p l e (k2_rm 2 45) s m args below meth c (inW (mcells g ad w)) (EN below args s g (mcells g ad w) (mcells g ad rr.2) (some (.int rr.1))) g 3 (mcells g ad z47) 0 0 80 [(0, .ref (ad 0))] []
          refine v_iconst hG (v := 0) (by decide) dX9_parts_80 ?_
          refine v_istore_n hG [(1, _), (0, _)] dX9_parts_81 rfl (by decide) rfl ?_
          refine v_iconst hG (v := 0) (by decide) dX9_parts_82 ?_
          refine v_istore_n hG [(2, _), (1, _), (0, _)] dX9_parts_83 rfl (by decide) rfl ?_
          refine v_sub [(0, _), (1, _), (2, _)] [2, 1, 0] rfl ?_
          obtain ⟨z84, hlz84, hf⟩ := bd_some hf
          refine loop_v (step := X9_parts_L84 z47) (fun s84 : Int32 × Int32 => V p l e (k2_rm 2 45) s m args below meth c (inW (mcells g ad w)) (EN below args s g (mcells g ad w) (mcells g ad rr.2) (some (.int rr.1))) g 3 (mcells g ad z47) 0 0 84 [(0, .ref (ad 0)), (1, .int s84.1), (2, .int s84.2)] []) (fun z84_q : (Int32) => V p l e (k2_rm 2 45) s m args below meth c (inW (mcells g ad w)) (EN below args s g (mcells g ad w) (mcells g ad rr.2) (some (.int rr.1))) g 3 (mcells g ad z47) 0 0 125 [(1, .int z84_q)] []) ?_ 5000 (0, 0) z84 hlz84 ?_
          · intro s84 rL hf hin hout
            unfold X9_parts_L84 at hf
            have j117 : ∀ (j117_0 : Int32) (j117_1 : Int32) (j117_2 : Int32), X9_parts_J117 j117_0 j117_1 j117_2 = some rL → V p l e (k2_rm 2 45) s m args below meth c (inW (mcells g ad w)) (EN below args s g (mcells g ad w) (mcells g ad rr.2) (some (.int rr.1))) g 3 (mcells g ad z47) 0 0 117 [(0, .ref (ad 0)), (2, .int j117_0)] [.int j117_2, .int j117_1] := by
              intro j117_0 j117_1 j117_2 hf
              unfold X9_parts_J117 at hf
              refine v_iadd hG dX9_parts_117 ?_
              refine v_istore_n hG [(1, _), (0, _), (2, _)] dX9_parts_118 rfl (by decide) rfl ?_
              refine v_iinc hG 2 (v := j117_0 + 1) [(2, _), (1, _), (0, _)] dX9_parts_119 rfl rfl (by decide) rfl ?_
              refine v_goto hG 84 dX9_parts_122 rfl ?_
              refine v_sub [(0, _), (1, _), (2, _)] [2, 1, 0] rfl ?_
              exact hin _ (Option.some.inj hf).symm
            have j116 : ∀ (j116_0 : Int32) (j116_1 : Int32), X9_parts_J116 j116_0 j116_1 = some rL → V p l e (k2_rm 2 45) s m args below meth c (inW (mcells g ad w)) (EN below args s g (mcells g ad w) (mcells g ad rr.2) (some (.int rr.1))) g 3 (mcells g ad z47) 0 0 116 [(0, .ref (ad 0)), (2, .int j116_0)] [.int j116_1] := by
              intro j116_0 j116_1 hf
              unfold X9_parts_J116 at hf
              refine v_iconst hG (v := 0) (by decide) dX9_parts_116 ?_
              exact j117 j116_0 j116_1 0 hf
            refine v_iload_n hG 2 rfl rfl dX9_parts_84 ?_
            refine v_aload_n hG 0 rfl rfl dX9_parts_85 ?_
            refine m_g_0_1 hG wk_1067 dX9_parts_86 ?_
            refine v_icmp_ge hG 125 dX9_parts_89 rfl hf (fun hf => ?_) (fun hf => ?_)
            · refine v_sub [(1, _)] [1] rfl ?_
              exact hout _ (Option.some.inj hf).symm
            · refine v_iload_n hG 1 rfl rfl dX9_parts_92 ?_
              refine v_aload_n hG 0 rfl rfl dX9_parts_93 ?_
              refine m_g_0_10 hG wk_1076 dX9_parts_94 ?_
              refine v_iload_n hG 2 rfl rfl dX9_parts_97 ?_
              refine m_l_7 hG dX9_parts_98 hf (fun hf => ?_)
              refine v_if_ne hG 116 dX9_parts_99 rfl hf (fun hf => ?_) (fun hf => ?_)
              · refine v_sub [(0, _), (2, _)] [0, 2] rfl ?_
                exact j116 s84.2 s84.1 hf
              · refine v_aload_n hG 0 rfl rfl dX9_parts_102 ?_
                refine m_g_0_41 hG wk_1107 dX9_parts_103 ?_
                refine v_iload_n hG 2 rfl rfl dX9_parts_106 ?_
                refine m_l_31 hG dX9_parts_107 hf (fun hf => ?_)
                refine v_iload_n hG 2 rfl rfl dX9_parts_108 ?_
                refine v_icmp_ne hG 116 dX9_parts_109 rfl hf (fun hf => ?_) (fun hf => ?_)
                · refine v_sub [(0, _), (2, _)] [0, 2] rfl ?_
                  exact j116 s84.2 s84.1 hf
                · refine v_iconst hG (v := 1) (by decide) dX9_parts_112 ?_
                  refine v_goto hG 117 dX9_parts_113 rfl ?_
                  refine v_sub [(0, _), (2, _)] [0, 2] rfl ?_
                  exact j117 s84.2 s84.1 1 hf
          · show V p l e (k2_rm 2 45) s m args below meth c (inW (mcells g ad w)) (EN below args s g (mcells g ad w) (mcells g ad rr.2) (some (.int rr.1))) g 3 (mcells g ad z47) 0 0 125 [(1, .int z84)] []
            refine v_iload_n hG 0 rfl rfl dX9_parts_125 ?_
            cases hf
            exact v_iret hG hr dX9_parts_126
    · refine v_iconst hG (v := 0) (by decide) dX9_parts_20 ?_
      cases hf
      exact v_iret hG hr dX9_parts_21
  refine v_aload_n hG 0 rfl rfl dX9_parts_0 ?_
  refine v_aload_n hG 0 rfl rfl dX9_parts_1 ?_
  refine m_g_0_9 hG wk_1075 dX9_parts_2 ?_
  refine v_if_ne hG 12 dX9_parts_5 rfl hf (fun hf => ?_) (fun hf => ?_)
  · refine v_iconst hG (v := 0) (by decide) dX9_parts_12 ?_
    exact j13 w 0 hf
  · refine v_iconst hG (v := 1) (by decide) dX9_parts_8 ?_
    refine v_goto hG 13 dX9_parts_9 rfl ?_
    exact j13 w 1 hf
def X9_amount (w : MW) (a0 : Int32) (a1 : Int32) : Option (Int64) := (if inR ((12 * a0) + a1) 144 = true then (if 0 ≤ ((gM_coef w) ((12 * a0) + a1).toNatClampNeg) then (some ((gM_coef w) ((12 * a0) + a1).toNatClampNeg)) else (some (-((gM_coef w) ((12 * a0) + a1).toNatClampNeg)))) else none)
set_option maxRecDepth 100000 in
set_option maxHeartbeats 4000000 in
theorem ct_X9_amount (l : Launch) (g : wG) (ad : Nat → Nat) (w : MW) (a0 : Int32) (a1 : Int32) (rr : Int64) (hf : X9_amount w a0 a1 = some rr) : MetN l g yX9_amount cX9_amount 5 (some .long) (k2_rm 0 0) [.ref (ad 0), .int a0, .int a1] (mcells g ad w) (mcells g ad w) (some (.long rr)) := by
  refine MetN.of2 [(0, .ref (ad 0)), (1, .int a0), (2, .int a1)] rfl (by decide +kernel) (Nat.le_of_ble_eq_true rfl) ?_
  intro p e s m args below meth c hG hr
  unfold X9_amount at hf
  refine v_aload_n hG 0 rfl rfl dX9_amount_0 ?_
  refine m_g_0_20 hG wk_1086 dX9_amount_1 ?_
  refine v_bipush hG (v := 12) (by decide) dX9_amount_4 ?_
  refine v_iload_n hG 1 rfl rfl dX9_amount_6 ?_
  refine v_imul hG dX9_amount_7 ?_
  refine v_iload_n hG 2 rfl rfl dX9_amount_8 ?_
  refine v_iadd hG dX9_amount_9 ?_
  refine m_l_17 hG dX9_amount_10 hf (fun hf => ?_)
  refine v_lstore_n hG [(3, _), (0, _), (1, _), (2, _)] dX9_amount_11 rfl (by decide) rfl ?_
  refine v_lload_n hG 0 rfl rfl dX9_amount_12 ?_
  refine v_lconst hG (v := 0) (by decide) dX9_amount_13 ?_
  refine v_lcmp_ge hG 23 dX9_amount_14 dX9_amount_15 rfl hf (fun hf => ?_) (fun hf => ?_)
  · refine v_lload_n hG 0 rfl rfl dX9_amount_23 ?_
    cases hf
    exact v_lret hG hr dX9_amount_24
  · refine v_lload_n hG 0 rfl rfl dX9_amount_18 ?_
    refine v_lneg hG dX9_amount_19 ?_
    refine v_goto hG 24 dX9_amount_20 rfl ?_
    cases hf
    exact v_lret hG hr dX9_amount_24
def X9_cliqueOf_J114  (j114_0 : MW) (j114_1 : Int32) (j114_2 : Int32) : Option ((MW × Int32 × Int32) ⊕ ((MW × Int32))) := (some (.inl (j114_0, j114_1, (j114_2 + 1))))
def X9_cliqueOf_L52 (a0 : Int32) (s4 : MW × Int32 × Int32) (s52 : MW × Int32) : Option ((MW × Int32) ⊕ ((MW × Int32))) := (if s52.2 ≤ 0 then (some (.inr (s52.1, s52.2))) else (if inR (s52.2 - 1) 12 = true then ((X9_amount s52.1 a0 ((gM_clique s52.1) (s52.2 - 1).toNatClampNeg)).bind (fun r68 : Int64 => ((X9_amount s52.1 a0 s4.2.2).bind (fun r74 : Int64 => (if r74 ≤ r68 then (some (.inr (s52.1, s52.2))) else (if inR (s52.2 - 1) 12 = true then (if inR s52.2 12 = true then (bnd (sM_clique s52.1 (upd (gM_clique s52.1) s52.2.toNatClampNeg ((gM_clique s52.1) (s52.2 - 1).toNatClampNeg))) (fun w96 : MW => (some (.inl (w96, (s52.2 + (-1))))))) else none) else none)))))) else none))
def X9_cliqueOf_L4 (a0 : Int32) (s4 : MW × Int32 × Int32) : Option ((MW × Int32 × Int32) ⊕ ((MW × Int32))) := (if (gM_columns s4.1) ≤ s4.2.2 then (some (.inr (s4.1, s4.2.1))) else (if inR a0 12 = true then (if ((gM_gone s4.1) a0.toNatClampNeg) = 0 then ((X9_isTerm s4.1 a0 s4.2.2).bind (fun r24 : Int32 => (if r24 = 0 then (X9_cliqueOf_J114 s4.1 s4.2.1 s4.2.2) else (if inR s4.2.2 12 = true then (if ((gM_low s4.1) s4.2.2.toNatClampNeg) = 0 then (if inR s4.2.2 12 = true then (if ((gM_high s4.1) s4.2.2.toNatClampNeg) = 1 then ((iter (X9_cliqueOf_L52 a0 s4) 5000 (s4.1, s4.2.1)).bind (fun z52 : (MW × Int32) => (if inR z52.2 12 = true then (bnd (sM_clique z52.1 (upd (gM_clique z52.1) z52.2.toNatClampNeg s4.2.2)) (fun w110 : MW => (X9_cliqueOf_J114 w110 (s4.2.1 + 1) s4.2.2))) else none))) else (X9_cliqueOf_J114 s4.1 s4.2.1 s4.2.2)) else none) else (X9_cliqueOf_J114 s4.1 s4.2.1 s4.2.2)) else none)))) else (some (.inr (s4.1, s4.2.1)))) else none))
def X9_cliqueOf_J188  (j188_0 : Int32) (j188_1 : Int32) : Option ((Int32 × Int32) ⊕ ((Int32))) := (some (.inl (j188_1, (j188_0 + 1))))
def X9_cliqueOf_L141 (a0 : Int32) (z4 : (MW × Int32)) (r130 : Int64) (s141 : Int32 × Int32) : Option ((Int32 × Int32) ⊕ ((Int32))) := (if z4.2 < s141.2 then (some (.inr s141.1)) else (if inR (s141.2 - 2) 12 = true then ((X9_amount z4.1 a0 ((gM_clique z4.1) (s141.2 - 2).toNatClampNeg)).bind (fun r158 : Int64 => (if inR (s141.2 - 1) 12 = true then ((X9_amount z4.1 a0 ((gM_clique z4.1) (s141.2 - 1).toNatClampNeg)).bind (fun r172 : Int64 => (if (r158 + r172) ≤ (((gM_right z4.1) a0.toNatClampNeg) - r130) then (X9_cliqueOf_J188 s141.2 s141.1) else (X9_cliqueOf_J188 s141.2 s141.2)))) else none))) else none))
def X9_cliqueOf (w : MW) (a0 : Int32) : Option (Int32 × MW) := ((iter (X9_cliqueOf_L4 a0) 5000 (w, 0, 0)).bind (fun z4 : (MW × Int32) => (if inR a0 12 = true then ((X9_end z4.1 a0 (-1) 0).bind (fun r130 : Int64 => ((iter (X9_cliqueOf_L141 a0 z4 r130) 5000 (0, 2)).bind (fun z141 : (Int32) => (some (z141, z4.1)))))) else none)))
set_option maxRecDepth 100000 in
set_option maxHeartbeats 4000000 in
theorem ct_X9_cliqueOf (l : Launch) (g : wG) (ad : Nat → Nat) (w : MW) (a0 : Int32) (rr : Int32 × MW) (hf : X9_cliqueOf w a0 = some rr) : MetN l g yX9_cliqueOf cX9_cliqueOf 7 (some .int) (k2_rm 2 50) [.ref (ad 0), .int a0] (mcells g ad w) (mcells g ad rr.2) (some (.int rr.1)) := by
  refine MetN.of2 [(0, .ref (ad 0)), (1, .int a0)] rfl (by decide +kernel) (Nat.le_of_ble_eq_true rfl) ?_
  intro p e s m args below meth c hG hr
  unfold X9_cliqueOf at hf
  refine v_iconst hG (v := 0) (by decide) dX9_cliqueOf_0 ?_
  refine v_istore_n hG [(2, _), (0, _), (1, _)] dX9_cliqueOf_1 rfl (by decide) rfl ?_
  refine v_iconst hG (v := 0) (by decide) dX9_cliqueOf_2 ?_
  refine v_istore_n hG [(3, _), (2, _), (0, _), (1, _)] dX9_cliqueOf_3 rfl (by decide) rfl ?_
  refine v_sub [(0, _), (1, _), (2, _), (3, _)] [2, 3, 1, 0] rfl ?_
  obtain ⟨z4, hlz4, hf⟩ := bd_some hf
  refine loop_v (step := X9_cliqueOf_L4 a0) (fun s4 : MW × Int32 × Int32 => V p l e (k2_rm 2 50) s m args below meth c (inW (mcells g ad w)) (EN below args s g (mcells g ad w) (mcells g ad rr.2) (some (.int rr.1))) g 7 (mcells g ad s4.1) 0 0 4 [(0, .ref (ad 0)), (1, .int a0), (2, .int s4.2.1), (3, .int s4.2.2)] []) (fun z4_q : (MW × Int32) => V p l e (k2_rm 2 50) s m args below meth c (inW (mcells g ad w)) (EN below args s g (mcells g ad w) (mcells g ad rr.2) (some (.int rr.1))) g 7 (mcells g ad z4_q.1) 0 0 120 [(0, .ref (ad 0)), (1, .int a0), (2, .int z4_q.2)] []) ?_ 5000 (w, 0, 0) z4 hlz4 ?_
  · intro s4 rL hf hin hout
    unfold X9_cliqueOf_L4 at hf
    have j114 : ∀ (j114_0 : MW) (j114_1 : Int32) (j114_2 : Int32), X9_cliqueOf_J114 j114_0 j114_1 j114_2 = some rL → V p l e (k2_rm 2 50) s m args below meth c (inW (mcells g ad w)) (EN below args s g (mcells g ad w) (mcells g ad rr.2) (some (.int rr.1))) g 7 (mcells g ad j114_0) 0 0 114 [(0, .ref (ad 0)), (1, .int a0), (2, .int j114_1), (3, .int j114_2)] [] := by
      intro j114_0 j114_1 j114_2 hf
      unfold X9_cliqueOf_J114 at hf
      refine v_iinc hG 3 (v := j114_2 + 1) [(3, _), (0, _), (1, _), (2, _)] dX9_cliqueOf_114 rfl rfl (by decide) rfl ?_
      refine v_goto hG 4 dX9_cliqueOf_117 rfl ?_
      refine v_sub [(0, _), (1, _), (2, _), (3, _)] [1, 2, 3, 0] rfl ?_
      exact hin _ (Option.some.inj hf).symm
    refine v_iload_n hG 3 rfl rfl dX9_cliqueOf_4 ?_
    refine v_aload_n hG 0 rfl rfl dX9_cliqueOf_5 ?_
    refine m_g_0_1 hG wk_1067 dX9_cliqueOf_6 ?_
    refine v_icmp_ge hG 120 dX9_cliqueOf_9 rfl hf (fun hf => ?_) (fun hf => ?_)
    · refine v_sub [(0, _), (1, _), (2, _)] [0, 1, 2] rfl ?_
      exact hout _ (Option.some.inj hf).symm
    · refine v_aload_n hG 0 rfl rfl dX9_cliqueOf_12 ?_
      refine m_g_0_17 hG wk_1083 dX9_cliqueOf_13 ?_
      refine v_iload_n hG 1 rfl rfl dX9_cliqueOf_16 ?_
      refine m_l_14 hG dX9_cliqueOf_17 hf (fun hf => ?_)
      refine v_if_ne hG 120 dX9_cliqueOf_18 rfl hf (fun hf => ?_) (fun hf => ?_)
      · refine v_sub [(0, _), (1, _), (2, _)] [0, 1, 2] rfl ?_
        exact hout _ (Option.some.inj hf).symm
      · refine v_aload_n hG 0 rfl rfl dX9_cliqueOf_21 ?_
        refine v_iload_n hG 1 rfl rfl dX9_cliqueOf_22 ?_
        refine v_iload_n hG 3 rfl rfl dX9_cliqueOf_23 ?_
        obtain ⟨r24, hr24, hf⟩ := bd_some hf
        refine v_callV hG (st := []) 0 9 (ct_X9_isTerm l g ad s4.1 a0 s4.2.2 r24 hr24) iw_X9_isTerm wk_1276 rfl rfl ⟨rfl, rfl, Nat.le_of_ble_eq_true rfl, Nat.le_of_ble_eq_true rfl⟩ ⟨Nat.le_of_ble_eq_true rfl, Nat.le_of_ble_eq_true rfl⟩ rfl rfl (Nat.le_of_ble_eq_true rfl) (mcells_fst _ _ _ _) dX9_cliqueOf_24 ?_
        refine (show V p l e (k2_rm 2 50) s m args below meth c (inW (mcells g ad w)) (EN below args s g (mcells g ad w) (mcells g ad rr.2) (some (.int rr.1))) g 7 (mcells g ad s4.1) 0 0 27 [(0, .ref (ad 0)), (1, .int a0), (2, .int s4.2.1), (3, .int s4.2.2)] [.int r24] from ?_)
        refine v_if_eq hG 114 dX9_cliqueOf_27 rfl hf (fun hf => ?_) (fun hf => ?_)
        · exact j114 s4.1 s4.2.1 s4.2.2 hf
        · refine v_aload_n hG 0 rfl rfl dX9_cliqueOf_30 ?_
          refine m_g_0_11 hG wk_1077 dX9_cliqueOf_31 ?_
          refine v_iload_n hG 3 rfl rfl dX9_cliqueOf_34 ?_
          refine m_l_8 hG dX9_cliqueOf_35 hf (fun hf => ?_)
          refine v_if_ne hG 114 dX9_cliqueOf_36 rfl hf (fun hf => ?_) (fun hf => ?_)
          · exact j114 s4.1 s4.2.1 s4.2.2 hf
          · refine v_aload_n hG 0 rfl rfl dX9_cliqueOf_39 ?_
            refine m_g_0_12 hG wk_1078 dX9_cliqueOf_40 ?_
            refine v_iload_n hG 3 rfl rfl dX9_cliqueOf_43 ?_
            refine m_l_9 hG dX9_cliqueOf_44 hf (fun hf => ?_)
            refine v_iconst hG (v := 1) (by decide) dX9_cliqueOf_45 ?_
            refine v_icmp_ne hG 114 dX9_cliqueOf_46 rfl hf (fun hf => ?_) (fun hf => ?_)
            · exact j114 s4.1 s4.2.1 s4.2.2 hf
            · refine v_iload_n hG 2 rfl rfl dX9_cliqueOf_49 ?_
              refine v_istore hG [(4, _), (0, _), (1, _), (2, _), (3, _)] dX9_cliqueOf_50 (by decide) rfl ?_
              refine v_sub [(0, _), (1, _), (2, _), (3, _), (4, _)] [1, 2, 3, 4, 0] rfl ?_
              obtain ⟨z52, hlz52, hf⟩ := bd_some hf
              refine loop_v (step := X9_cliqueOf_L52 a0 s4) (fun s52 : MW × Int32 => V p l e (k2_rm 2 50) s m args below meth c (inW (mcells g ad w)) (EN below args s g (mcells g ad w) (mcells g ad rr.2) (some (.int rr.1))) g 7 (mcells g ad s52.1) 0 0 52 [(0, .ref (ad 0)), (1, .int a0), (2, .int s4.2.1), (3, .int s4.2.2), (4, .int s52.2)] []) (fun z52_q : (MW × Int32) => V p l e (k2_rm 2 50) s m args below meth c (inW (mcells g ad w)) (EN below args s g (mcells g ad w) (mcells g ad rr.2) (some (.int rr.1))) g 7 (mcells g ad z52_q.1) 0 0 103 [(0, .ref (ad 0)), (1, .int a0), (2, .int s4.2.1), (3, .int s4.2.2), (4, .int z52_q.2)] []) ?_ 5000 (s4.1, s4.2.1) z52 hlz52 ?_
              · intro s52 rL hf hin hout
                unfold X9_cliqueOf_L52 at hf
                refine v_iload hG 4 rfl dX9_cliqueOf_52 ?_
                refine v_if_le hG 103 dX9_cliqueOf_54 rfl hf (fun hf => ?_) (fun hf => ?_)
                · exact hout _ (Option.some.inj hf).symm
                · refine v_aload_n hG 0 rfl rfl dX9_cliqueOf_57 ?_
                  refine v_iload_n hG 1 rfl rfl dX9_cliqueOf_58 ?_
                  refine v_aload_n hG 0 rfl rfl dX9_cliqueOf_59 ?_
                  refine m_g_0_42 hG wk_1108 dX9_cliqueOf_60 ?_
                  refine v_iload hG 4 rfl dX9_cliqueOf_63 ?_
                  refine v_iconst hG (v := 1) (by decide) dX9_cliqueOf_65 ?_
                  refine v_isub hG dX9_cliqueOf_66 ?_
                  refine m_l_32 hG dX9_cliqueOf_67 hf (fun hf => ?_)
                  obtain ⟨r68, hr68, hf⟩ := bd_some hf
                  refine v_callV hG (st := []) 0 9 (ct_X9_amount l g ad s52.1 a0 ((gM_clique s52.1) (s52.2 - 1).toNatClampNeg) r68 hr68) iw_X9_amount wk_1484 rfl rfl ⟨rfl, rfl, Nat.le_of_ble_eq_true rfl, Nat.le_of_ble_eq_true rfl⟩ ⟨Nat.le_of_ble_eq_true rfl, Nat.le_of_ble_eq_true rfl⟩ rfl rfl (Nat.le_of_ble_eq_true rfl) (mcells_fst _ _ _ _) dX9_cliqueOf_68 ?_
                  refine (show V p l e (k2_rm 2 50) s m args below meth c (inW (mcells g ad w)) (EN below args s g (mcells g ad w) (mcells g ad rr.2) (some (.int rr.1))) g 7 (mcells g ad s52.1) 0 0 71 [(0, .ref (ad 0)), (1, .int a0), (2, .int s4.2.1), (3, .int s4.2.2), (4, .int s52.2)] [.long r68] from ?_)
                  refine v_aload_n hG 0 rfl rfl dX9_cliqueOf_71 ?_
                  refine v_iload_n hG 1 rfl rfl dX9_cliqueOf_72 ?_
                  refine v_iload_n hG 3 rfl rfl dX9_cliqueOf_73 ?_
                  obtain ⟨r74, hr74, hf⟩ := bd_some hf
                  refine v_callV hG (st := [.long r68]) 0 9 (ct_X9_amount l g ad s52.1 a0 s4.2.2 r74 hr74) iw_X9_amount wk_1484 rfl rfl ⟨rfl, rfl, Nat.le_of_ble_eq_true rfl, Nat.le_of_ble_eq_true rfl⟩ ⟨Nat.le_of_ble_eq_true rfl, Nat.le_of_ble_eq_true rfl⟩ rfl rfl (Nat.le_of_ble_eq_true rfl) (mcells_fst _ _ _ _) dX9_cliqueOf_74 ?_
                  refine (show V p l e (k2_rm 2 50) s m args below meth c (inW (mcells g ad w)) (EN below args s g (mcells g ad w) (mcells g ad rr.2) (some (.int rr.1))) g 7 (mcells g ad s52.1) 0 0 77 [(0, .ref (ad 0)), (1, .int a0), (2, .int s4.2.1), (3, .int s4.2.2), (4, .int s52.2)] [.long r74, .long r68] from ?_)
                  refine v_lcmp_ge hG 103 dX9_cliqueOf_77 dX9_cliqueOf_78 rfl hf (fun hf => ?_) (fun hf => ?_)
                  · exact hout _ (Option.some.inj hf).symm
                  · refine v_aload_n hG 0 rfl rfl dX9_cliqueOf_81 ?_
                    refine m_g_0_42 hG wk_1108 dX9_cliqueOf_82 ?_
                    refine v_iload hG 4 rfl dX9_cliqueOf_85 ?_
                    refine v_aload_n hG 0 rfl rfl dX9_cliqueOf_87 ?_
                    refine m_g_0_42 hG wk_1108 dX9_cliqueOf_88 ?_
                    refine v_iload hG 4 rfl dX9_cliqueOf_91 ?_
                    refine v_iconst hG (v := 1) (by decide) dX9_cliqueOf_93 ?_
                    refine v_isub hG dX9_cliqueOf_94 ?_
                    refine m_l_32 hG dX9_cliqueOf_95 hf (fun hf => ?_)
                    refine m_s_32 hG dX9_cliqueOf_96 hf (fun w96 hf => ?_)
                    refine v_iinc hG 4 (v := s52.2 + (-1)) [(4, _), (0, _), (1, _), (2, _), (3, _)] dX9_cliqueOf_97 rfl rfl (by decide) rfl ?_
                    refine v_goto hG 52 dX9_cliqueOf_100 rfl ?_
                    refine v_sub [(0, _), (1, _), (2, _), (3, _), (4, _)] [1, 2, 3, 4, 0] rfl ?_
                    exact hin _ (Option.some.inj hf).symm
              · show V p l e (k2_rm 2 50) s m args below meth c (inW (mcells g ad w)) (EN below args s g (mcells g ad w) (mcells g ad rr.2) (some (.int rr.1))) g 7 (mcells g ad z52.1) 0 0 103 [(0, .ref (ad 0)), (1, .int a0), (2, .int s4.2.1), (3, .int s4.2.2), (4, .int z52.2)] []
                refine v_aload_n hG 0 rfl rfl dX9_cliqueOf_103 ?_
                refine m_g_0_42 hG wk_1108 dX9_cliqueOf_104 ?_
                refine v_iload hG 4 rfl dX9_cliqueOf_107 ?_
                refine v_iload_n hG 3 rfl rfl dX9_cliqueOf_109 ?_
                refine m_s_32 hG dX9_cliqueOf_110 hf (fun w110 hf => ?_)
                refine v_iinc hG 2 (v := s4.2.1 + 1) [(2, _), (0, _), (1, _), (3, _), (4, _)] dX9_cliqueOf_111 rfl rfl (by decide) rfl ?_
                refine v_sub [(0, _), (1, _), (2, _), (3, _)] [1, 2, 0, 3] rfl ?_
                exact j114 w110 (s4.2.1 + 1) s4.2.2 hf
  · show V p l e (k2_rm 2 50) s m args below meth c (inW (mcells g ad w)) (EN below args s g (mcells g ad w) (mcells g ad rr.2) (some (.int rr.1))) g 7 (mcells g ad z4.1) 0 0 120 [(0, .ref (ad 0)), (1, .int a0), (2, .int z4.2)] []
    refine v_aload_n hG 0 rfl rfl dX9_cliqueOf_120 ?_
    refine m_g_0_18 hG wk_1084 dX9_cliqueOf_121 ?_
    refine v_iload_n hG 1 rfl rfl dX9_cliqueOf_124 ?_
    refine m_l_15 hG dX9_cliqueOf_125 hf (fun hf => ?_)
    refine v_aload_n hG 0 rfl rfl dX9_cliqueOf_126 ?_
    refine v_iload_n hG 1 rfl rfl dX9_cliqueOf_127 ?_
    refine v_iconst hG (v := -1) (by decide) dX9_cliqueOf_128 ?_
    refine v_iconst hG (v := 0) (by decide) dX9_cliqueOf_129 ?_
    obtain ⟨r130, hr130, hf⟩ := bd_some hf
    refine v_callV hG (st := [.long ((gM_right z4.1) a0.toNatClampNeg)]) 0 9 (ct_X9_end l g ad z4.1 a0 (-1) 0 r130 hr130) iw_X9_end wk_1322 rfl rfl ⟨rfl, rfl, Nat.le_of_ble_eq_true rfl, Nat.le_of_ble_eq_true rfl⟩ ⟨Nat.le_of_ble_eq_true rfl, Nat.le_of_ble_eq_true rfl⟩ rfl rfl (Nat.le_of_ble_eq_true rfl) (mcells_fst _ _ _ _) dX9_cliqueOf_130 ?_
    refine (show V p l e (k2_rm 2 50) s m args below meth c (inW (mcells g ad w)) (EN below args s g (mcells g ad w) (mcells g ad rr.2) (some (.int rr.1))) g 7 (mcells g ad z4.1) 0 0 133 [(0, .ref (ad 0)), (1, .int a0), (2, .int z4.2)] [.long r130, .long ((gM_right z4.1) a0.toNatClampNeg)] from ?_)
    refine v_lsub hG dX9_cliqueOf_133 ?_
    refine v_lstore_n hG [(3, _), (0, _), (1, _), (2, _)] dX9_cliqueOf_134 rfl (by decide) rfl ?_
    refine v_iconst hG (v := 0) (by decide) dX9_cliqueOf_135 ?_
    refine v_istore hG [(5, _), (3, _), (0, _), (1, _), (2, _)] dX9_cliqueOf_136 (by decide) rfl ?_
    refine v_iconst hG (v := 2) (by decide) dX9_cliqueOf_138 ?_
    refine v_istore hG [(6, _), (5, _), (3, _), (0, _), (1, _), (2, _)] dX9_cliqueOf_139 (by decide) rfl ?_
    refine v_sub [(0, _), (1, _), (2, _), (3, _), (5, _), (6, _)] [3, 4, 5, 2, 1, 0] rfl ?_
    obtain ⟨z141, hlz141, hf⟩ := bd_some hf
    refine loop_v (step := X9_cliqueOf_L141 a0 z4 r130) (fun s141 : Int32 × Int32 => V p l e (k2_rm 2 50) s m args below meth c (inW (mcells g ad w)) (EN below args s g (mcells g ad w) (mcells g ad rr.2) (some (.int rr.1))) g 7 (mcells g ad z4.1) 0 0 141 [(0, .ref (ad 0)), (1, .int a0), (2, .int z4.2), (3, .long (((gM_right z4.1) a0.toNatClampNeg) - r130)), (5, .int s141.1), (6, .int s141.2)] []) (fun z141_q : (Int32) => V p l e (k2_rm 2 50) s m args below meth c (inW (mcells g ad w)) (EN below args s g (mcells g ad w) (mcells g ad rr.2) (some (.int rr.1))) g 7 (mcells g ad z4.1) 0 0 196 [(5, .int z141_q)] []) ?_ 5000 (0, 2) z141 hlz141 ?_
    · intro s141 rL hf hin hout
      unfold X9_cliqueOf_L141 at hf
      have j188 : ∀ (j188_0 : Int32) (j188_1 : Int32), X9_cliqueOf_J188 j188_0 j188_1 = some rL → V p l e (k2_rm 2 50) s m args below meth c (inW (mcells g ad w)) (EN below args s g (mcells g ad w) (mcells g ad rr.2) (some (.int rr.1))) g 7 (mcells g ad z4.1) 0 0 188 [(0, .ref (ad 0)), (1, .int a0), (2, .int z4.2), (3, .long (((gM_right z4.1) a0.toNatClampNeg) - r130)), (6, .int j188_0)] [.int j188_1] := by
        intro j188_0 j188_1 hf
        unfold X9_cliqueOf_J188 at hf
        refine v_istore hG [(5, _), (0, _), (1, _), (2, _), (3, _), (6, _)] dX9_cliqueOf_188 (by decide) rfl ?_
        refine v_iinc hG 5 (v := j188_0 + 1) [(6, _), (5, _), (0, _), (1, _), (2, _), (3, _)] dX9_cliqueOf_190 rfl rfl (by decide) rfl ?_
        refine v_goto hG 141 dX9_cliqueOf_193 rfl ?_
        refine v_sub [(0, _), (1, _), (2, _), (3, _), (5, _), (6, _)] [2, 3, 4, 5, 1, 0] rfl ?_
        exact hin _ (Option.some.inj hf).symm
      refine v_iload hG 5 rfl dX9_cliqueOf_141 ?_
      refine v_iload_n hG 2 rfl rfl dX9_cliqueOf_143 ?_
      refine v_icmp_gt hG 196 dX9_cliqueOf_144 rfl hf (fun hf => ?_) (fun hf => ?_)
      · refine v_sub [(5, _)] [4] rfl ?_
        exact hout _ (Option.some.inj hf).symm
      · refine v_aload_n hG 0 rfl rfl dX9_cliqueOf_147 ?_
        refine v_iload_n hG 1 rfl rfl dX9_cliqueOf_148 ?_
        refine v_aload_n hG 0 rfl rfl dX9_cliqueOf_149 ?_
        refine m_g_0_42 hG wk_1108 dX9_cliqueOf_150 ?_
        refine v_iload hG 5 rfl dX9_cliqueOf_153 ?_
        refine v_iconst hG (v := 2) (by decide) dX9_cliqueOf_155 ?_
        refine v_isub hG dX9_cliqueOf_156 ?_
        refine m_l_32 hG dX9_cliqueOf_157 hf (fun hf => ?_)
        obtain ⟨r158, hr158, hf⟩ := bd_some hf
        refine v_callV hG (st := []) 0 9 (ct_X9_amount l g ad z4.1 a0 ((gM_clique z4.1) (s141.2 - 2).toNatClampNeg) r158 hr158) iw_X9_amount wk_1484 rfl rfl ⟨rfl, rfl, Nat.le_of_ble_eq_true rfl, Nat.le_of_ble_eq_true rfl⟩ ⟨Nat.le_of_ble_eq_true rfl, Nat.le_of_ble_eq_true rfl⟩ rfl rfl (Nat.le_of_ble_eq_true rfl) (mcells_fst _ _ _ _) dX9_cliqueOf_158 ?_
        refine (show V p l e (k2_rm 2 50) s m args below meth c (inW (mcells g ad w)) (EN below args s g (mcells g ad w) (mcells g ad rr.2) (some (.int rr.1))) g 7 (mcells g ad z4.1) 0 0 161 [(0, .ref (ad 0)), (1, .int a0), (2, .int z4.2), (3, .long (((gM_right z4.1) a0.toNatClampNeg) - r130)), (5, .int s141.1), (6, .int s141.2)] [.long r158] from ?_)
        refine v_aload_n hG 0 rfl rfl dX9_cliqueOf_161 ?_
        refine v_iload_n hG 1 rfl rfl dX9_cliqueOf_162 ?_
        refine v_aload_n hG 0 rfl rfl dX9_cliqueOf_163 ?_
        refine m_g_0_42 hG wk_1108 dX9_cliqueOf_164 ?_
        refine v_iload hG 5 rfl dX9_cliqueOf_167 ?_
        refine v_iconst hG (v := 1) (by decide) dX9_cliqueOf_169 ?_
        refine v_isub hG dX9_cliqueOf_170 ?_
        refine m_l_32 hG dX9_cliqueOf_171 hf (fun hf => ?_)
        obtain ⟨r172, hr172, hf⟩ := bd_some hf
        refine v_callV hG (st := [.long r158]) 0 9 (ct_X9_amount l g ad z4.1 a0 ((gM_clique z4.1) (s141.2 - 1).toNatClampNeg) r172 hr172) iw_X9_amount wk_1484 rfl rfl ⟨rfl, rfl, Nat.le_of_ble_eq_true rfl, Nat.le_of_ble_eq_true rfl⟩ ⟨Nat.le_of_ble_eq_true rfl, Nat.le_of_ble_eq_true rfl⟩ rfl rfl (Nat.le_of_ble_eq_true rfl) (mcells_fst _ _ _ _) dX9_cliqueOf_172 ?_
        refine (show V p l e (k2_rm 2 50) s m args below meth c (inW (mcells g ad w)) (EN below args s g (mcells g ad w) (mcells g ad rr.2) (some (.int rr.1))) g 7 (mcells g ad z4.1) 0 0 175 [(0, .ref (ad 0)), (1, .int a0), (2, .int z4.2), (3, .long (((gM_right z4.1) a0.toNatClampNeg) - r130)), (5, .int s141.1), (6, .int s141.2)] [.long r172, .long r158] from ?_)
        refine v_ladd hG dX9_cliqueOf_175 ?_
        refine v_lload_n hG 3 rfl rfl dX9_cliqueOf_176 ?_
        refine v_lcmp_le hG 186 dX9_cliqueOf_177 dX9_cliqueOf_178 rfl hf (fun hf => ?_) (fun hf => ?_)
        · refine v_iload hG 4 rfl dX9_cliqueOf_186 ?_
          refine v_sub [(0, _), (1, _), (2, _), (3, _), (6, _)] [0, 1, 2, 3, 5] rfl ?_
          exact j188 s141.2 s141.1 hf
        · refine v_iload hG 5 rfl dX9_cliqueOf_181 ?_
          refine v_goto hG 188 dX9_cliqueOf_183 rfl ?_
          refine v_sub [(0, _), (1, _), (2, _), (3, _), (6, _)] [0, 1, 2, 3, 5] rfl ?_
          exact j188 s141.2 s141.2 hf
    · show V p l e (k2_rm 2 50) s m args below meth c (inW (mcells g ad w)) (EN below args s g (mcells g ad w) (mcells g ad rr.2) (some (.int rr.1))) g 7 (mcells g ad z4.1) 0 0 196 [(5, .int z141)] []
      refine v_iload hG 0 rfl dX9_cliqueOf_196 ?_
      cases hf
      exact v_iret hG hr dX9_cliqueOf_198
def X9_clique_J26 (a0 : Int32) (j26_0 : MW) (j26_1 : Int32) (j26_2 : Int32) : Option (Int32 × MW) := ((X9_passes j26_0 j26_1 j26_2).bind (fun r26 : Int32 × MW => (if r26.1 = 0 then (some (0, r26.2)) else ((X9_cliqueOf r26.2 a0).bind (fun r34 : Int32 × MW => (some (r34.1, r34.2)))))))
def X9_clique_J13 (a0 : Int32) (j13_0 : MW) (j13_1 : Int32) : Option (Int32 × MW) := ((X9_isRow j13_0 a0).bind (fun r15 : Int32 => (if r15 = 0 then (X9_clique_J26 a0 j13_0 j13_1 1) else (X9_clique_J26 a0 j13_0 j13_1 0))))
def X9_clique (w : MW) (a0 : Int32) : Option (Int32 × MW) := (if (gM_isSmall w) = 0 then (X9_clique_J13 a0 w 1) else (X9_clique_J13 a0 w 0))
set_option maxRecDepth 100000 in
set_option maxHeartbeats 4000000 in
theorem ct_X9_clique (l : Launch) (g : wG) (ad : Nat → Nat) (w : MW) (a0 : Int32) (rr : Int32 × MW) (hf : X9_clique w a0 = some rr) : MetN l g yX9_clique cX9_clique 2 (some .int) (k2_rm 3 76) [.ref (ad 0), .int a0] (mcells g ad w) (mcells g ad rr.2) (some (.int rr.1)) := by
  refine MetN.of2 [(0, .ref (ad 0)), (1, .int a0)] rfl (by decide +kernel) (Nat.le_of_ble_eq_true rfl) ?_
  intro p e s m args below meth c hG hr
  unfold X9_clique at hf
  have j26 : ∀ (j26_0 : MW) (j26_1 : Int32) (j26_2 : Int32), X9_clique_J26 a0 j26_0 j26_1 j26_2 = some rr → V p l e (k2_rm 3 76) s m args below meth c (inW (mcells g ad w)) (EN below args s g (mcells g ad w) (mcells g ad rr.2) (some (.int rr.1))) g 2 (mcells g ad j26_0) 0 0 26 [(0, .ref (ad 0)), (1, .int a0)] [.int j26_2, .int j26_1, .ref (ad 0)] := by
    intro j26_0 j26_1 j26_2 hf
    unfold X9_clique_J26 at hf
    obtain ⟨r26, hr26, hf⟩ := bd_some hf
    refine v_callV hG (st := []) 0 9 (ct_X9_passes l g ad j26_0 j26_1 j26_2 r26 hr26) iw_X9_passes wk_1212 rfl rfl ⟨rfl, rfl, Nat.le_of_ble_eq_true rfl, Nat.le_of_ble_eq_true rfl⟩ ⟨Nat.le_of_ble_eq_true rfl, Nat.le_of_ble_eq_true rfl⟩ rfl rfl (Nat.le_of_ble_eq_true rfl) (mcells_fst _ _ _ _) dX9_clique_26 ?_
    refine (show V p l e (k2_rm 3 76) s m args below meth c (inW (mcells g ad w)) (EN below args s g (mcells g ad w) (mcells g ad rr.2) (some (.int rr.1))) g 2 (mcells g ad r26.2) 0 0 29 [(0, .ref (ad 0)), (1, .int a0)] [.int r26.1] from ?_)
    refine v_if_eq hG 40 dX9_clique_29 rfl hf (fun hf => ?_) (fun hf => ?_)
    · refine v_iconst hG (v := 0) (by decide) dX9_clique_40 ?_
      cases hf
      exact v_iret hG hr dX9_clique_41
    · refine v_aload_n hG 0 rfl rfl dX9_clique_32 ?_
      refine v_iload_n hG 1 rfl rfl dX9_clique_33 ?_
      obtain ⟨r34, hr34, hf⟩ := bd_some hf
      refine v_callV hG (st := []) 0 9 (ct_X9_cliqueOf l g ad r26.2 a0 r34 hr34) iw_X9_cliqueOf wk_1480 rfl rfl ⟨rfl, rfl, Nat.le_of_ble_eq_true rfl, Nat.le_of_ble_eq_true rfl⟩ ⟨Nat.le_of_ble_eq_true rfl, Nat.le_of_ble_eq_true rfl⟩ rfl rfl (Nat.le_of_ble_eq_true rfl) (mcells_fst _ _ _ _) dX9_clique_34 ?_
      refine (show V p l e (k2_rm 3 76) s m args below meth c (inW (mcells g ad w)) (EN below args s g (mcells g ad w) (mcells g ad rr.2) (some (.int rr.1))) g 2 (mcells g ad r34.2) 0 0 37 [(0, .ref (ad 0)), (1, .int a0)] [.int r34.1] from ?_)
      refine v_goto hG 41 dX9_clique_37 rfl ?_
      cases hf
      exact v_iret hG hr dX9_clique_41
  have j13 : ∀ (j13_0 : MW) (j13_1 : Int32), X9_clique_J13 a0 j13_0 j13_1 = some rr → V p l e (k2_rm 3 76) s m args below meth c (inW (mcells g ad w)) (EN below args s g (mcells g ad w) (mcells g ad rr.2) (some (.int rr.1))) g 2 (mcells g ad j13_0) 0 0 13 [(0, .ref (ad 0)), (1, .int a0)] [.int j13_1, .ref (ad 0)] := by
    intro j13_0 j13_1 hf
    unfold X9_clique_J13 at hf
    refine v_aload_n hG 0 rfl rfl dX9_clique_13 ?_
    refine v_iload_n hG 1 rfl rfl dX9_clique_14 ?_
    obtain ⟨r15, hr15, hf⟩ := bd_some hf
    refine v_callV hG (st := [.int j13_1, .ref (ad 0)]) 0 9 (ct_X9_isRow l g ad j13_0 a0 r15 hr15) iw_X9_isRow wk_1234 rfl rfl ⟨rfl, rfl, Nat.le_of_ble_eq_true rfl, Nat.le_of_ble_eq_true rfl⟩ ⟨Nat.le_of_ble_eq_true rfl, Nat.le_of_ble_eq_true rfl⟩ rfl rfl (Nat.le_of_ble_eq_true rfl) (mcells_fst _ _ _ _) dX9_clique_15 ?_
    refine (show V p l e (k2_rm 3 76) s m args below meth c (inW (mcells g ad w)) (EN below args s g (mcells g ad w) (mcells g ad rr.2) (some (.int rr.1))) g 2 (mcells g ad j13_0) 0 0 18 [(0, .ref (ad 0)), (1, .int a0)] [.int r15, .int j13_1, .ref (ad 0)] from ?_)
    refine v_if_ne hG 25 dX9_clique_18 rfl hf (fun hf => ?_) (fun hf => ?_)
    · refine v_iconst hG (v := 0) (by decide) dX9_clique_25 ?_
      exact j26 j13_0 j13_1 0 hf
    · refine v_iconst hG (v := 1) (by decide) dX9_clique_21 ?_
      refine v_goto hG 26 dX9_clique_22 rfl ?_
      exact j26 j13_0 j13_1 1 hf
  refine v_aload_n hG 0 rfl rfl dX9_clique_0 ?_
  refine v_aload_n hG 0 rfl rfl dX9_clique_1 ?_
  refine m_g_0_9 hG wk_1075 dX9_clique_2 ?_
  refine v_if_ne hG 12 dX9_clique_5 rfl hf (fun hf => ?_) (fun hf => ?_)
  · refine v_iconst hG (v := 0) (by decide) dX9_clique_12 ?_
    exact j13 w 0 hf
  · refine v_iconst hG (v := 1) (by decide) dX9_clique_8 ?_
    refine v_goto hG 13 dX9_clique_9 rfl ?_
    exact j13 w 1 hf
def X9_cliqueAt_J102  (j102_0 : MW) (j102_1 : Int32) (j102_2 : Int32) : Option (Int32 × MW) := (some ((j102_1 + j102_2), j102_0))
def X9_cliqueAt_J60 (a0 : Int32) (a1 : Int32) (j60_0 : MW) (j60_1 : Int32) (j60_2 : Int32) : Option (Int32 × MW) := ((X9_passes j60_0 j60_1 j60_2).bind (fun r60 : Int32 × MW => (if r60.1 = 0 then (some (0, r60.2)) else (if inR a1 12 = true then (if inR a1 12 = true then (if inR ((12 * a0) + ((gM_clique r60.2) a1.toNatClampNeg)) 144 = true then (if ((gM_coef r60.2) ((12 * a0) + ((gM_clique r60.2) a1.toNatClampNeg)).toNatClampNeg) ≤ 0 then (X9_cliqueAt_J102 r60.2 (2 * ((gM_clique r60.2) a1.toNatClampNeg)) 0) else (X9_cliqueAt_J102 r60.2 (2 * ((gM_clique r60.2) a1.toNatClampNeg)) 1)) else none) else none) else none))))
def X9_cliqueAt_J26 (a0 : Int32) (a1 : Int32) (j26_0 : MW) (j26_1 : Int32) (j26_2 : Int32) : Option (Int32 × MW) := ((X9_passes j26_0 j26_1 j26_2).bind (fun r26 : Int32 × MW => (if r26.1 = 0 then (some (0, r26.2)) else ((X9_cliqueOf r26.2 a0).bind (fun r36 : Int32 × MW => ((X9_within a1.toInt64 0 ((r36.1 - 1).toInt64)).bind (fun r49 : Int32 => (if r49 = 0 then (X9_cliqueAt_J60 a0 a1 r36.2 0 1) else (X9_cliqueAt_J60 a0 a1 r36.2 0 0)))))))))
def X9_cliqueAt_J13 (a0 : Int32) (a1 : Int32) (j13_0 : MW) (j13_1 : Int32) : Option (Int32 × MW) := ((X9_isRow j13_0 a0).bind (fun r15 : Int32 => (if r15 = 0 then (X9_cliqueAt_J26 a0 a1 j13_0 j13_1 1) else (X9_cliqueAt_J26 a0 a1 j13_0 j13_1 0))))
def X9_cliqueAt (w : MW) (a0 : Int32) (a1 : Int32) : Option (Int32 × MW) := (if (gM_isSmall w) = 0 then (X9_cliqueAt_J13 a0 a1 w 1) else (X9_cliqueAt_J13 a0 a1 w 0))
set_option maxRecDepth 100000 in
set_option maxHeartbeats 4000000 in
theorem ct_X9_cliqueAt (l : Launch) (g : wG) (ad : Nat → Nat) (w : MW) (a0 : Int32) (a1 : Int32) (rr : Int32 × MW) (hf : X9_cliqueAt w a0 a1 = some rr) : MetN l g yX9_cliqueAt cX9_cliqueAt 4 (some .int) (k2_rm 3 76) [.ref (ad 0), .int a0, .int a1] (mcells g ad w) (mcells g ad rr.2) (some (.int rr.1)) := by
  refine MetN.of2 [(0, .ref (ad 0)), (1, .int a0), (2, .int a1)] rfl (by decide +kernel) (Nat.le_of_ble_eq_true rfl) ?_
  intro p e s m args below meth c hG hr
  unfold X9_cliqueAt at hf
  have j102 : ∀ (j102_0 : MW) (j102_1 : Int32) (j102_2 : Int32), X9_cliqueAt_J102 j102_0 j102_1 j102_2 = some rr → V p l e (k2_rm 3 76) s m args below meth c (inW (mcells g ad w)) (EN below args s g (mcells g ad w) (mcells g ad rr.2) (some (.int rr.1))) g 4 (mcells g ad j102_0) 0 0 102 [] [.int j102_2, .int j102_1] := by
    intro j102_0 j102_1 j102_2 hf
    unfold X9_cliqueAt_J102 at hf
    refine v_iadd hG dX9_cliqueAt_102 ?_
    cases hf
    exact v_iret hG hr dX9_cliqueAt_103
  have j60 : ∀ (j60_0 : MW) (j60_1 : Int32) (j60_2 : Int32), X9_cliqueAt_J60 a0 a1 j60_0 j60_1 j60_2 = some rr → V p l e (k2_rm 3 76) s m args below meth c (inW (mcells g ad w)) (EN below args s g (mcells g ad w) (mcells g ad rr.2) (some (.int rr.1))) g 4 (mcells g ad j60_0) 0 0 60 [(0, .ref (ad 0)), (1, .int a0), (2, .int a1)] [.int j60_2, .int j60_1, .ref (ad 0)] := by
    intro j60_0 j60_1 j60_2 hf
    unfold X9_cliqueAt_J60 at hf
    obtain ⟨r60, hr60, hf⟩ := bd_some hf
    refine v_callV hG (st := []) 0 9 (ct_X9_passes l g ad j60_0 j60_1 j60_2 r60 hr60) iw_X9_passes wk_1212 rfl rfl ⟨rfl, rfl, Nat.le_of_ble_eq_true rfl, Nat.le_of_ble_eq_true rfl⟩ ⟨Nat.le_of_ble_eq_true rfl, Nat.le_of_ble_eq_true rfl⟩ rfl rfl (Nat.le_of_ble_eq_true rfl) (mcells_fst _ _ _ _) dX9_cliqueAt_60 ?_
    refine (show V p l e (k2_rm 3 76) s m args below meth c (inW (mcells g ad w)) (EN below args s g (mcells g ad w) (mcells g ad rr.2) (some (.int rr.1))) g 4 (mcells g ad r60.2) 0 0 63 [(0, .ref (ad 0)), (1, .int a0), (2, .int a1)] [.int r60.1] from ?_)
    refine v_if_ne hG 68 dX9_cliqueAt_63 rfl hf (fun hf => ?_) (fun hf => ?_)
    · refine v_iconst hG (v := 2) (by decide) dX9_cliqueAt_68 ?_
      refine v_aload_n hG 0 rfl rfl dX9_cliqueAt_69 ?_
      refine m_g_0_42 hG wk_1108 dX9_cliqueAt_70 ?_
      refine v_iload_n hG 2 rfl rfl dX9_cliqueAt_73 ?_
      refine m_l_32 hG dX9_cliqueAt_74 hf (fun hf => ?_)
      refine v_imul hG dX9_cliqueAt_75 ?_
      refine v_aload_n hG 0 rfl rfl dX9_cliqueAt_76 ?_
      refine m_g_0_20 hG wk_1086 dX9_cliqueAt_77 ?_
      refine v_bipush hG (v := 12) (by decide) dX9_cliqueAt_80 ?_
      refine v_iload_n hG 1 rfl rfl dX9_cliqueAt_82 ?_
      refine v_imul hG dX9_cliqueAt_83 ?_
      refine v_aload_n hG 0 rfl rfl dX9_cliqueAt_84 ?_
      refine m_g_0_42 hG wk_1108 dX9_cliqueAt_85 ?_
      refine v_iload_n hG 2 rfl rfl dX9_cliqueAt_88 ?_
      refine m_l_32 hG dX9_cliqueAt_89 hf (fun hf => ?_)
      refine v_iadd hG dX9_cliqueAt_90 ?_
      refine m_l_17 hG dX9_cliqueAt_91 hf (fun hf => ?_)
      refine v_lconst hG (v := 0) (by decide) dX9_cliqueAt_92 ?_
      refine v_lcmp_le hG 101 dX9_cliqueAt_93 dX9_cliqueAt_94 rfl hf (fun hf => ?_) (fun hf => ?_)
      · refine v_iconst hG (v := 0) (by decide) dX9_cliqueAt_101 ?_
        refine v_sub [] [] rfl ?_
        exact j102 r60.2 (2 * ((gM_clique r60.2) a1.toNatClampNeg)) 0 hf
      · refine v_iconst hG (v := 1) (by decide) dX9_cliqueAt_97 ?_
        refine v_goto hG 102 dX9_cliqueAt_98 rfl ?_
        refine v_sub [] [] rfl ?_
        exact j102 r60.2 (2 * ((gM_clique r60.2) a1.toNatClampNeg)) 1 hf
    · refine v_iconst hG (v := 0) (by decide) dX9_cliqueAt_66 ?_
      cases hf
      exact v_iret hG hr dX9_cliqueAt_67
  have j26 : ∀ (j26_0 : MW) (j26_1 : Int32) (j26_2 : Int32), X9_cliqueAt_J26 a0 a1 j26_0 j26_1 j26_2 = some rr → V p l e (k2_rm 3 76) s m args below meth c (inW (mcells g ad w)) (EN below args s g (mcells g ad w) (mcells g ad rr.2) (some (.int rr.1))) g 4 (mcells g ad j26_0) 0 0 26 [(0, .ref (ad 0)), (1, .int a0), (2, .int a1)] [.int j26_2, .int j26_1, .ref (ad 0)] := by
    intro j26_0 j26_1 j26_2 hf
    unfold X9_cliqueAt_J26 at hf
    obtain ⟨r26, hr26, hf⟩ := bd_some hf
    refine v_callV hG (st := []) 0 9 (ct_X9_passes l g ad j26_0 j26_1 j26_2 r26 hr26) iw_X9_passes wk_1212 rfl rfl ⟨rfl, rfl, Nat.le_of_ble_eq_true rfl, Nat.le_of_ble_eq_true rfl⟩ ⟨Nat.le_of_ble_eq_true rfl, Nat.le_of_ble_eq_true rfl⟩ rfl rfl (Nat.le_of_ble_eq_true rfl) (mcells_fst _ _ _ _) dX9_cliqueAt_26 ?_
    refine (show V p l e (k2_rm 3 76) s m args below meth c (inW (mcells g ad w)) (EN below args s g (mcells g ad w) (mcells g ad rr.2) (some (.int rr.1))) g 4 (mcells g ad r26.2) 0 0 29 [(0, .ref (ad 0)), (1, .int a0), (2, .int a1)] [.int r26.1] from ?_)
    refine v_if_ne hG 34 dX9_cliqueAt_29 rfl hf (fun hf => ?_) (fun hf => ?_)
    · refine v_aload_n hG 0 rfl rfl dX9_cliqueAt_34 ?_
      refine v_iload_n hG 1 rfl rfl dX9_cliqueAt_35 ?_
      obtain ⟨r36, hr36, hf⟩ := bd_some hf
      refine v_callV hG (st := []) 0 9 (ct_X9_cliqueOf l g ad r26.2 a0 r36 hr36) iw_X9_cliqueOf wk_1480 rfl rfl ⟨rfl, rfl, Nat.le_of_ble_eq_true rfl, Nat.le_of_ble_eq_true rfl⟩ ⟨Nat.le_of_ble_eq_true rfl, Nat.le_of_ble_eq_true rfl⟩ rfl rfl (Nat.le_of_ble_eq_true rfl) (mcells_fst _ _ _ _) dX9_cliqueAt_36 ?_
      refine (show V p l e (k2_rm 3 76) s m args below meth c (inW (mcells g ad w)) (EN below args s g (mcells g ad w) (mcells g ad rr.2) (some (.int rr.1))) g 4 (mcells g ad r36.2) 0 0 39 [(0, .ref (ad 0)), (1, .int a0), (2, .int a1)] [.int r36.1] from ?_)
      refine v_istore_n hG [(3, _), (0, _), (1, _), (2, _)] dX9_cliqueAt_39 rfl (by decide) rfl ?_
      refine v_aload_n hG 1 rfl rfl dX9_cliqueAt_40 ?_
      refine v_iconst hG (v := 0) (by decide) dX9_cliqueAt_41 ?_
      refine v_iload_n hG 3 rfl rfl dX9_cliqueAt_42 ?_
      refine v_i2l hG dX9_cliqueAt_43 ?_
      refine v_lconst hG (v := 0) (by decide) dX9_cliqueAt_44 ?_
      refine v_iload_n hG 0 rfl rfl dX9_cliqueAt_45 ?_
      refine v_iconst hG (v := 1) (by decide) dX9_cliqueAt_46 ?_
      refine v_isub hG dX9_cliqueAt_47 ?_
      refine v_i2l hG dX9_cliqueAt_48 ?_
      obtain ⟨r49, hr49, hf⟩ := bd_some hf
      refine v_callP hG (st := [.int 0, .ref (ad 0)]) (ct_X9_within l g a1.toInt64 0 ((r36.1 - 1).toInt64) r49 hr49) sw_X9_within wk_1207 ⟨rfl, rfl, Nat.le_of_ble_eq_true rfl, Nat.le_of_ble_eq_true rfl⟩ ⟨Nat.le_of_ble_eq_true rfl, Nat.le_of_ble_eq_true rfl⟩ rfl rfl (Nat.le_of_ble_eq_true rfl) dX9_cliqueAt_49 ?_
      refine (show V p l e (k2_rm 3 76) s m args below meth c (inW (mcells g ad w)) (EN below args s g (mcells g ad w) (mcells g ad rr.2) (some (.int rr.1))) g 4 (mcells g ad r36.2) 0 0 52 [(3, .int r36.1), (0, .ref (ad 0)), (1, .int a0), (2, .int a1)] [.int r49, .int 0, .ref (ad 0)] from ?_)
      refine v_if_ne hG 59 dX9_cliqueAt_52 rfl hf (fun hf => ?_) (fun hf => ?_)
      · refine v_iconst hG (v := 0) (by decide) dX9_cliqueAt_59 ?_
        refine v_sub [(0, _), (1, _), (2, _)] [1, 2, 3] rfl ?_
        exact j60 r36.2 0 0 hf
      · refine v_iconst hG (v := 1) (by decide) dX9_cliqueAt_55 ?_
        refine v_goto hG 60 dX9_cliqueAt_56 rfl ?_
        refine v_sub [(0, _), (1, _), (2, _)] [1, 2, 3] rfl ?_
        exact j60 r36.2 0 1 hf
    · refine v_iconst hG (v := 0) (by decide) dX9_cliqueAt_32 ?_
      cases hf
      exact v_iret hG hr dX9_cliqueAt_33
  have j13 : ∀ (j13_0 : MW) (j13_1 : Int32), X9_cliqueAt_J13 a0 a1 j13_0 j13_1 = some rr → V p l e (k2_rm 3 76) s m args below meth c (inW (mcells g ad w)) (EN below args s g (mcells g ad w) (mcells g ad rr.2) (some (.int rr.1))) g 4 (mcells g ad j13_0) 0 0 13 [(0, .ref (ad 0)), (1, .int a0), (2, .int a1)] [.int j13_1, .ref (ad 0)] := by
    intro j13_0 j13_1 hf
    unfold X9_cliqueAt_J13 at hf
    refine v_aload_n hG 0 rfl rfl dX9_cliqueAt_13 ?_
    refine v_iload_n hG 1 rfl rfl dX9_cliqueAt_14 ?_
    obtain ⟨r15, hr15, hf⟩ := bd_some hf
    refine v_callV hG (st := [.int j13_1, .ref (ad 0)]) 0 9 (ct_X9_isRow l g ad j13_0 a0 r15 hr15) iw_X9_isRow wk_1234 rfl rfl ⟨rfl, rfl, Nat.le_of_ble_eq_true rfl, Nat.le_of_ble_eq_true rfl⟩ ⟨Nat.le_of_ble_eq_true rfl, Nat.le_of_ble_eq_true rfl⟩ rfl rfl (Nat.le_of_ble_eq_true rfl) (mcells_fst _ _ _ _) dX9_cliqueAt_15 ?_
    refine (show V p l e (k2_rm 3 76) s m args below meth c (inW (mcells g ad w)) (EN below args s g (mcells g ad w) (mcells g ad rr.2) (some (.int rr.1))) g 4 (mcells g ad j13_0) 0 0 18 [(0, .ref (ad 0)), (1, .int a0), (2, .int a1)] [.int r15, .int j13_1, .ref (ad 0)] from ?_)
    refine v_if_ne hG 25 dX9_cliqueAt_18 rfl hf (fun hf => ?_) (fun hf => ?_)
    · refine v_iconst hG (v := 0) (by decide) dX9_cliqueAt_25 ?_
      exact j26 j13_0 j13_1 0 hf
    · refine v_iconst hG (v := 1) (by decide) dX9_cliqueAt_21 ?_
      refine v_goto hG 26 dX9_cliqueAt_22 rfl ?_
      exact j26 j13_0 j13_1 1 hf
  refine v_aload_n hG 0 rfl rfl dX9_cliqueAt_0 ?_
  refine v_aload_n hG 0 rfl rfl dX9_cliqueAt_1 ?_
  refine m_g_0_9 hG wk_1075 dX9_cliqueAt_2 ?_
  refine v_if_ne hG 12 dX9_cliqueAt_5 rfl hf (fun hf => ?_) (fun hf => ?_)
  · refine v_iconst hG (v := 0) (by decide) dX9_cliqueAt_12 ?_
    exact j13 w 0 hf
  · refine v_iconst hG (v := 1) (by decide) dX9_cliqueAt_8 ?_
    refine v_goto hG 13 dX9_cliqueAt_9 rfl ?_
    exact j13 w 1 hf
def X9_same_J171  (j171_0 : Int32) (j171_1 : Int32) : Option ((Int32 × Int32) ⊕ ((Int32))) := (some (.inl (j171_1, (j171_0 + 1))))
def X9_same_J170  (j170_0 : Int32) : Option ((Int32 × Int32) ⊕ ((Int32))) := (X9_same_J171 j170_0 0)
def X9_same_J166  (j166_0 : Int32) : Option ((Int32 × Int32) ⊕ ((Int32))) := (X9_same_J171 j166_0 1)
def X9_same_L115 (a0 : Int32) (a1 : Int32) (j111_0 : MW) (s115 : Int32 × Int32) : Option ((Int32 × Int32) ⊕ ((Int32))) := (if (gM_rows j111_0) ≤ s115.2 then (some (.inr s115.1)) else (if s115.1 = 0 then (X9_same_J170 s115.2) else (if inR s115.2 12 = true then (if ((gM_gone j111_0) s115.2.toNatClampNeg) = 0 then (if inR ((12 * s115.2) + a0) 144 = true then (if inR ((12 * s115.2) + a1) 144 = true then (if ((gM_coef j111_0) ((12 * s115.2) + a0).toNatClampNeg) = ((gM_coef j111_0) ((12 * s115.2) + a1).toNatClampNeg) then (X9_same_J166 s115.2) else (X9_same_J170 s115.2)) else none) else none) else (X9_same_J166 s115.2)) else none)))
def X9_same_J111 (a0 : Int32) (a1 : Int32) (j111_0 : MW) (j111_1 : Int32) : Option (Int32 × MW) := ((iter (X9_same_L115 a0 a1 j111_0) 5000 (j111_1, 0)).bind (fun z115 : (Int32) => (if isB z115 = true then some (z115, j111_0) else none)))
def X9_same_J110 (a0 : Int32) (a1 : Int32) (j110_0 : MW) : Option (Int32 × MW) := (X9_same_J111 a0 a1 j110_0 0)
def X9_same_J34 (a0 : Int32) (a1 : Int32) (j34_0 : MW) (j34_1 : Int32) (j34_2 : Int32) : Option (Int32 × MW) := ((X9_passes j34_0 j34_1 j34_2).bind (fun r34 : Int32 × MW => (if r34.1 = 0 then (some (0, r34.2)) else (if inR a0 12 = true then (if ((gM_state r34.2) a0.toNatClampNeg) = 0 then (if inR a1 12 = true then (if ((gM_state r34.2) a1.toNatClampNeg) = 0 then (if inR a0 12 = true then (if inR a1 12 = true then (if ((gM_low r34.2) a0.toNatClampNeg) = ((gM_low r34.2) a1.toNatClampNeg) then (if inR a0 12 = true then (if inR a1 12 = true then (if ((gM_high r34.2) a0.toNatClampNeg) = ((gM_high r34.2) a1.toNatClampNeg) then (if inR a0 12 = true then (if inR a1 12 = true then (if ((gM_cost r34.2) a0.toNatClampNeg) = ((gM_cost r34.2) a1.toNatClampNeg) then (X9_same_J111 a0 a1 r34.2 1) else (X9_same_J110 a0 a1 r34.2)) else none) else none) else (X9_same_J110 a0 a1 r34.2)) else none) else none) else (X9_same_J110 a0 a1 r34.2)) else none) else none) else (X9_same_J110 a0 a1 r34.2)) else none) else (X9_same_J110 a0 a1 r34.2)) else none))))
def X9_same_J29 (a0 : Int32) (a1 : Int32) (j29_0 : MW) (j29_1 : Int32) : Option (Int32 × MW) := (X9_same_J34 a0 a1 j29_0 j29_1 1)
def X9_same_J13 (a0 : Int32) (a1 : Int32) (j13_0 : MW) (j13_1 : Int32) : Option (Int32 × MW) := ((X9_isColumn j13_0 a0).bind (fun r15 : Int32 => (if r15 = 0 then (X9_same_J29 a0 a1 j13_0 j13_1) else ((X9_isColumn j13_0 a1).bind (fun r23 : Int32 => (if r23 = 0 then (X9_same_J29 a0 a1 j13_0 j13_1) else (X9_same_J34 a0 a1 j13_0 j13_1 0)))))))
def X9_same (w : MW) (a0 : Int32) (a1 : Int32) : Option (Int32 × MW) := (if (gM_isSmall w) = 0 then (X9_same_J13 a0 a1 w 1) else (X9_same_J13 a0 a1 w 0))
set_option maxRecDepth 100000 in
set_option maxHeartbeats 4000000 in
theorem ct_X9_same (l : Launch) (g : wG) (ad : Nat → Nat) (w : MW) (a0 : Int32) (a1 : Int32) (rr : Int32 × MW) (hf : X9_same w a0 a1 = some rr) : MetN l g yX9_same cX9_same 5 (some .boolean) (k2_rm 2 46) [.ref (ad 0), .int a0, .int a1] (mcells g ad w) (mcells g ad rr.2) (some (.int rr.1)) := by
  refine MetN.of2 [(0, .ref (ad 0)), (1, .int a0), (2, .int a1)] rfl (by decide +kernel) (Nat.le_of_ble_eq_true rfl) ?_
  intro p e s m args below meth c hG hr
  unfold X9_same at hf
  have j111 : ∀ (j111_0 : MW) (j111_1 : Int32), X9_same_J111 a0 a1 j111_0 j111_1 = some rr → V p l e (k2_rm 2 46) s m args below meth c (inW (mcells g ad w)) (EN below args s g (mcells g ad w) (mcells g ad rr.2) (some (.int rr.1))) g 5 (mcells g ad j111_0) 0 0 111 [(0, .ref (ad 0)), (1, .int a0), (2, .int a1)] [.int j111_1] := by
    intro j111_0 j111_1 hf
    unfold X9_same_J111 at hf
    refine v_istore_n hG [(3, _), (0, _), (1, _), (2, _)] dX9_same_111 rfl (by decide) rfl ?_
    refine v_iconst hG (v := 0) (by decide) dX9_same_112 ?_
    refine v_istore hG [(4, _), (3, _), (0, _), (1, _), (2, _)] dX9_same_113 (by decide) rfl ?_
    refine v_sub [(0, _), (1, _), (2, _), (3, _), (4, _)] [2, 3, 4, 1, 0] rfl ?_
    obtain ⟨z115, hlz115, hf⟩ := bd_some hf
    refine loop_v (step := X9_same_L115 a0 a1 j111_0) (fun s115 : Int32 × Int32 => V p l e (k2_rm 2 46) s m args below meth c (inW (mcells g ad w)) (EN below args s g (mcells g ad w) (mcells g ad rr.2) (some (.int rr.1))) g 5 (mcells g ad j111_0) 0 0 115 [(0, .ref (ad 0)), (1, .int a0), (2, .int a1), (3, .int s115.1), (4, .int s115.2)] []) (fun z115_q : (Int32) => V p l e (k2_rm 2 46) s m args below meth c (inW (mcells g ad w)) (EN below args s g (mcells g ad w) (mcells g ad rr.2) (some (.int rr.1))) g 5 (mcells g ad j111_0) 0 0 178 [(3, .int z115_q)] []) ?_ 5000 (j111_1, 0) z115 hlz115 ?_
    · intro s115 rL hf hin hout
      unfold X9_same_L115 at hf
      have j171 : ∀ (j171_0 : Int32) (j171_1 : Int32), X9_same_J171 j171_0 j171_1 = some rL → V p l e (k2_rm 2 46) s m args below meth c (inW (mcells g ad w)) (EN below args s g (mcells g ad w) (mcells g ad rr.2) (some (.int rr.1))) g 5 (mcells g ad j111_0) 0 0 171 [(0, .ref (ad 0)), (1, .int a0), (2, .int a1), (4, .int j171_0)] [.int j171_1] := by
        intro j171_0 j171_1 hf
        unfold X9_same_J171 at hf
        refine v_istore_n hG [(3, _), (0, _), (1, _), (2, _), (4, _)] dX9_same_171 rfl (by decide) rfl ?_
        refine v_iinc hG 4 (v := j171_0 + 1) [(4, _), (3, _), (0, _), (1, _), (2, _)] dX9_same_172 rfl rfl (by decide) rfl ?_
        refine v_goto hG 115 dX9_same_175 rfl ?_
        refine v_sub [(0, _), (1, _), (2, _), (3, _), (4, _)] [2, 3, 4, 1, 0] rfl ?_
        exact hin _ (Option.some.inj hf).symm
      have j170 : ∀ (j170_0 : Int32), X9_same_J170 j170_0 = some rL → V p l e (k2_rm 2 46) s m args below meth c (inW (mcells g ad w)) (EN below args s g (mcells g ad w) (mcells g ad rr.2) (some (.int rr.1))) g 5 (mcells g ad j111_0) 0 0 170 [(0, .ref (ad 0)), (1, .int a0), (2, .int a1), (4, .int j170_0)] [] := by
        intro j170_0 hf
        unfold X9_same_J170 at hf
        refine v_iconst hG (v := 0) (by decide) dX9_same_170 ?_
        exact j171 j170_0 0 hf
      have j166 : ∀ (j166_0 : Int32), X9_same_J166 j166_0 = some rL → V p l e (k2_rm 2 46) s m args below meth c (inW (mcells g ad w)) (EN below args s g (mcells g ad w) (mcells g ad rr.2) (some (.int rr.1))) g 5 (mcells g ad j111_0) 0 0 166 [(0, .ref (ad 0)), (1, .int a0), (2, .int a1), (4, .int j166_0)] [] := by
        intro j166_0 hf
        unfold X9_same_J166 at hf
        refine v_iconst hG (v := 1) (by decide) dX9_same_166 ?_
        refine v_goto hG 171 dX9_same_167 rfl ?_
        exact j171 j166_0 1 hf
      refine v_iload hG 4 rfl dX9_same_115 ?_
      refine v_aload_n hG 0 rfl rfl dX9_same_117 ?_
      refine m_g_0_2 hG wk_1068 dX9_same_118 ?_
      refine v_icmp_ge hG 178 dX9_same_121 rfl hf (fun hf => ?_) (fun hf => ?_)
      · refine v_sub [(3, _)] [3] rfl ?_
        exact hout _ (Option.some.inj hf).symm
      · refine v_iload_n hG 3 rfl rfl dX9_same_124 ?_
        refine v_if_eq hG 170 dX9_same_125 rfl hf (fun hf => ?_) (fun hf => ?_)
        · refine v_sub [(0, _), (1, _), (2, _), (4, _)] [0, 1, 2, 4] rfl ?_
          exact j170 s115.2 hf
        · refine v_aload_n hG 0 rfl rfl dX9_same_128 ?_
          refine m_g_0_17 hG wk_1083 dX9_same_129 ?_
          refine v_iload hG 4 rfl dX9_same_132 ?_
          refine m_l_14 hG dX9_same_134 hf (fun hf => ?_)
          refine v_if_ne hG 166 dX9_same_135 rfl hf (fun hf => ?_) (fun hf => ?_)
          · refine v_sub [(0, _), (1, _), (2, _), (4, _)] [0, 1, 2, 4] rfl ?_
            exact j166 s115.2 hf
          · refine v_aload_n hG 0 rfl rfl dX9_same_138 ?_
            refine m_g_0_20 hG wk_1086 dX9_same_139 ?_
            refine v_bipush hG (v := 12) (by decide) dX9_same_142 ?_
            refine v_iload hG 4 rfl dX9_same_144 ?_
            refine v_imul hG dX9_same_146 ?_
            refine v_iload_n hG 1 rfl rfl dX9_same_147 ?_
            refine v_iadd hG dX9_same_148 ?_
            refine m_l_17 hG dX9_same_149 hf (fun hf => ?_)
            refine v_aload_n hG 0 rfl rfl dX9_same_150 ?_
            refine m_g_0_20 hG wk_1086 dX9_same_151 ?_
            refine v_bipush hG (v := 12) (by decide) dX9_same_154 ?_
            refine v_iload hG 4 rfl dX9_same_156 ?_
            refine v_imul hG dX9_same_158 ?_
            refine v_iload_n hG 2 rfl rfl dX9_same_159 ?_
            refine v_iadd hG dX9_same_160 ?_
            refine m_l_17 hG dX9_same_161 hf (fun hf => ?_)
            refine v_lcmp_ne hG 170 dX9_same_162 dX9_same_163 rfl hf (fun hf => ?_) (fun hf => ?_)
            · refine v_sub [(0, _), (1, _), (2, _), (4, _)] [0, 1, 2, 4] rfl ?_
              exact j170 s115.2 hf
            · refine v_sub [(0, _), (1, _), (2, _), (4, _)] [0, 1, 2, 4] rfl ?_
              exact j166 s115.2 hf
    · show V p l e (k2_rm 2 46) s m args below meth c (inW (mcells g ad w)) (EN below args s g (mcells g ad w) (mcells g ad rr.2) (some (.int rr.1))) g 5 (mcells g ad j111_0) 0 0 178 [(3, .int z115)] []
      refine v_iload_n hG 0 rfl rfl dX9_same_178 ?_
      obtain ⟨hb, hf⟩ := gd_some hf
      cases hf
      exact v_zret hG hr (isB_nar hb) dX9_same_179
  have j110 : ∀ (j110_0 : MW), X9_same_J110 a0 a1 j110_0 = some rr → V p l e (k2_rm 2 46) s m args below meth c (inW (mcells g ad w)) (EN below args s g (mcells g ad w) (mcells g ad rr.2) (some (.int rr.1))) g 5 (mcells g ad j110_0) 0 0 110 [(0, .ref (ad 0)), (1, .int a0), (2, .int a1)] [] := by
    intro j110_0 hf
    unfold X9_same_J110 at hf
    refine v_iconst hG (v := 0) (by decide) dX9_same_110 ?_
    exact j111 j110_0 0 hf
  have j34 : ∀ (j34_0 : MW) (j34_1 : Int32) (j34_2 : Int32), X9_same_J34 a0 a1 j34_0 j34_1 j34_2 = some rr → V p l e (k2_rm 2 46) s m args below meth c (inW (mcells g ad w)) (EN below args s g (mcells g ad w) (mcells g ad rr.2) (some (.int rr.1))) g 5 (mcells g ad j34_0) 0 0 34 [(0, .ref (ad 0)), (1, .int a0), (2, .int a1)] [.int j34_2, .int j34_1, .ref (ad 0)] := by
    intro j34_0 j34_1 j34_2 hf
    unfold X9_same_J34 at hf
    obtain ⟨r34, hr34, hf⟩ := bd_some hf
    refine v_callV hG (st := []) 0 9 (ct_X9_passes l g ad j34_0 j34_1 j34_2 r34 hr34) iw_X9_passes wk_1212 rfl rfl ⟨rfl, rfl, Nat.le_of_ble_eq_true rfl, Nat.le_of_ble_eq_true rfl⟩ ⟨Nat.le_of_ble_eq_true rfl, Nat.le_of_ble_eq_true rfl⟩ rfl rfl (Nat.le_of_ble_eq_true rfl) (mcells_fst _ _ _ _) dX9_same_34 ?_
    refine (show V p l e (k2_rm 2 46) s m args below meth c (inW (mcells g ad w)) (EN below args s g (mcells g ad w) (mcells g ad rr.2) (some (.int rr.1))) g 5 (mcells g ad r34.2) 0 0 37 [(0, .ref (ad 0)), (1, .int a0), (2, .int a1)] [.int r34.1] from ?_)
    refine v_if_ne hG 42 dX9_same_37 rfl hf (fun hf => ?_) (fun hf => ?_)
    · refine v_aload_n hG 0 rfl rfl dX9_same_42 ?_
      refine m_g_0_10 hG wk_1076 dX9_same_43 ?_
      refine v_iload_n hG 1 rfl rfl dX9_same_46 ?_
      refine m_l_7 hG dX9_same_47 hf (fun hf => ?_)
      refine v_if_ne hG 110 dX9_same_48 rfl hf (fun hf => ?_) (fun hf => ?_)
      · exact j110 r34.2 hf
      · refine v_aload_n hG 0 rfl rfl dX9_same_51 ?_
        refine m_g_0_10 hG wk_1076 dX9_same_52 ?_
        refine v_iload_n hG 2 rfl rfl dX9_same_55 ?_
        refine m_l_7 hG dX9_same_56 hf (fun hf => ?_)
        refine v_if_ne hG 110 dX9_same_57 rfl hf (fun hf => ?_) (fun hf => ?_)
        · exact j110 r34.2 hf
        · refine v_aload_n hG 0 rfl rfl dX9_same_60 ?_
          refine m_g_0_11 hG wk_1077 dX9_same_61 ?_
          refine v_iload_n hG 1 rfl rfl dX9_same_64 ?_
          refine m_l_8 hG dX9_same_65 hf (fun hf => ?_)
          refine v_aload_n hG 0 rfl rfl dX9_same_66 ?_
          refine m_g_0_11 hG wk_1077 dX9_same_67 ?_
          refine v_iload_n hG 2 rfl rfl dX9_same_70 ?_
          refine m_l_8 hG dX9_same_71 hf (fun hf => ?_)
          refine v_icmp_ne hG 110 dX9_same_72 rfl hf (fun hf => ?_) (fun hf => ?_)
          · exact j110 r34.2 hf
          · refine v_aload_n hG 0 rfl rfl dX9_same_75 ?_
            refine m_g_0_12 hG wk_1078 dX9_same_76 ?_
            refine v_iload_n hG 1 rfl rfl dX9_same_79 ?_
            refine m_l_9 hG dX9_same_80 hf (fun hf => ?_)
            refine v_aload_n hG 0 rfl rfl dX9_same_81 ?_
            refine m_g_0_12 hG wk_1078 dX9_same_82 ?_
            refine v_iload_n hG 2 rfl rfl dX9_same_85 ?_
            refine m_l_9 hG dX9_same_86 hf (fun hf => ?_)
            refine v_icmp_ne hG 110 dX9_same_87 rfl hf (fun hf => ?_) (fun hf => ?_)
            · exact j110 r34.2 hf
            · refine v_aload_n hG 0 rfl rfl dX9_same_90 ?_
              refine m_g_0_15 hG wk_1081 dX9_same_91 ?_
              refine v_iload_n hG 1 rfl rfl dX9_same_94 ?_
              refine m_l_12 hG dX9_same_95 hf (fun hf => ?_)
              refine v_aload_n hG 0 rfl rfl dX9_same_96 ?_
              refine m_g_0_15 hG wk_1081 dX9_same_97 ?_
              refine v_iload_n hG 2 rfl rfl dX9_same_100 ?_
              refine m_l_12 hG dX9_same_101 hf (fun hf => ?_)
              refine v_lcmp_ne hG 110 dX9_same_102 dX9_same_103 rfl hf (fun hf => ?_) (fun hf => ?_)
              · exact j110 r34.2 hf
              · refine v_iconst hG (v := 1) (by decide) dX9_same_106 ?_
                refine v_goto hG 111 dX9_same_107 rfl ?_
                exact j111 r34.2 1 hf
    · refine v_iconst hG (v := 0) (by decide) dX9_same_40 ?_
      cases hf
      exact v_zret (x := 0) hG hr rfl dX9_same_41
  have j29 : ∀ (j29_0 : MW) (j29_1 : Int32), X9_same_J29 a0 a1 j29_0 j29_1 = some rr → V p l e (k2_rm 2 46) s m args below meth c (inW (mcells g ad w)) (EN below args s g (mcells g ad w) (mcells g ad rr.2) (some (.int rr.1))) g 5 (mcells g ad j29_0) 0 0 29 [(0, .ref (ad 0)), (1, .int a0), (2, .int a1)] [.int j29_1, .ref (ad 0)] := by
    intro j29_0 j29_1 hf
    unfold X9_same_J29 at hf
    refine v_iconst hG (v := 1) (by decide) dX9_same_29 ?_
    refine v_goto hG 34 dX9_same_30 rfl ?_
    exact j34 j29_0 j29_1 1 hf
  have j13 : ∀ (j13_0 : MW) (j13_1 : Int32), X9_same_J13 a0 a1 j13_0 j13_1 = some rr → V p l e (k2_rm 2 46) s m args below meth c (inW (mcells g ad w)) (EN below args s g (mcells g ad w) (mcells g ad rr.2) (some (.int rr.1))) g 5 (mcells g ad j13_0) 0 0 13 [(0, .ref (ad 0)), (1, .int a0), (2, .int a1)] [.int j13_1, .ref (ad 0)] := by
    intro j13_0 j13_1 hf
    unfold X9_same_J13 at hf
    refine v_aload_n hG 0 rfl rfl dX9_same_13 ?_
    refine v_iload_n hG 1 rfl rfl dX9_same_14 ?_
    obtain ⟨r15, hr15, hf⟩ := bd_some hf
    refine v_callV hG (st := [.int j13_1, .ref (ad 0)]) 0 9 (ct_X9_isColumn l g ad j13_0 a0 r15 hr15) iw_X9_isColumn wk_1238 rfl rfl ⟨rfl, rfl, Nat.le_of_ble_eq_true rfl, Nat.le_of_ble_eq_true rfl⟩ ⟨Nat.le_of_ble_eq_true rfl, Nat.le_of_ble_eq_true rfl⟩ rfl rfl (Nat.le_of_ble_eq_true rfl) (mcells_fst _ _ _ _) dX9_same_15 ?_
    refine (show V p l e (k2_rm 2 46) s m args below meth c (inW (mcells g ad w)) (EN below args s g (mcells g ad w) (mcells g ad rr.2) (some (.int rr.1))) g 5 (mcells g ad j13_0) 0 0 18 [(0, .ref (ad 0)), (1, .int a0), (2, .int a1)] [.int r15, .int j13_1, .ref (ad 0)] from ?_)
    refine v_if_eq hG 29 dX9_same_18 rfl hf (fun hf => ?_) (fun hf => ?_)
    · exact j29 j13_0 j13_1 hf
    · refine v_aload_n hG 0 rfl rfl dX9_same_21 ?_
      refine v_iload_n hG 2 rfl rfl dX9_same_22 ?_
      obtain ⟨r23, hr23, hf⟩ := bd_some hf
      refine v_callV hG (st := [.int j13_1, .ref (ad 0)]) 0 9 (ct_X9_isColumn l g ad j13_0 a1 r23 hr23) iw_X9_isColumn wk_1238 rfl rfl ⟨rfl, rfl, Nat.le_of_ble_eq_true rfl, Nat.le_of_ble_eq_true rfl⟩ ⟨Nat.le_of_ble_eq_true rfl, Nat.le_of_ble_eq_true rfl⟩ rfl rfl (Nat.le_of_ble_eq_true rfl) (mcells_fst _ _ _ _) dX9_same_23 ?_
      refine (show V p l e (k2_rm 2 46) s m args below meth c (inW (mcells g ad w)) (EN below args s g (mcells g ad w) (mcells g ad rr.2) (some (.int rr.1))) g 5 (mcells g ad j13_0) 0 0 26 [(0, .ref (ad 0)), (1, .int a0), (2, .int a1)] [.int r23, .int j13_1, .ref (ad 0)] from ?_)
      refine v_if_ne hG 33 dX9_same_26 rfl hf (fun hf => ?_) (fun hf => ?_)
      · refine v_iconst hG (v := 0) (by decide) dX9_same_33 ?_
        exact j34 j13_0 j13_1 0 hf
      · exact j29 j13_0 j13_1 hf
  refine v_aload_n hG 0 rfl rfl dX9_same_0 ?_
  refine v_aload_n hG 0 rfl rfl dX9_same_1 ?_
  refine m_g_0_9 hG wk_1075 dX9_same_2 ?_
  refine v_if_ne hG 12 dX9_same_5 rfl hf (fun hf => ?_) (fun hf => ?_)
  · refine v_iconst hG (v := 0) (by decide) dX9_same_12 ?_
    exact j13 w 0 hf
  · refine v_iconst hG (v := 1) (by decide) dX9_same_8 ?_
    refine v_goto hG 13 dX9_same_9 rfl ?_
    exact j13 w 1 hf
def X9_put_J92 (a0 : Int32) (a1 : Int32) (j92_0 : MW) (j92_1 : Int32) (j92_2 : Int32) (j92_3 : Int32) : Option (MW) := ((X9_passes3 j92_0 j92_1 j92_2 j92_3).bind (fun r92 : Int32 × MW => (if r92.1 = 0 then (some r92.2) else (if inR a0 12 = true then (bnd (sM_number r92.2 (upd (gM_number r92.2) a0.toNatClampNeg a1)) (fun w104 : MW => (if inR a0 12 = true then (bnd (sM_isPut w104 (upd (gM_isPut w104) a0.toNatClampNeg (vp_nar .boolean 1))) (fun w111 : MW => (some w111))) else none))) else none))))
def X9_put_J91 (a0 : Int32) (a1 : Int32) (j91_0 : MW) (j91_1 : Int32) (j91_2 : Int32) : Option (MW) := (X9_put_J92 a0 a1 j91_0 j91_1 j91_2 0)
def X9_put_J87 (a0 : Int32) (a1 : Int32) (j87_0 : MW) (j87_1 : Int32) (j87_2 : Int32) : Option (MW) := (X9_put_J92 a0 a1 j87_0 j87_1 j87_2 1)
def X9_put_J44 (a0 : Int32) (a1 : Int32) (j44_0 : MW) (j44_1 : Int32) (j44_2 : Int32) (j44_3 : Int32) : Option (MW) := (if j44_1 = 0 then (X9_put_J91 a0 a1 j44_0 j44_2 j44_3) else ((X9_isColumn j44_0 a0).bind (fun r50 : Int32 => (if r50 = 0 then (X9_put_J91 a0 a1 j44_0 j44_2 j44_3) else (if inR a0 12 = true then (if ((gM_state j44_0) a0.toNatClampNeg) = 0 then (if inR a0 12 = true then (if inR a0 12 = true then ((X9_within a1.toInt64 (((gM_low j44_0) a0.toNatClampNeg).toInt64) (((gM_high j44_0) a0.toNatClampNeg).toInt64)).bind (fun r81 : Int32 => (if r81 = 0 then (X9_put_J87 a0 a1 j44_0 j44_2 j44_3) else (X9_put_J91 a0 a1 j44_0 j44_2 j44_3)))) else none) else none) else (X9_put_J87 a0 a1 j44_0 j44_2 j44_3)) else none)))))
def X9_put_J31 (a0 : Int32) (a1 : Int32) (j31_0 : MW) (j31_1 : Int32) (j31_2 : Int32) : Option (MW) := ((X9_isColumn j31_0 a0).bind (fun r33 : Int32 => (if r33 = 0 then (X9_put_J44 a0 a1 j31_0 j31_1 j31_2 1) else (X9_put_J44 a0 a1 j31_0 j31_1 j31_2 0))))
def X9_put_J20 (a0 : Int32) (a1 : Int32) (j20_0 : MW) (j20_1 : Int32) : Option (MW) := (if j20_1 = 0 then (X9_put_J31 a0 a1 j20_0 j20_1 1) else (X9_put_J31 a0 a1 j20_0 j20_1 0))
def X9_put_J19 (a0 : Int32) (a1 : Int32) (j19_0 : MW) : Option (MW) := (X9_put_J20 a0 a1 j19_0 0)
def X9_put (w : MW) (a0 : Int32) (a1 : Int32) : Option (MW) := (if (gM_isSmall w) = 0 then (X9_put_J19 a0 a1 w) else (if (gM_certificate w) = (-1) then (X9_put_J20 a0 a1 w 1) else (X9_put_J19 a0 a1 w)))
set_option maxRecDepth 100000 in
set_option maxHeartbeats 4000000 in
theorem ct_X9_put (l : Launch) (g : wG) (ad : Nat → Nat) (w : MW) (a0 : Int32) (a1 : Int32) (rr : MW) (hf : X9_put w a0 a1 = some rr) : MetN l g yX9_put cX9_put 4 none (k2_rm 2 46) [.ref (ad 0), .int a0, .int a1] (mcells g ad w) (mcells g ad rr) none := by
  refine MetN.of2 [(0, .ref (ad 0)), (1, .int a0), (2, .int a1)] rfl (by decide +kernel) (Nat.le_of_ble_eq_true rfl) ?_
  intro p e s m args below meth c hG hr
  unfold X9_put at hf
  have j92 : ∀ (j92_0 : MW) (j92_1 : Int32) (j92_2 : Int32) (j92_3 : Int32), X9_put_J92 a0 a1 j92_0 j92_1 j92_2 j92_3 = some rr → V p l e (k2_rm 2 46) s m args below meth c (inW (mcells g ad w)) (EN below args s g (mcells g ad w) (mcells g ad rr) none) g 4 (mcells g ad j92_0) 0 0 92 [(0, .ref (ad 0)), (1, .int a0), (2, .int a1)] [.int j92_3, .int j92_2, .int j92_1, .ref (ad 0)] := by
    intro j92_0 j92_1 j92_2 j92_3 hf
    unfold X9_put_J92 at hf
    obtain ⟨r92, hr92, hf⟩ := bd_some hf
    refine v_callV hG (st := []) 0 9 (ct_X9_passes3 l g ad j92_0 j92_1 j92_2 j92_3 r92 hr92) iw_X9_passes3 wk_1429 rfl rfl ⟨rfl, rfl, Nat.le_of_ble_eq_true rfl, Nat.le_of_ble_eq_true rfl⟩ ⟨Nat.le_of_ble_eq_true rfl, Nat.le_of_ble_eq_true rfl⟩ rfl rfl (Nat.le_of_ble_eq_true rfl) (mcells_fst _ _ _ _) dX9_put_92 ?_
    refine (show V p l e (k2_rm 2 46) s m args below meth c (inW (mcells g ad w)) (EN below args s g (mcells g ad w) (mcells g ad rr) none) g 4 (mcells g ad r92.2) 0 0 95 [(0, .ref (ad 0)), (1, .int a0), (2, .int a1)] [.int r92.1] from ?_)
    refine v_if_eq hG 112 dX9_put_95 rfl hf (fun hf => ?_) (fun hf => ?_)
    · cases hf
      exact v_vret hG hr dX9_put_112
    · refine v_aload_n hG 0 rfl rfl dX9_put_98 ?_
      refine m_g_0_34 hG wk_1100 dX9_put_99 ?_
      refine v_iload_n hG 1 rfl rfl dX9_put_102 ?_
      refine v_iload_n hG 2 rfl rfl dX9_put_103 ?_
      refine m_s_27 hG dX9_put_104 hf (fun w104 hf => ?_)
      refine v_aload_n hG 0 rfl rfl dX9_put_105 ?_
      refine m_g_0_33 hG wk_1099 dX9_put_106 ?_
      refine v_iload_n hG 1 rfl rfl dX9_put_109 ?_
      refine v_iconst hG (v := 1) (by decide) dX9_put_110 ?_
      refine m_s_26 hG dX9_put_111 hf (fun w111 hf => ?_)
      cases hf
      exact v_vret hG hr dX9_put_112
  have j91 : ∀ (j91_0 : MW) (j91_1 : Int32) (j91_2 : Int32), X9_put_J91 a0 a1 j91_0 j91_1 j91_2 = some rr → V p l e (k2_rm 2 46) s m args below meth c (inW (mcells g ad w)) (EN below args s g (mcells g ad w) (mcells g ad rr) none) g 4 (mcells g ad j91_0) 0 0 91 [(0, .ref (ad 0)), (1, .int a0), (2, .int a1)] [.int j91_2, .int j91_1, .ref (ad 0)] := by
    intro j91_0 j91_1 j91_2 hf
    unfold X9_put_J91 at hf
    refine v_iconst hG (v := 0) (by decide) dX9_put_91 ?_
    exact j92 j91_0 j91_1 j91_2 0 hf
  have j87 : ∀ (j87_0 : MW) (j87_1 : Int32) (j87_2 : Int32), X9_put_J87 a0 a1 j87_0 j87_1 j87_2 = some rr → V p l e (k2_rm 2 46) s m args below meth c (inW (mcells g ad w)) (EN below args s g (mcells g ad w) (mcells g ad rr) none) g 4 (mcells g ad j87_0) 0 0 87 [(0, .ref (ad 0)), (1, .int a0), (2, .int a1)] [.int j87_2, .int j87_1, .ref (ad 0)] := by
    intro j87_0 j87_1 j87_2 hf
    unfold X9_put_J87 at hf
    refine v_iconst hG (v := 1) (by decide) dX9_put_87 ?_
    refine v_goto hG 92 dX9_put_88 rfl ?_
    exact j92 j87_0 j87_1 j87_2 1 hf
  have j44 : ∀ (j44_0 : MW) (j44_1 : Int32) (j44_2 : Int32) (j44_3 : Int32), X9_put_J44 a0 a1 j44_0 j44_1 j44_2 j44_3 = some rr → V p l e (k2_rm 2 46) s m args below meth c (inW (mcells g ad w)) (EN below args s g (mcells g ad w) (mcells g ad rr) none) g 4 (mcells g ad j44_0) 0 0 44 [(0, .ref (ad 0)), (1, .int a0), (2, .int a1), (3, .int j44_1)] [.int j44_3, .int j44_2, .ref (ad 0)] := by
    intro j44_0 j44_1 j44_2 j44_3 hf
    unfold X9_put_J44 at hf
    refine v_iload_n hG 3 rfl rfl dX9_put_44 ?_
    refine v_if_eq hG 91 dX9_put_45 rfl hf (fun hf => ?_) (fun hf => ?_)
    · refine v_sub [(0, _), (1, _), (2, _)] [0, 1, 2] rfl ?_
      exact j91 j44_0 j44_2 j44_3 hf
    · refine v_aload_n hG 0 rfl rfl dX9_put_48 ?_
      refine v_iload_n hG 1 rfl rfl dX9_put_49 ?_
      obtain ⟨r50, hr50, hf⟩ := bd_some hf
      refine v_callV hG (st := [.int j44_3, .int j44_2, .ref (ad 0)]) 0 9 (ct_X9_isColumn l g ad j44_0 a0 r50 hr50) iw_X9_isColumn wk_1238 rfl rfl ⟨rfl, rfl, Nat.le_of_ble_eq_true rfl, Nat.le_of_ble_eq_true rfl⟩ ⟨Nat.le_of_ble_eq_true rfl, Nat.le_of_ble_eq_true rfl⟩ rfl rfl (Nat.le_of_ble_eq_true rfl) (mcells_fst _ _ _ _) dX9_put_50 ?_
      refine (show V p l e (k2_rm 2 46) s m args below meth c (inW (mcells g ad w)) (EN below args s g (mcells g ad w) (mcells g ad rr) none) g 4 (mcells g ad j44_0) 0 0 53 [(0, .ref (ad 0)), (1, .int a0), (2, .int a1), (3, .int j44_1)] [.int r50, .int j44_3, .int j44_2, .ref (ad 0)] from ?_)
      refine v_if_eq hG 91 dX9_put_53 rfl hf (fun hf => ?_) (fun hf => ?_)
      · refine v_sub [(0, _), (1, _), (2, _)] [0, 1, 2] rfl ?_
        exact j91 j44_0 j44_2 j44_3 hf
      · refine v_aload_n hG 0 rfl rfl dX9_put_56 ?_
        refine m_g_0_10 hG wk_1076 dX9_put_57 ?_
        refine v_iload_n hG 1 rfl rfl dX9_put_60 ?_
        refine m_l_7 hG dX9_put_61 hf (fun hf => ?_)
        refine v_if_ne hG 87 dX9_put_62 rfl hf (fun hf => ?_) (fun hf => ?_)
        · refine v_sub [(0, _), (1, _), (2, _)] [0, 1, 2] rfl ?_
          exact j87 j44_0 j44_2 j44_3 hf
        · refine v_iload_n hG 2 rfl rfl dX9_put_65 ?_
          refine v_i2l hG dX9_put_66 ?_
          refine v_aload_n hG 0 rfl rfl dX9_put_67 ?_
          refine m_g_0_11 hG wk_1077 dX9_put_68 ?_
          refine v_iload_n hG 1 rfl rfl dX9_put_71 ?_
          refine m_l_8 hG dX9_put_72 hf (fun hf => ?_)
          refine v_i2l hG dX9_put_73 ?_
          refine v_aload_n hG 0 rfl rfl dX9_put_74 ?_
          refine m_g_0_12 hG wk_1078 dX9_put_75 ?_
          refine v_iload_n hG 1 rfl rfl dX9_put_78 ?_
          refine m_l_9 hG dX9_put_79 hf (fun hf => ?_)
          refine v_i2l hG dX9_put_80 ?_
          obtain ⟨r81, hr81, hf⟩ := bd_some hf
          refine v_callP hG (st := [.int j44_3, .int j44_2, .ref (ad 0)]) (ct_X9_within l g a1.toInt64 (((gM_low j44_0) a0.toNatClampNeg).toInt64) (((gM_high j44_0) a0.toNatClampNeg).toInt64) r81 hr81) sw_X9_within wk_1207 ⟨rfl, rfl, Nat.le_of_ble_eq_true rfl, Nat.le_of_ble_eq_true rfl⟩ ⟨Nat.le_of_ble_eq_true rfl, Nat.le_of_ble_eq_true rfl⟩ rfl rfl (Nat.le_of_ble_eq_true rfl) dX9_put_81 ?_
          refine (show V p l e (k2_rm 2 46) s m args below meth c (inW (mcells g ad w)) (EN below args s g (mcells g ad w) (mcells g ad rr) none) g 4 (mcells g ad j44_0) 0 0 84 [(0, .ref (ad 0)), (1, .int a0), (2, .int a1), (3, .int j44_1)] [.int r81, .int j44_3, .int j44_2, .ref (ad 0)] from ?_)
          refine v_if_ne hG 91 dX9_put_84 rfl hf (fun hf => ?_) (fun hf => ?_)
          · refine v_sub [(0, _), (1, _), (2, _)] [0, 1, 2] rfl ?_
            exact j91 j44_0 j44_2 j44_3 hf
          · refine v_sub [(0, _), (1, _), (2, _)] [0, 1, 2] rfl ?_
            exact j87 j44_0 j44_2 j44_3 hf
  have j31 : ∀ (j31_0 : MW) (j31_1 : Int32) (j31_2 : Int32), X9_put_J31 a0 a1 j31_0 j31_1 j31_2 = some rr → V p l e (k2_rm 2 46) s m args below meth c (inW (mcells g ad w)) (EN below args s g (mcells g ad w) (mcells g ad rr) none) g 4 (mcells g ad j31_0) 0 0 31 [(0, .ref (ad 0)), (1, .int a0), (2, .int a1), (3, .int j31_1)] [.int j31_2, .ref (ad 0)] := by
    intro j31_0 j31_1 j31_2 hf
    unfold X9_put_J31 at hf
    refine v_aload_n hG 0 rfl rfl dX9_put_31 ?_
    refine v_iload_n hG 1 rfl rfl dX9_put_32 ?_
    obtain ⟨r33, hr33, hf⟩ := bd_some hf
    refine v_callV hG (st := [.int j31_2, .ref (ad 0)]) 0 9 (ct_X9_isColumn l g ad j31_0 a0 r33 hr33) iw_X9_isColumn wk_1238 rfl rfl ⟨rfl, rfl, Nat.le_of_ble_eq_true rfl, Nat.le_of_ble_eq_true rfl⟩ ⟨Nat.le_of_ble_eq_true rfl, Nat.le_of_ble_eq_true rfl⟩ rfl rfl (Nat.le_of_ble_eq_true rfl) (mcells_fst _ _ _ _) dX9_put_33 ?_
    refine (show V p l e (k2_rm 2 46) s m args below meth c (inW (mcells g ad w)) (EN below args s g (mcells g ad w) (mcells g ad rr) none) g 4 (mcells g ad j31_0) 0 0 36 [(0, .ref (ad 0)), (1, .int a0), (2, .int a1), (3, .int j31_1)] [.int r33, .int j31_2, .ref (ad 0)] from ?_)
    refine v_if_ne hG 43 dX9_put_36 rfl hf (fun hf => ?_) (fun hf => ?_)
    · refine v_iconst hG (v := 0) (by decide) dX9_put_43 ?_
      exact j44 j31_0 j31_1 j31_2 0 hf
    · refine v_iconst hG (v := 1) (by decide) dX9_put_39 ?_
      refine v_goto hG 44 dX9_put_40 rfl ?_
      exact j44 j31_0 j31_1 j31_2 1 hf
  have j20 : ∀ (j20_0 : MW) (j20_1 : Int32), X9_put_J20 a0 a1 j20_0 j20_1 = some rr → V p l e (k2_rm 2 46) s m args below meth c (inW (mcells g ad w)) (EN below args s g (mcells g ad w) (mcells g ad rr) none) g 4 (mcells g ad j20_0) 0 0 20 [(0, .ref (ad 0)), (1, .int a0), (2, .int a1)] [.int j20_1] := by
    intro j20_0 j20_1 hf
    unfold X9_put_J20 at hf
    refine v_istore_n hG [(3, _), (0, _), (1, _), (2, _)] dX9_put_20 rfl (by decide) rfl ?_
    refine v_aload_n hG 1 rfl rfl dX9_put_21 ?_
    refine v_iload_n hG 0 rfl rfl dX9_put_22 ?_
    refine v_if_ne hG 30 dX9_put_23 rfl hf (fun hf => ?_) (fun hf => ?_)
    · refine v_iconst hG (v := 0) (by decide) dX9_put_30 ?_
      refine v_sub [(0, _), (1, _), (2, _), (3, _)] [1, 2, 3, 0] rfl ?_
      exact j31 j20_0 j20_1 0 hf
    · refine v_iconst hG (v := 1) (by decide) dX9_put_26 ?_
      refine v_goto hG 31 dX9_put_27 rfl ?_
      refine v_sub [(0, _), (1, _), (2, _), (3, _)] [1, 2, 3, 0] rfl ?_
      exact j31 j20_0 j20_1 1 hf
  have j19 : ∀ (j19_0 : MW), X9_put_J19 a0 a1 j19_0 = some rr → V p l e (k2_rm 2 46) s m args below meth c (inW (mcells g ad w)) (EN below args s g (mcells g ad w) (mcells g ad rr) none) g 4 (mcells g ad j19_0) 0 0 19 [(0, .ref (ad 0)), (1, .int a0), (2, .int a1)] [] := by
    intro j19_0 hf
    unfold X9_put_J19 at hf
    refine v_iconst hG (v := 0) (by decide) dX9_put_19 ?_
    exact j20 j19_0 0 hf
  refine v_aload_n hG 0 rfl rfl dX9_put_0 ?_
  refine m_g_0_9 hG wk_1075 dX9_put_1 ?_
  refine v_if_eq hG 19 dX9_put_4 rfl hf (fun hf => ?_) (fun hf => ?_)
  · exact j19 w hf
  · refine v_aload_n hG 0 rfl rfl dX9_put_7 ?_
    refine m_g_0_22 hG wk_1088 dX9_put_8 ?_
    refine v_iconst hG (v := -1) (by decide) dX9_put_11 ?_
    refine v_icmp_ne hG 19 dX9_put_12 rfl hf (fun hf => ?_) (fun hf => ?_)
    · exact j19 w hf
    · refine v_iconst hG (v := 1) (by decide) dX9_put_15 ?_
      refine v_goto hG 20 dX9_put_16 rfl ?_
      exact j20 w 1 hf
def X9_back_J58  (j58_0 : Int32) (j58_1 : Int32) : Option ((Int32 × Int32) ⊕ ((Int32))) := (some (.inl (j58_1, (j58_0 + 1))))
def X9_back_J57  (j57_0 : Int32) : Option ((Int32 × Int32) ⊕ ((Int32))) := (X9_back_J58 j57_0 0)
def X9_back_J53  (j53_0 : Int32) : Option ((Int32 × Int32) ⊕ ((Int32))) := (X9_back_J58 j53_0 1)
def X9_back_L23 (j20_0 : MW) (s23 : Int32 × Int32) : Option ((Int32 × Int32) ⊕ ((Int32))) := (if (gM_columns j20_0) ≤ s23.2 then (some (.inr s23.1)) else (if s23.1 = 0 then (X9_back_J57 s23.2) else (if inR s23.2 12 = true then (if ((gM_state j20_0) s23.2.toNatClampNeg) = 0 then (if inR s23.2 12 = true then (if ((gM_isPut j20_0) s23.2.toNatClampNeg) = 0 then (X9_back_J57 s23.2) else (X9_back_J53 s23.2)) else none) else (X9_back_J53 s23.2)) else none)))
def X9_back_J123  (j123_0 : MW) (j123_1 : Int32) (j123_2 : Int32) (j123_3 : Int32) : Option ((MW × Int32) ⊕ ((MW))) := (if inR j123_2 12 = true then (bnd (sM_point j123_0 (upd (gM_point j123_0) j123_2.toNatClampNeg j123_3)) (fun w123 : MW => (some (.inl (w123, (j123_1 + 1)))))) else none)
def X9_back_L86  (s86 : MW × Int32) : Option ((MW × Int32) ⊕ ((MW))) := (if (gM_columns s86.1) ≤ s86.2 then (some (.inr s86.1)) else (if inR s86.2 12 = true then (if ((gM_state s86.1) s86.2.toNatClampNeg) = 0 then (if inR s86.2 12 = true then (X9_back_J123 s86.1 s86.2 s86.2 ((gM_number s86.1) s86.2.toNatClampNeg)) else none) else (if inR s86.2 12 = true then (X9_back_J123 s86.1 s86.2 s86.2 ((gM_low s86.1) s86.2.toNatClampNeg)) else none)) else none))
def X9_back_L159 (s137 : MW × Int32) (s159 : Int64 × Int32) : Option ((Int64 × Int32) ⊕ ((Int64))) := (if (gM_columns s137.1) ≤ s159.2 then (some (.inr s159.1)) else (if inR ((12 * ((gM_putIn s137.1) s137.2.toNatClampNeg)) + s159.2) 144 = true then (if inR s159.2 12 = true then (some (.inl ((s159.1 + (((gM_often s137.1) ((12 * ((gM_putIn s137.1) s137.2.toNatClampNeg)) + s159.2).toNatClampNeg) * (((gM_point s137.1) s159.2.toNatClampNeg).toInt64))), (s159.2 + 1)))) else none) else none))
def X9_back_L137  (s137 : MW × Int32) : Option ((MW × Int32) ⊕ ((MW))) := (if s137.2 < 0 then (some (.inr s137.1)) else (if inR s137.2 12 = true then (if inR ((gM_putIn s137.1) s137.2.toNatClampNeg) 12 = true then ((iter (X9_back_L159 s137) 5000 (((gM_base s137.1) ((gM_putIn s137.1) s137.2.toNatClampNeg).toNatClampNeg), 0)).bind (fun z159 : (Int64) => (if inR ((gM_putIn s137.1) s137.2.toNatClampNeg) 12 = true then (bnd (sM_point s137.1 (upd (gM_point s137.1) ((gM_putIn s137.1) s137.2.toNatClampNeg).toNatClampNeg z159.toInt32)) (fun w208 : MW => (some (.inl (w208, (s137.2 + (-1))))))) else none))) else none) else none))
def X9_back_J271  (j271_0 : MW) (j271_1 : Int32) (j271_2 : Int32) : Option ((MW × Int32 × Int32) ⊕ ((MW × Int32))) := (some (.inl (j271_0, j271_2, (j271_1 + 1))))
def X9_back_L219  (s219 : MW × Int32 × Int32) : Option ((MW × Int32 × Int32) ⊕ ((MW × Int32))) := (if (gM_columns s219.1) ≤ s219.2.2 then (some (.inr (s219.1, s219.2.1))) else (if inR s219.2.2 12 = true then (if inR s219.2.2 12 = true then (bnd (sM_turned s219.1 (upd (gM_turned s219.1) s219.2.2.toNatClampNeg ((gM_point s219.1) s219.2.2.toNatClampNeg))) (fun w238 : MW => (if inR s219.2.2 12 = true then (if inR s219.2.2 12 = true then (if inR s219.2.2 12 = true then ((X9_within (((gM_point w238) s219.2.2.toNatClampNeg).toInt64) (((gM_lows w238) s219.2.2.toNatClampNeg).toInt64) (((gM_highs w238) s219.2.2.toNatClampNeg).toInt64)).bind (fun r260 : Int32 => (if r260 = 0 then (X9_back_J271 w238 s219.2.2 0) else (X9_back_J271 w238 s219.2.2 s219.2.1)))) else none) else none) else none))) else none) else none))
def X9_back_J301  (j301_0 : Int32) (j301_1 : Int32) : Option ((Int32 × Int32) ⊕ ((Int32))) := (some (.inl (j301_1, (j301_0 + 1))))
def X9_back_L280 (z219 : (MW × Int32)) (s280 : Int32 × Int32) : Option ((Int32 × Int32) ⊕ ((Int32))) := (if (gM_rows z219.1) ≤ s280.2 then (some (.inr s280.1)) else ((X9_holds z219.1 s280.2).bind (fun r290 : Int32 => (if r290 = 0 then (X9_back_J301 s280.2 0) else (X9_back_J301 s280.2 s280.1)))))
def X9_back_J75  (j75_0 : MW) (j75_1 : Int32) : Option (Int32 × MW) := ((X9_passes j75_0 j75_1 0).bind (fun r76 : Int32 × MW => (if r76.1 = 0 then (some (0, r76.2)) else ((iter (X9_back_L86) 5000 (r76.2, 0)).bind (fun z86 : (MW) => ((iter (X9_back_L137) 5000 (z86, ((gM_putIns z86) - 1))).bind (fun z137 : (MW) => ((iter (X9_back_L219) 5000 (z137, 1, 0)).bind (fun z219 : (MW × Int32) => ((iter (X9_back_L280 z219) 5000 (z219.2, 0)).bind (fun z280 : (Int32) => (bnd (sM_isTurned z219.1 1) (fun w310 : MW => (some (z280, w310)))))))))))))))
def X9_back_J20  (j20_0 : MW) (j20_1 : Int32) : Option (Int32 × MW) := ((iter (X9_back_L23 j20_0) 5000 (j20_1, 0)).bind (fun z23 : (Int32) => (if z23 = 0 then (X9_back_J75 j20_0 1) else (X9_back_J75 j20_0 0))))
def X9_back_J19  (j19_0 : MW) : Option (Int32 × MW) := (X9_back_J20 j19_0 0)
def X9_back (w : MW) : Option (Int32 × MW) := (if (gM_isSmall w) = 0 then (X9_back_J19 w) else (if (gM_certificate w) = (-1) then (X9_back_J20 w 1) else (X9_back_J19 w)))
set_option maxRecDepth 100000 in
set_option maxHeartbeats 4000000 in
theorem ct_X9_back (l : Launch) (g : wG) (ad : Nat → Nat) (w : MW)  (rr : Int32 × MW) (hf : X9_back w = some rr) : MetN l g yX9_back cX9_back 7 (some .int) (k2_rm 1 25) [.ref (ad 0)] (mcells g ad w) (mcells g ad rr.2) (some (.int rr.1)) := by
  refine MetN.of2 [(0, .ref (ad 0))] rfl (by decide +kernel) (Nat.le_of_ble_eq_true rfl) ?_
  intro p e s m args below meth c hG hr
  unfold X9_back at hf
  have j75 : ∀ (j75_0 : MW) (j75_1 : Int32), X9_back_J75 j75_0 j75_1 = some rr → V p l e (k2_rm 1 25) s m args below meth c (inW (mcells g ad w)) (EN below args s g (mcells g ad w) (mcells g ad rr.2) (some (.int rr.1))) g 7 (mcells g ad j75_0) 0 0 75 [(0, .ref (ad 0))] [.int j75_1, .ref (ad 0)] := by
    intro j75_0 j75_1 hf
    unfold X9_back_J75 at hf
    refine v_iconst hG (v := 0) (by decide) dX9_back_75 ?_
    obtain ⟨r76, hr76, hf⟩ := bd_some hf
    refine v_callV hG (st := []) 0 9 (ct_X9_passes l g ad j75_0 j75_1 0 r76 hr76) iw_X9_passes wk_1212 rfl rfl ⟨rfl, rfl, Nat.le_of_ble_eq_true rfl, Nat.le_of_ble_eq_true rfl⟩ ⟨Nat.le_of_ble_eq_true rfl, Nat.le_of_ble_eq_true rfl⟩ rfl rfl (Nat.le_of_ble_eq_true rfl) (mcells_fst _ _ _ _) dX9_back_76 ?_
    refine (show V p l e (k2_rm 1 25) s m args below meth c (inW (mcells g ad w)) (EN below args s g (mcells g ad w) (mcells g ad rr.2) (some (.int rr.1))) g 7 (mcells g ad r76.2) 0 0 79 [(0, .ref (ad 0))] [.int r76.1] from ?_)
    refine v_if_ne hG 84 dX9_back_79 rfl hf (fun hf => ?_) (fun hf => ?_)
    · refine v_iconst hG (v := 0) (by decide) dX9_back_84 ?_
      refine v_istore_n hG [(2, _), (0, _)] dX9_back_85 rfl (by decide) rfl ?_
      refine v_sub [(0, _), (2, _)] [1, 0] rfl ?_
      obtain ⟨z86, hlz86, hf⟩ := bd_some hf
      refine loop_v (step := X9_back_L86) (fun s86 : MW × Int32 => V p l e (k2_rm 1 25) s m args below meth c (inW (mcells g ad w)) (EN below args s g (mcells g ad w) (mcells g ad rr.2) (some (.int rr.1))) g 7 (mcells g ad s86.1) 0 0 86 [(0, .ref (ad 0)), (2, .int s86.2)] []) (fun z86_q : (MW) => V p l e (k2_rm 1 25) s m args below meth c (inW (mcells g ad w)) (EN below args s g (mcells g ad w) (mcells g ad rr.2) (some (.int rr.1))) g 7 (mcells g ad z86_q) 0 0 130 [(0, .ref (ad 0))] []) ?_ 5000 (r76.2, 0) z86 hlz86 ?_
      · intro s86 rL hf hin hout
        unfold X9_back_L86 at hf
        have j123 : ∀ (j123_0 : MW) (j123_1 : Int32) (j123_2 : Int32) (j123_3 : Int32), X9_back_J123 j123_0 j123_1 j123_2 j123_3 = some rL → V p l e (k2_rm 1 25) s m args below meth c (inW (mcells g ad w)) (EN below args s g (mcells g ad w) (mcells g ad rr.2) (some (.int rr.1))) g 7 (mcells g ad j123_0) 0 0 123 [(0, .ref (ad 0)), (2, .int j123_1)] [.int j123_3, .int j123_2, .ref (ad 30)] := by
          intro j123_0 j123_1 j123_2 j123_3 hf
          unfold X9_back_J123 at hf
          refine m_s_30 hG dX9_back_123 hf (fun w123 hf => ?_)
          refine v_iinc hG 1 (v := j123_1 + 1) [(2, _), (0, _)] dX9_back_124 rfl rfl (by decide) rfl ?_
          refine v_goto hG 86 dX9_back_127 rfl ?_
          refine v_sub [(0, _), (2, _)] [1, 0] rfl ?_
          exact hin _ (Option.some.inj hf).symm
        refine v_iload_n hG 1 rfl rfl dX9_back_86 ?_
        refine v_aload_n hG 0 rfl rfl dX9_back_87 ?_
        refine m_g_0_1 hG wk_1067 dX9_back_88 ?_
        refine v_icmp_ge hG 130 dX9_back_91 rfl hf (fun hf => ?_) (fun hf => ?_)
        · refine v_sub [(0, _)] [0] rfl ?_
          exact hout _ (Option.some.inj hf).symm
        · refine v_aload_n hG 0 rfl rfl dX9_back_94 ?_
          refine m_g_0_40 hG wk_1106 dX9_back_95 ?_
          refine v_iload_n hG 1 rfl rfl dX9_back_98 ?_
          refine v_aload_n hG 0 rfl rfl dX9_back_99 ?_
          refine m_g_0_10 hG wk_1076 dX9_back_100 ?_
          refine v_iload_n hG 1 rfl rfl dX9_back_103 ?_
          refine m_l_7 hG dX9_back_104 hf (fun hf => ?_)
          refine v_if_ne hG 117 dX9_back_105 rfl hf (fun hf => ?_) (fun hf => ?_)
          · refine v_aload_n hG 0 rfl rfl dX9_back_117 ?_
            refine m_g_0_11 hG wk_1077 dX9_back_118 ?_
            refine v_iload_n hG 1 rfl rfl dX9_back_121 ?_
            refine m_l_8 hG dX9_back_122 hf (fun hf => ?_)
            exact j123 s86.1 s86.2 s86.2 ((gM_low s86.1) s86.2.toNatClampNeg) hf
          · refine v_aload_n hG 0 rfl rfl dX9_back_108 ?_
            refine m_g_0_34 hG wk_1100 dX9_back_109 ?_
            refine v_iload_n hG 1 rfl rfl dX9_back_112 ?_
            refine m_l_27 hG dX9_back_113 hf (fun hf => ?_)
            refine v_goto hG 123 dX9_back_114 rfl ?_
            exact j123 s86.1 s86.2 s86.2 ((gM_number s86.1) s86.2.toNatClampNeg) hf
      · show V p l e (k2_rm 1 25) s m args below meth c (inW (mcells g ad w)) (EN below args s g (mcells g ad w) (mcells g ad rr.2) (some (.int rr.1))) g 7 (mcells g ad z86) 0 0 130 [(0, .ref (ad 0))] []
        refine v_aload_n hG 0 rfl rfl dX9_back_130 ?_
        refine m_g_0_29 hG wk_1095 dX9_back_131 ?_
        refine v_iconst hG (v := 1) (by decide) dX9_back_134 ?_
        refine v_isub hG dX9_back_135 ?_
        refine v_istore_n hG [(2, _), (0, _)] dX9_back_136 rfl (by decide) rfl ?_
        refine v_sub [(0, _), (2, _)] [1, 0] rfl ?_
        obtain ⟨z137, hlz137, hf⟩ := bd_some hf
        refine loop_v (step := X9_back_L137) (fun s137 : MW × Int32 => V p l e (k2_rm 1 25) s m args below meth c (inW (mcells g ad w)) (EN below args s g (mcells g ad w) (mcells g ad rr.2) (some (.int rr.1))) g 7 (mcells g ad s137.1) 0 0 137 [(0, .ref (ad 0)), (2, .int s137.2)] []) (fun z137_q : (MW) => V p l e (k2_rm 1 25) s m args below meth c (inW (mcells g ad w)) (EN below args s g (mcells g ad w) (mcells g ad rr.2) (some (.int rr.1))) g 7 (mcells g ad z137_q) 0 0 215 [(0, .ref (ad 0))] []) ?_ 5000 (z86, ((gM_putIns z86) - 1)) z137 hlz137 ?_
        · intro s137 rL hf hin hout
          unfold X9_back_L137 at hf
          refine v_iload_n hG 1 rfl rfl dX9_back_137 ?_
          refine v_if_lt hG 215 dX9_back_138 rfl hf (fun hf => ?_) (fun hf => ?_)
          · refine v_sub [(0, _)] [0] rfl ?_
            exact hout _ (Option.some.inj hf).symm
          · refine v_aload_n hG 0 rfl rfl dX9_back_141 ?_
            refine m_g_0_30 hG wk_1096 dX9_back_142 ?_
            refine v_iload_n hG 1 rfl rfl dX9_back_145 ?_
            refine m_l_23 hG dX9_back_146 hf (fun hf => ?_)
            refine v_istore_n hG [(3, _), (0, _), (2, _)] dX9_back_147 rfl (by decide) rfl ?_
            refine v_aload_n hG 1 rfl rfl dX9_back_148 ?_
            refine m_g_0_31 hG wk_1097 dX9_back_149 ?_
            refine v_iload_n hG 0 rfl rfl dX9_back_152 ?_
            refine m_l_24 hG dX9_back_153 hf (fun hf => ?_)
            refine v_lstore hG [(4, _), (3, _), (0, _), (2, _)] dX9_back_154 (by decide) rfl ?_
            refine v_iconst hG (v := 0) (by decide) dX9_back_156 ?_
            refine v_istore hG [(6, _), (4, _), (3, _), (0, _), (2, _)] dX9_back_157 (by decide) rfl ?_
            refine v_sub [(0, _), (2, _), (3, _), (4, _), (6, _)] [3, 4, 2, 1, 0] rfl ?_
            obtain ⟨z159, hlz159, hf⟩ := bd_some hf
            refine loop_v (step := X9_back_L159 s137) (fun s159 : Int64 × Int32 => V p l e (k2_rm 1 25) s m args below meth c (inW (mcells g ad w)) (EN below args s g (mcells g ad w) (mcells g ad rr.2) (some (.int rr.1))) g 7 (mcells g ad s137.1) 0 0 159 [(0, .ref (ad 0)), (2, .int s137.2), (3, .int ((gM_putIn s137.1) s137.2.toNatClampNeg)), (4, .long s159.1), (6, .int s159.2)] []) (fun z159_q : (Int64) => V p l e (k2_rm 1 25) s m args below meth c (inW (mcells g ad w)) (EN below args s g (mcells g ad w) (mcells g ad rr.2) (some (.int rr.1))) g 7 (mcells g ad s137.1) 0 0 200 [(0, .ref (ad 0)), (2, .int s137.2), (3, .int ((gM_putIn s137.1) s137.2.toNatClampNeg)), (4, .long z159_q)] []) ?_ 5000 (((gM_base s137.1) ((gM_putIn s137.1) s137.2.toNatClampNeg).toNatClampNeg), 0) z159 hlz159 ?_
            · intro s159 rL hf hin hout
              unfold X9_back_L159 at hf
              refine v_iload hG 4 rfl dX9_back_159 ?_
              refine v_aload_n hG 0 rfl rfl dX9_back_161 ?_
              refine m_g_0_1 hG wk_1067 dX9_back_162 ?_
              refine v_icmp_ge hG 200 dX9_back_165 rfl hf (fun hf => ?_) (fun hf => ?_)
              · refine v_sub [(0, _), (2, _), (3, _), (4, _)] [0, 1, 2, 3] rfl ?_
                exact hout _ (Option.some.inj hf).symm
              · refine v_lload hG 3 rfl dX9_back_168 ?_
                refine v_aload_n hG 0 rfl rfl dX9_back_170 ?_
                refine m_g_0_32 hG wk_1098 dX9_back_171 ?_
                refine v_bipush hG (v := 12) (by decide) dX9_back_174 ?_
                refine v_iload_n hG 2 rfl rfl dX9_back_176 ?_
                refine v_imul hG dX9_back_177 ?_
                refine v_iload hG 4 rfl dX9_back_178 ?_
                refine v_iadd hG dX9_back_180 ?_
                refine m_l_25 hG dX9_back_181 hf (fun hf => ?_)
                refine v_aload_n hG 0 rfl rfl dX9_back_182 ?_
                refine m_g_0_40 hG wk_1106 dX9_back_183 ?_
                refine v_iload hG 4 rfl dX9_back_186 ?_
                refine m_l_30 hG dX9_back_188 hf (fun hf => ?_)
                refine v_i2l hG dX9_back_189 ?_
                refine v_lmul hG dX9_back_190 ?_
                refine v_ladd hG dX9_back_191 ?_
                refine v_lstore hG [(4, _), (0, _), (2, _), (3, _), (6, _)] dX9_back_192 (by decide) rfl ?_
                refine v_iinc hG 4 (v := s159.2 + 1) [(6, _), (4, _), (0, _), (2, _), (3, _)] dX9_back_194 rfl rfl (by decide) rfl ?_
                refine v_goto hG 159 dX9_back_197 rfl ?_
                refine v_sub [(0, _), (2, _), (3, _), (4, _), (6, _)] [2, 3, 4, 1, 0] rfl ?_
                exact hin _ (Option.some.inj hf).symm
            · show V p l e (k2_rm 1 25) s m args below meth c (inW (mcells g ad w)) (EN below args s g (mcells g ad w) (mcells g ad rr.2) (some (.int rr.1))) g 7 (mcells g ad s137.1) 0 0 200 [(0, .ref (ad 0)), (2, .int s137.2), (3, .int ((gM_putIn s137.1) s137.2.toNatClampNeg)), (4, .long z159)] []
              refine v_aload_n hG 0 rfl rfl dX9_back_200 ?_
              refine m_g_0_40 hG wk_1106 dX9_back_201 ?_
              refine v_iload_n hG 2 rfl rfl dX9_back_204 ?_
              refine v_lload hG 3 rfl dX9_back_205 ?_
              refine v_l2i hG dX9_back_207 ?_
              refine m_s_30 hG dX9_back_208 hf (fun w208 hf => ?_)
              refine v_iinc hG 1 (v := s137.2 + (-1)) [(2, _), (0, _), (3, _), (4, _)] dX9_back_209 rfl rfl (by decide) rfl ?_
              refine v_goto hG 137 dX9_back_212 rfl ?_
              refine v_sub [(0, _), (2, _)] [1, 0] rfl ?_
              exact hin _ (Option.some.inj hf).symm
        · show V p l e (k2_rm 1 25) s m args below meth c (inW (mcells g ad w)) (EN below args s g (mcells g ad w) (mcells g ad rr.2) (some (.int rr.1))) g 7 (mcells g ad z137) 0 0 215 [(0, .ref (ad 0))] []
          refine v_iconst hG (v := 1) (by decide) dX9_back_215 ?_
          refine v_istore_n hG [(2, _), (0, _)] dX9_back_216 rfl (by decide) rfl ?_
          refine v_iconst hG (v := 0) (by decide) dX9_back_217 ?_
          refine v_istore_n hG [(3, _), (2, _), (0, _)] dX9_back_218 rfl (by decide) rfl ?_
          refine v_sub [(0, _), (2, _), (3, _)] [2, 1, 0] rfl ?_
          obtain ⟨z219, hlz219, hf⟩ := bd_some hf
          refine loop_v (step := X9_back_L219) (fun s219 : MW × Int32 × Int32 => V p l e (k2_rm 1 25) s m args below meth c (inW (mcells g ad w)) (EN below args s g (mcells g ad w) (mcells g ad rr.2) (some (.int rr.1))) g 7 (mcells g ad s219.1) 0 0 219 [(0, .ref (ad 0)), (2, .int s219.2.1), (3, .int s219.2.2)] []) (fun z219_q : (MW × Int32) => V p l e (k2_rm 1 25) s m args below meth c (inW (mcells g ad w)) (EN below args s g (mcells g ad w) (mcells g ad rr.2) (some (.int rr.1))) g 7 (mcells g ad z219_q.1) 0 0 278 [(0, .ref (ad 0)), (2, .int z219_q.2)] []) ?_ 5000 (z137, 1, 0) z219 hlz219 ?_
          · intro s219 rL hf hin hout
            unfold X9_back_L219 at hf
            have j271 : ∀ (j271_0 : MW) (j271_1 : Int32) (j271_2 : Int32), X9_back_J271 j271_0 j271_1 j271_2 = some rL → V p l e (k2_rm 1 25) s m args below meth c (inW (mcells g ad w)) (EN below args s g (mcells g ad w) (mcells g ad rr.2) (some (.int rr.1))) g 7 (mcells g ad j271_0) 0 0 271 [(0, .ref (ad 0)), (3, .int j271_1)] [.int j271_2] := by
              intro j271_0 j271_1 j271_2 hf
              unfold X9_back_J271 at hf
              refine v_istore_n hG [(2, _), (0, _), (3, _)] dX9_back_271 rfl (by decide) rfl ?_
              refine v_iinc hG 2 (v := j271_1 + 1) [(3, _), (2, _), (0, _)] dX9_back_272 rfl rfl (by decide) rfl ?_
              refine v_goto hG 219 dX9_back_275 rfl ?_
              refine v_sub [(0, _), (2, _), (3, _)] [2, 1, 0] rfl ?_
              exact hin _ (Option.some.inj hf).symm
            refine v_iload_n hG 2 rfl rfl dX9_back_219 ?_
            refine v_aload_n hG 0 rfl rfl dX9_back_220 ?_
            refine m_g_0_1 hG wk_1067 dX9_back_221 ?_
            refine v_icmp_ge hG 278 dX9_back_224 rfl hf (fun hf => ?_) (fun hf => ?_)
            · refine v_sub [(0, _), (2, _)] [0, 1] rfl ?_
              exact hout _ (Option.some.inj hf).symm
            · refine v_aload_n hG 0 rfl rfl dX9_back_227 ?_
              refine m_g_0_36 hG wk_1102 dX9_back_228 ?_
              refine v_iload_n hG 2 rfl rfl dX9_back_231 ?_
              refine v_aload_n hG 0 rfl rfl dX9_back_232 ?_
              refine m_g_0_40 hG wk_1106 dX9_back_233 ?_
              refine v_iload_n hG 2 rfl rfl dX9_back_236 ?_
              refine m_l_30 hG dX9_back_237 hf (fun hf => ?_)
              refine m_s_28 hG dX9_back_238 hf (fun w238 hf => ?_)
              refine v_aload_n hG 0 rfl rfl dX9_back_239 ?_
              refine m_g_0_40 hG wk_1106 dX9_back_240 ?_
              refine v_iload_n hG 2 rfl rfl dX9_back_243 ?_
              refine m_l_30 hG dX9_back_244 hf (fun hf => ?_)
              refine v_i2l hG dX9_back_245 ?_
              refine v_aload_n hG 0 rfl rfl dX9_back_246 ?_
              refine m_g_0_3 hG wk_1069 dX9_back_247 ?_
              refine v_iload_n hG 2 rfl rfl dX9_back_250 ?_
              refine m_l_1 hG dX9_back_251 hf (fun hf => ?_)
              refine v_i2l hG dX9_back_252 ?_
              refine v_aload_n hG 0 rfl rfl dX9_back_253 ?_
              refine m_g_0_4 hG wk_1070 dX9_back_254 ?_
              refine v_iload_n hG 2 rfl rfl dX9_back_257 ?_
              refine m_l_2 hG dX9_back_258 hf (fun hf => ?_)
              refine v_i2l hG dX9_back_259 ?_
              obtain ⟨r260, hr260, hf⟩ := bd_some hf
              refine v_callP hG (st := []) (ct_X9_within l g (((gM_point w238) s219.2.2.toNatClampNeg).toInt64) (((gM_lows w238) s219.2.2.toNatClampNeg).toInt64) (((gM_highs w238) s219.2.2.toNatClampNeg).toInt64) r260 hr260) sw_X9_within wk_1207 ⟨rfl, rfl, Nat.le_of_ble_eq_true rfl, Nat.le_of_ble_eq_true rfl⟩ ⟨Nat.le_of_ble_eq_true rfl, Nat.le_of_ble_eq_true rfl⟩ rfl rfl (Nat.le_of_ble_eq_true rfl) dX9_back_260 ?_
              refine (show V p l e (k2_rm 1 25) s m args below meth c (inW (mcells g ad w)) (EN below args s g (mcells g ad w) (mcells g ad rr.2) (some (.int rr.1))) g 7 (mcells g ad w238) 0 0 263 [(0, .ref (ad 0)), (2, .int s219.2.1), (3, .int s219.2.2)] [.int r260] from ?_)
              refine v_if_eq hG 270 dX9_back_263 rfl hf (fun hf => ?_) (fun hf => ?_)
              · refine v_iconst hG (v := 0) (by decide) dX9_back_270 ?_
                refine v_sub [(0, _), (3, _)] [0, 2] rfl ?_
                exact j271 w238 s219.2.2 0 hf
              · refine v_iload_n hG 1 rfl rfl dX9_back_266 ?_
                refine v_goto hG 271 dX9_back_267 rfl ?_
                refine v_sub [(0, _), (3, _)] [0, 2] rfl ?_
                exact j271 w238 s219.2.2 s219.2.1 hf
          · show V p l e (k2_rm 1 25) s m args below meth c (inW (mcells g ad w)) (EN below args s g (mcells g ad w) (mcells g ad rr.2) (some (.int rr.1))) g 7 (mcells g ad z219.1) 0 0 278 [(0, .ref (ad 0)), (2, .int z219.2)] []
            refine v_iconst hG (v := 0) (by decide) dX9_back_278 ?_
            refine v_istore_n hG [(3, _), (0, _), (2, _)] dX9_back_279 rfl (by decide) rfl ?_
            refine v_sub [(0, _), (2, _), (3, _)] [1, 2, 0] rfl ?_
            obtain ⟨z280, hlz280, hf⟩ := bd_some hf
            refine loop_v (step := X9_back_L280 z219) (fun s280 : Int32 × Int32 => V p l e (k2_rm 1 25) s m args below meth c (inW (mcells g ad w)) (EN below args s g (mcells g ad w) (mcells g ad rr.2) (some (.int rr.1))) g 7 (mcells g ad z219.1) 0 0 280 [(0, .ref (ad 0)), (2, .int s280.1), (3, .int s280.2)] []) (fun z280_q : (Int32) => V p l e (k2_rm 1 25) s m args below meth c (inW (mcells g ad w)) (EN below args s g (mcells g ad w) (mcells g ad rr.2) (some (.int rr.1))) g 7 (mcells g ad z219.1) 0 0 308 [(0, .ref (ad 0)), (2, .int z280_q)] []) ?_ 5000 (z219.2, 0) z280 hlz280 ?_
            · intro s280 rL hf hin hout
              unfold X9_back_L280 at hf
              have j301 : ∀ (j301_0 : Int32) (j301_1 : Int32), X9_back_J301 j301_0 j301_1 = some rL → V p l e (k2_rm 1 25) s m args below meth c (inW (mcells g ad w)) (EN below args s g (mcells g ad w) (mcells g ad rr.2) (some (.int rr.1))) g 7 (mcells g ad z219.1) 0 0 301 [(0, .ref (ad 0)), (3, .int j301_0)] [.int j301_1] := by
                intro j301_0 j301_1 hf
                unfold X9_back_J301 at hf
                refine v_istore_n hG [(2, _), (0, _), (3, _)] dX9_back_301 rfl (by decide) rfl ?_
                refine v_iinc hG 2 (v := j301_0 + 1) [(3, _), (2, _), (0, _)] dX9_back_302 rfl rfl (by decide) rfl ?_
                refine v_goto hG 280 dX9_back_305 rfl ?_
                refine v_sub [(0, _), (2, _), (3, _)] [2, 1, 0] rfl ?_
                exact hin _ (Option.some.inj hf).symm
              refine v_iload_n hG 2 rfl rfl dX9_back_280 ?_
              refine v_aload_n hG 0 rfl rfl dX9_back_281 ?_
              refine m_g_0_2 hG wk_1068 dX9_back_282 ?_
              refine v_icmp_ge hG 308 dX9_back_285 rfl hf (fun hf => ?_) (fun hf => ?_)
              · refine v_sub [(0, _), (2, _)] [0, 1] rfl ?_
                exact hout _ (Option.some.inj hf).symm
              · refine v_aload_n hG 0 rfl rfl dX9_back_288 ?_
                refine v_iload_n hG 2 rfl rfl dX9_back_289 ?_
                obtain ⟨r290, hr290, hf⟩ := bd_some hf
                refine v_callV hG (st := []) 0 9 (ct_X9_holds l g ad z219.1 s280.2 r290 hr290) iw_X9_holds wk_1451 rfl rfl ⟨rfl, rfl, Nat.le_of_ble_eq_true rfl, Nat.le_of_ble_eq_true rfl⟩ ⟨Nat.le_of_ble_eq_true rfl, Nat.le_of_ble_eq_true rfl⟩ rfl rfl (Nat.le_of_ble_eq_true rfl) (mcells_fst _ _ _ _) dX9_back_290 ?_
                refine (show V p l e (k2_rm 1 25) s m args below meth c (inW (mcells g ad w)) (EN below args s g (mcells g ad w) (mcells g ad rr.2) (some (.int rr.1))) g 7 (mcells g ad z219.1) 0 0 293 [(0, .ref (ad 0)), (2, .int s280.1), (3, .int s280.2)] [.int r290] from ?_)
                refine v_if_eq hG 300 dX9_back_293 rfl hf (fun hf => ?_) (fun hf => ?_)
                · refine v_iconst hG (v := 0) (by decide) dX9_back_300 ?_
                  refine v_sub [(0, _), (3, _)] [0, 2] rfl ?_
                  exact j301 s280.2 0 hf
                · refine v_iload_n hG 1 rfl rfl dX9_back_296 ?_
                  refine v_goto hG 301 dX9_back_297 rfl ?_
                  refine v_sub [(0, _), (3, _)] [0, 2] rfl ?_
                  exact j301 s280.2 s280.1 hf
            · show V p l e (k2_rm 1 25) s m args below meth c (inW (mcells g ad w)) (EN below args s g (mcells g ad w) (mcells g ad rr.2) (some (.int rr.1))) g 7 (mcells g ad z219.1) 0 0 308 [(0, .ref (ad 0)), (2, .int z280)] []
              refine v_aload_n hG 0 rfl rfl dX9_back_308 ?_
              refine v_iconst hG (v := 1) (by decide) dX9_back_309 ?_
              refine m_p_0_35 hG wk_1101 dX9_back_310 rfl rfl hf (fun w310 hf => ?_)
              refine v_iload_n hG 1 rfl rfl dX9_back_313 ?_
              cases hf
              exact v_iret hG hr dX9_back_314
    · refine v_iconst hG (v := 0) (by decide) dX9_back_82 ?_
      cases hf
      exact v_iret hG hr dX9_back_83
  have j20 : ∀ (j20_0 : MW) (j20_1 : Int32), X9_back_J20 j20_0 j20_1 = some rr → V p l e (k2_rm 1 25) s m args below meth c (inW (mcells g ad w)) (EN below args s g (mcells g ad w) (mcells g ad rr.2) (some (.int rr.1))) g 7 (mcells g ad j20_0) 0 0 20 [(0, .ref (ad 0))] [.int j20_1] := by
    intro j20_0 j20_1 hf
    unfold X9_back_J20 at hf
    refine v_istore_n hG [(1, _), (0, _)] dX9_back_20 rfl (by decide) rfl ?_
    refine v_iconst hG (v := 0) (by decide) dX9_back_21 ?_
    refine v_istore_n hG [(2, _), (1, _), (0, _)] dX9_back_22 rfl (by decide) rfl ?_
    refine v_sub [(0, _), (1, _), (2, _)] [2, 1, 0] rfl ?_
    obtain ⟨z23, hlz23, hf⟩ := bd_some hf
    refine loop_v (step := X9_back_L23 j20_0) (fun s23 : Int32 × Int32 => V p l e (k2_rm 1 25) s m args below meth c (inW (mcells g ad w)) (EN below args s g (mcells g ad w) (mcells g ad rr.2) (some (.int rr.1))) g 7 (mcells g ad j20_0) 0 0 23 [(0, .ref (ad 0)), (1, .int s23.1), (2, .int s23.2)] []) (fun z23_q : (Int32) => V p l e (k2_rm 1 25) s m args below meth c (inW (mcells g ad w)) (EN below args s g (mcells g ad w) (mcells g ad rr.2) (some (.int rr.1))) g 7 (mcells g ad j20_0) 0 0 65 [(0, .ref (ad 0)), (1, .int z23_q)] []) ?_ 5000 (j20_1, 0) z23 hlz23 ?_
    · intro s23 rL hf hin hout
      unfold X9_back_L23 at hf
      have j58 : ∀ (j58_0 : Int32) (j58_1 : Int32), X9_back_J58 j58_0 j58_1 = some rL → V p l e (k2_rm 1 25) s m args below meth c (inW (mcells g ad w)) (EN below args s g (mcells g ad w) (mcells g ad rr.2) (some (.int rr.1))) g 7 (mcells g ad j20_0) 0 0 58 [(0, .ref (ad 0)), (2, .int j58_0)] [.int j58_1] := by
        intro j58_0 j58_1 hf
        unfold X9_back_J58 at hf
        refine v_istore_n hG [(1, _), (0, _), (2, _)] dX9_back_58 rfl (by decide) rfl ?_
        refine v_iinc hG 2 (v := j58_0 + 1) [(2, _), (1, _), (0, _)] dX9_back_59 rfl rfl (by decide) rfl ?_
        refine v_goto hG 23 dX9_back_62 rfl ?_
        refine v_sub [(0, _), (1, _), (2, _)] [2, 1, 0] rfl ?_
        exact hin _ (Option.some.inj hf).symm
      have j57 : ∀ (j57_0 : Int32), X9_back_J57 j57_0 = some rL → V p l e (k2_rm 1 25) s m args below meth c (inW (mcells g ad w)) (EN below args s g (mcells g ad w) (mcells g ad rr.2) (some (.int rr.1))) g 7 (mcells g ad j20_0) 0 0 57 [(0, .ref (ad 0)), (2, .int j57_0)] [] := by
        intro j57_0 hf
        unfold X9_back_J57 at hf
        refine v_iconst hG (v := 0) (by decide) dX9_back_57 ?_
        exact j58 j57_0 0 hf
      have j53 : ∀ (j53_0 : Int32), X9_back_J53 j53_0 = some rL → V p l e (k2_rm 1 25) s m args below meth c (inW (mcells g ad w)) (EN below args s g (mcells g ad w) (mcells g ad rr.2) (some (.int rr.1))) g 7 (mcells g ad j20_0) 0 0 53 [(0, .ref (ad 0)), (2, .int j53_0)] [] := by
        intro j53_0 hf
        unfold X9_back_J53 at hf
        refine v_iconst hG (v := 1) (by decide) dX9_back_53 ?_
        refine v_goto hG 58 dX9_back_54 rfl ?_
        exact j58 j53_0 1 hf
      refine v_iload_n hG 2 rfl rfl dX9_back_23 ?_
      refine v_aload_n hG 0 rfl rfl dX9_back_24 ?_
      refine m_g_0_1 hG wk_1067 dX9_back_25 ?_
      refine v_icmp_ge hG 65 dX9_back_28 rfl hf (fun hf => ?_) (fun hf => ?_)
      · refine v_sub [(0, _), (1, _)] [0, 1] rfl ?_
        exact hout _ (Option.some.inj hf).symm
      · refine v_iload_n hG 1 rfl rfl dX9_back_31 ?_
        refine v_if_eq hG 57 dX9_back_32 rfl hf (fun hf => ?_) (fun hf => ?_)
        · refine v_sub [(0, _), (2, _)] [0, 2] rfl ?_
          exact j57 s23.2 hf
        · refine v_aload_n hG 0 rfl rfl dX9_back_35 ?_
          refine m_g_0_10 hG wk_1076 dX9_back_36 ?_
          refine v_iload_n hG 2 rfl rfl dX9_back_39 ?_
          refine m_l_7 hG dX9_back_40 hf (fun hf => ?_)
          refine v_if_ne hG 53 dX9_back_41 rfl hf (fun hf => ?_) (fun hf => ?_)
          · refine v_sub [(0, _), (2, _)] [0, 2] rfl ?_
            exact j53 s23.2 hf
          · refine v_aload_n hG 0 rfl rfl dX9_back_44 ?_
            refine m_g_0_33 hG wk_1099 dX9_back_45 ?_
            refine v_iload_n hG 2 rfl rfl dX9_back_48 ?_
            refine m_l_26 hG dX9_back_49 hf (fun hf => ?_)
            refine v_if_eq hG 57 dX9_back_50 rfl hf (fun hf => ?_) (fun hf => ?_)
            · refine v_sub [(0, _), (2, _)] [0, 2] rfl ?_
              exact j57 s23.2 hf
            · refine v_sub [(0, _), (2, _)] [0, 2] rfl ?_
              exact j53 s23.2 hf
    · show V p l e (k2_rm 1 25) s m args below meth c (inW (mcells g ad w)) (EN below args s g (mcells g ad w) (mcells g ad rr.2) (some (.int rr.1))) g 7 (mcells g ad j20_0) 0 0 65 [(0, .ref (ad 0)), (1, .int z23)] []
      refine v_aload_n hG 0 rfl rfl dX9_back_65 ?_
      refine v_iload_n hG 1 rfl rfl dX9_back_66 ?_
      refine v_if_ne hG 74 dX9_back_67 rfl hf (fun hf => ?_) (fun hf => ?_)
      · refine v_iconst hG (v := 0) (by decide) dX9_back_74 ?_
        refine v_sub [(0, _)] [0] rfl ?_
        exact j75 j20_0 0 hf
      · refine v_iconst hG (v := 1) (by decide) dX9_back_70 ?_
        refine v_goto hG 75 dX9_back_71 rfl ?_
        refine v_sub [(0, _)] [0] rfl ?_
        exact j75 j20_0 1 hf
  have j19 : ∀ (j19_0 : MW), X9_back_J19 j19_0 = some rr → V p l e (k2_rm 1 25) s m args below meth c (inW (mcells g ad w)) (EN below args s g (mcells g ad w) (mcells g ad rr.2) (some (.int rr.1))) g 7 (mcells g ad j19_0) 0 0 19 [(0, .ref (ad 0))] [] := by
    intro j19_0 hf
    unfold X9_back_J19 at hf
    refine v_iconst hG (v := 0) (by decide) dX9_back_19 ?_
    exact j20 j19_0 0 hf
  refine v_aload_n hG 0 rfl rfl dX9_back_0 ?_
  refine m_g_0_9 hG wk_1075 dX9_back_1 ?_
  refine v_if_eq hG 19 dX9_back_4 rfl hf (fun hf => ?_) (fun hf => ?_)
  · exact j19 w hf
  · refine v_aload_n hG 0 rfl rfl dX9_back_7 ?_
    refine m_g_0_22 hG wk_1088 dX9_back_8 ?_
    refine v_iconst hG (v := -1) (by decide) dX9_back_11 ?_
    refine v_icmp_ne hG 19 dX9_back_12 rfl hf (fun hf => ?_) (fun hf => ?_)
    · exact j19 w hf
    · refine v_iconst hG (v := 1) (by decide) dX9_back_15 ?_
      refine v_goto hG 20 dX9_back_16 rfl ?_
      exact j20 w 1 hf
def X9_at_J33 (a0 : Int32) (j33_0 : MW) (j33_1 : Int32) (j33_2 : Int32) : Option (Int32 × MW) := ((X9_passes j33_0 j33_1 j33_2).bind (fun r33 : Int32 × MW => (if r33.1 = 0 then (some (0, r33.2)) else (if inR a0 12 = true then (some (((gM_turned r33.2) a0.toNatClampNeg), r33.2)) else none))))
def X9_at_J20 (a0 : Int32) (j20_0 : MW) (j20_1 : Int32) : Option (Int32 × MW) := ((X9_isColumn j20_0 a0).bind (fun r22 : Int32 => (if r22 = 0 then (X9_at_J33 a0 j20_0 j20_1 1) else (X9_at_J33 a0 j20_0 j20_1 0))))
def X9_at_J15 (a0 : Int32) (j15_0 : MW) : Option (Int32 × MW) := (X9_at_J20 a0 j15_0 1)
def X9_at (w : MW) (a0 : Int32) : Option (Int32 × MW) := (if (gM_isSmall w) = 0 then (X9_at_J15 a0 w) else (if (gM_isTurned w) = 0 then (X9_at_J15 a0 w) else (X9_at_J20 a0 w 0)))
set_option maxRecDepth 100000 in
set_option maxHeartbeats 4000000 in
theorem ct_X9_at (l : Launch) (g : wG) (ad : Nat → Nat) (w : MW) (a0 : Int32) (rr : Int32 × MW) (hf : X9_at w a0 = some rr) : MetN l g yX9_at cX9_at 2 (some .int) (k2_rm 2 46) [.ref (ad 0), .int a0] (mcells g ad w) (mcells g ad rr.2) (some (.int rr.1)) := by
  refine MetN.of2 [(0, .ref (ad 0)), (1, .int a0)] rfl (by decide +kernel) (Nat.le_of_ble_eq_true rfl) ?_
  intro p e s m args below meth c hG hr
  unfold X9_at at hf
  have j33 : ∀ (j33_0 : MW) (j33_1 : Int32) (j33_2 : Int32), X9_at_J33 a0 j33_0 j33_1 j33_2 = some rr → V p l e (k2_rm 2 46) s m args below meth c (inW (mcells g ad w)) (EN below args s g (mcells g ad w) (mcells g ad rr.2) (some (.int rr.1))) g 2 (mcells g ad j33_0) 0 0 33 [(0, .ref (ad 0)), (1, .int a0)] [.int j33_2, .int j33_1, .ref (ad 0)] := by
    intro j33_0 j33_1 j33_2 hf
    unfold X9_at_J33 at hf
    obtain ⟨r33, hr33, hf⟩ := bd_some hf
    refine v_callV hG (st := []) 0 9 (ct_X9_passes l g ad j33_0 j33_1 j33_2 r33 hr33) iw_X9_passes wk_1212 rfl rfl ⟨rfl, rfl, Nat.le_of_ble_eq_true rfl, Nat.le_of_ble_eq_true rfl⟩ ⟨Nat.le_of_ble_eq_true rfl, Nat.le_of_ble_eq_true rfl⟩ rfl rfl (Nat.le_of_ble_eq_true rfl) (mcells_fst _ _ _ _) dX9_at_33 ?_
    refine (show V p l e (k2_rm 2 46) s m args below meth c (inW (mcells g ad w)) (EN below args s g (mcells g ad w) (mcells g ad rr.2) (some (.int rr.1))) g 2 (mcells g ad r33.2) 0 0 36 [(0, .ref (ad 0)), (1, .int a0)] [.int r33.1] from ?_)
    refine v_if_eq hG 48 dX9_at_36 rfl hf (fun hf => ?_) (fun hf => ?_)
    · refine v_iconst hG (v := 0) (by decide) dX9_at_48 ?_
      cases hf
      exact v_iret hG hr dX9_at_49
    · refine v_aload_n hG 0 rfl rfl dX9_at_39 ?_
      refine m_g_0_36 hG wk_1102 dX9_at_40 ?_
      refine v_iload_n hG 1 rfl rfl dX9_at_43 ?_
      refine m_l_28 hG dX9_at_44 hf (fun hf => ?_)
      refine v_goto hG 49 dX9_at_45 rfl ?_
      cases hf
      exact v_iret hG hr dX9_at_49
  have j20 : ∀ (j20_0 : MW) (j20_1 : Int32), X9_at_J20 a0 j20_0 j20_1 = some rr → V p l e (k2_rm 2 46) s m args below meth c (inW (mcells g ad w)) (EN below args s g (mcells g ad w) (mcells g ad rr.2) (some (.int rr.1))) g 2 (mcells g ad j20_0) 0 0 20 [(0, .ref (ad 0)), (1, .int a0)] [.int j20_1, .ref (ad 0)] := by
    intro j20_0 j20_1 hf
    unfold X9_at_J20 at hf
    refine v_aload_n hG 0 rfl rfl dX9_at_20 ?_
    refine v_iload_n hG 1 rfl rfl dX9_at_21 ?_
    obtain ⟨r22, hr22, hf⟩ := bd_some hf
    refine v_callV hG (st := [.int j20_1, .ref (ad 0)]) 0 9 (ct_X9_isColumn l g ad j20_0 a0 r22 hr22) iw_X9_isColumn wk_1238 rfl rfl ⟨rfl, rfl, Nat.le_of_ble_eq_true rfl, Nat.le_of_ble_eq_true rfl⟩ ⟨Nat.le_of_ble_eq_true rfl, Nat.le_of_ble_eq_true rfl⟩ rfl rfl (Nat.le_of_ble_eq_true rfl) (mcells_fst _ _ _ _) dX9_at_22 ?_
    refine (show V p l e (k2_rm 2 46) s m args below meth c (inW (mcells g ad w)) (EN below args s g (mcells g ad w) (mcells g ad rr.2) (some (.int rr.1))) g 2 (mcells g ad j20_0) 0 0 25 [(0, .ref (ad 0)), (1, .int a0)] [.int r22, .int j20_1, .ref (ad 0)] from ?_)
    refine v_if_ne hG 32 dX9_at_25 rfl hf (fun hf => ?_) (fun hf => ?_)
    · refine v_iconst hG (v := 0) (by decide) dX9_at_32 ?_
      exact j33 j20_0 j20_1 0 hf
    · refine v_iconst hG (v := 1) (by decide) dX9_at_28 ?_
      refine v_goto hG 33 dX9_at_29 rfl ?_
      exact j33 j20_0 j20_1 1 hf
  have j15 : ∀ (j15_0 : MW), X9_at_J15 a0 j15_0 = some rr → V p l e (k2_rm 2 46) s m args below meth c (inW (mcells g ad w)) (EN below args s g (mcells g ad w) (mcells g ad rr.2) (some (.int rr.1))) g 2 (mcells g ad j15_0) 0 0 15 [(0, .ref (ad 0)), (1, .int a0)] [.ref (ad 0)] := by
    intro j15_0 hf
    unfold X9_at_J15 at hf
    refine v_iconst hG (v := 1) (by decide) dX9_at_15 ?_
    refine v_goto hG 20 dX9_at_16 rfl ?_
    exact j20 j15_0 1 hf
  refine v_aload_n hG 0 rfl rfl dX9_at_0 ?_
  refine v_aload_n hG 0 rfl rfl dX9_at_1 ?_
  refine m_g_0_9 hG wk_1075 dX9_at_2 ?_
  refine v_if_eq hG 15 dX9_at_5 rfl hf (fun hf => ?_) (fun hf => ?_)
  · exact j15 w hf
  · refine v_aload_n hG 0 rfl rfl dX9_at_8 ?_
    refine m_g_0_35 hG wk_1101 dX9_at_9 ?_
    refine v_if_ne hG 19 dX9_at_12 rfl hf (fun hf => ?_) (fun hf => ?_)
    · refine v_iconst hG (v := 0) (by decide) dX9_at_19 ?_
      exact j20 w 0 hf
    · exact j15 w hf
def X9_value_L31 (r23 : Int32 × MW) (s31 : Int64 × Int32) : Option ((Int64 × Int32) ⊕ ((Int64))) := (if (gM_columns r23.2) ≤ s31.2 then (some (.inr s31.1)) else (if inR s31.2 12 = true then (if inR s31.2 12 = true then (some (.inl ((s31.1 + ((((gM_costs r23.2) s31.2.toNatClampNeg).toInt64) * (((gM_turned r23.2) s31.2.toNatClampNeg).toInt64))), (s31.2 + 1)))) else none) else none))
def X9_value_J22  (j22_0 : MW) (j22_1 : Int64) (j22_2 : Int32) : Option (Int64 × MW) := ((X9_passes j22_0 j22_2 0).bind (fun r23 : Int32 × MW => (if r23.1 = 0 then (some (j22_1, r23.2)) else ((iter (X9_value_L31 r23) 5000 (j22_1, 0)).bind (fun z31 : (Int64) => (some (z31, r23.2)))))))
def X9_value_J17  (j17_0 : MW) (j17_1 : Int64) : Option (Int64 × MW) := (X9_value_J22 j17_0 j17_1 1)
def X9_value (w : MW) : Option (Int64 × MW) := (if (gM_isSmall w) = 0 then (X9_value_J17 w 0) else (if (gM_isTurned w) = 0 then (X9_value_J17 w 0) else (X9_value_J22 w 0 0)))
set_option maxRecDepth 100000 in
set_option maxHeartbeats 4000000 in
theorem ct_X9_value (l : Launch) (g : wG) (ad : Nat → Nat) (w : MW)  (rr : Int64 × MW) (hf : X9_value w = some rr) : MetN l g yX9_value cX9_value 4 (some .long) (k2_rm 1 22) [.ref (ad 0)] (mcells g ad w) (mcells g ad rr.2) (some (.long rr.1)) := by
  refine MetN.of2 [(0, .ref (ad 0))] rfl (by decide +kernel) (Nat.le_of_ble_eq_true rfl) ?_
  intro p e s m args below meth c hG hr
  unfold X9_value at hf
  have j22 : ∀ (j22_0 : MW) (j22_1 : Int64) (j22_2 : Int32), X9_value_J22 j22_0 j22_1 j22_2 = some rr → V p l e (k2_rm 1 22) s m args below meth c (inW (mcells g ad w)) (EN below args s g (mcells g ad w) (mcells g ad rr.2) (some (.long rr.1))) g 4 (mcells g ad j22_0) 0 0 22 [(0, .ref (ad 0)), (1, .long j22_1)] [.int j22_2, .ref (ad 0)] := by
    intro j22_0 j22_1 j22_2 hf
    unfold X9_value_J22 at hf
    refine v_iconst hG (v := 0) (by decide) dX9_value_22 ?_
    obtain ⟨r23, hr23, hf⟩ := bd_some hf
    refine v_callV hG (st := []) 0 9 (ct_X9_passes l g ad j22_0 j22_2 0 r23 hr23) iw_X9_passes wk_1212 rfl rfl ⟨rfl, rfl, Nat.le_of_ble_eq_true rfl, Nat.le_of_ble_eq_true rfl⟩ ⟨Nat.le_of_ble_eq_true rfl, Nat.le_of_ble_eq_true rfl⟩ rfl rfl (Nat.le_of_ble_eq_true rfl) (mcells_fst _ _ _ _) dX9_value_23 ?_
    refine (show V p l e (k2_rm 1 22) s m args below meth c (inW (mcells g ad w)) (EN below args s g (mcells g ad w) (mcells g ad rr.2) (some (.long rr.1))) g 4 (mcells g ad r23.2) 0 0 26 [(0, .ref (ad 0)), (1, .long j22_1)] [.int r23.1] from ?_)
    refine v_if_eq hG 63 dX9_value_26 rfl hf (fun hf => ?_) (fun hf => ?_)
    · refine v_lload_n hG 1 rfl rfl dX9_value_63 ?_
      cases hf
      exact v_lret hG hr dX9_value_64
    · refine v_iconst hG (v := 0) (by decide) dX9_value_29 ?_
      refine v_istore_n hG [(3, _), (0, _), (1, _)] dX9_value_30 rfl (by decide) rfl ?_
      refine v_sub [(0, _), (1, _), (3, _)] [1, 2, 0] rfl ?_
      obtain ⟨z31, hlz31, hf⟩ := bd_some hf
      refine loop_v (step := X9_value_L31 r23) (fun s31 : Int64 × Int32 => V p l e (k2_rm 1 22) s m args below meth c (inW (mcells g ad w)) (EN below args s g (mcells g ad w) (mcells g ad rr.2) (some (.long rr.1))) g 4 (mcells g ad r23.2) 0 0 31 [(0, .ref (ad 0)), (1, .long s31.1), (3, .int s31.2)] []) (fun z31_q : (Int64) => V p l e (k2_rm 1 22) s m args below meth c (inW (mcells g ad w)) (EN below args s g (mcells g ad w) (mcells g ad rr.2) (some (.long rr.1))) g 4 (mcells g ad r23.2) 0 0 63 [(1, .long z31_q)] []) ?_ 5000 (j22_1, 0) z31 hlz31 ?_
      · intro s31 rL hf hin hout
        unfold X9_value_L31 at hf
        refine v_iload_n hG 2 rfl rfl dX9_value_31 ?_
        refine v_aload_n hG 0 rfl rfl dX9_value_32 ?_
        refine m_g_0_1 hG wk_1067 dX9_value_33 ?_
        refine v_icmp_ge hG 63 dX9_value_36 rfl hf (fun hf => ?_) (fun hf => ?_)
        · refine v_sub [(1, _)] [1] rfl ?_
          exact hout _ (Option.some.inj hf).symm
        · refine v_lload_n hG 1 rfl rfl dX9_value_39 ?_
          refine v_aload_n hG 0 rfl rfl dX9_value_40 ?_
          refine m_g_0_5 hG wk_1071 dX9_value_41 ?_
          refine v_iload_n hG 2 rfl rfl dX9_value_44 ?_
          refine m_l_3 hG dX9_value_45 hf (fun hf => ?_)
          refine v_i2l hG dX9_value_46 ?_
          refine v_aload_n hG 0 rfl rfl dX9_value_47 ?_
          refine m_g_0_36 hG wk_1102 dX9_value_48 ?_
          refine v_iload_n hG 2 rfl rfl dX9_value_51 ?_
          refine m_l_28 hG dX9_value_52 hf (fun hf => ?_)
          refine v_i2l hG dX9_value_53 ?_
          refine v_lmul hG dX9_value_54 ?_
          refine v_ladd hG dX9_value_55 ?_
          refine v_lstore_n hG [(1, _), (0, _), (3, _)] dX9_value_56 rfl (by decide) rfl ?_
          refine v_iinc hG 2 (v := s31.2 + 1) [(3, _), (1, _), (0, _)] dX9_value_57 rfl rfl (by decide) rfl ?_
          refine v_goto hG 31 dX9_value_60 rfl ?_
          refine v_sub [(0, _), (1, _), (3, _)] [2, 1, 0] rfl ?_
          exact hin _ (Option.some.inj hf).symm
      · show V p l e (k2_rm 1 22) s m args below meth c (inW (mcells g ad w)) (EN below args s g (mcells g ad w) (mcells g ad rr.2) (some (.long rr.1))) g 4 (mcells g ad r23.2) 0 0 63 [(1, .long z31)] []
        refine v_lload_n hG 0 rfl rfl dX9_value_63 ?_
        cases hf
        exact v_lret hG hr dX9_value_64
  have j17 : ∀ (j17_0 : MW) (j17_1 : Int64), X9_value_J17 j17_0 j17_1 = some rr → V p l e (k2_rm 1 22) s m args below meth c (inW (mcells g ad w)) (EN below args s g (mcells g ad w) (mcells g ad rr.2) (some (.long rr.1))) g 4 (mcells g ad j17_0) 0 0 17 [(0, .ref (ad 0)), (1, .long j17_1)] [.ref (ad 0)] := by
    intro j17_0 j17_1 hf
    unfold X9_value_J17 at hf
    refine v_iconst hG (v := 1) (by decide) dX9_value_17 ?_
    refine v_goto hG 22 dX9_value_18 rfl ?_
    exact j22 j17_0 j17_1 1 hf
  refine v_lconst hG (v := 0) (by decide) dX9_value_0 ?_
  refine v_lstore_n hG [(1, _), (0, _)] dX9_value_1 rfl (by decide) rfl ?_
  refine v_aload_n hG 1 rfl rfl dX9_value_2 ?_
  refine v_aload_n hG 1 rfl rfl dX9_value_3 ?_
  refine m_g_0_9 hG wk_1075 dX9_value_4 ?_
  refine v_if_eq hG 17 dX9_value_7 rfl hf (fun hf => ?_) (fun hf => ?_)
  · refine v_sub [(0, _), (1, _)] [1, 0] rfl ?_
    exact j17 w 0 hf
  · refine v_aload_n hG 1 rfl rfl dX9_value_10 ?_
    refine m_g_0_35 hG wk_1101 dX9_value_11 ?_
    refine v_if_ne hG 21 dX9_value_14 rfl hf (fun hf => ?_) (fun hf => ?_)
    · refine v_iconst hG (v := 0) (by decide) dX9_value_21 ?_
      refine v_sub [(0, _), (1, _)] [1, 0] rfl ?_
      exact j22 w 0 0 hf
    · refine v_sub [(0, _), (1, _)] [1, 0] rfl ?_
      exact j17 w 0 hf
def X9_price_J80  (j80_0 : Int32) (j80_1 : Int64) (j80_2 : Int64) : Option ((Int64 × Int32) ⊕ ((Int64))) := (some (.inl ((j80_1 + j80_2), (j80_0 + 1))))
def X9_price_L16 (w : MW) (a0 : Int32) (s16 : Int64 × Int32) : Option ((Int64 × Int32) ⊕ ((Int64))) := (if (gM_columns w) ≤ s16.2 then (some (.inr s16.1)) else (if a0 = 0 then (if inR s16.2 12 = true then (if inR s16.2 12 = true then (X9_price_J80 s16.2 s16.1 ((((gM_costs w) s16.2.toNatClampNeg).toInt64) * (((gM_point w) s16.2.toNatClampNeg).toInt64))) else none) else none) else (if inR s16.2 12 = true then (if ((gM_state w) s16.2.toNatClampNeg) = 0 then (if inR s16.2 12 = true then (if inR s16.2 12 = true then (X9_price_J80 s16.2 s16.1 (((gM_cost w) s16.2.toNatClampNeg) * (((gM_point w) s16.2.toNatClampNeg).toInt64))) else none) else none) else (X9_price_J80 s16.2 s16.1 0)) else none)))
def X9_price_J12 (w : MW) (a0 : Int32) (j12_0 : Int64) : Option (Int64) := ((iter (X9_price_L16 w a0) 5000 (j12_0, 0)).bind (fun z16 : (Int64) => (some z16)))
def X9_price (w : MW) (a0 : Int32) : Option (Int64) := (if a0 = 0 then (X9_price_J12 w a0 0) else (X9_price_J12 w a0 (gM_offset w)))
set_option maxRecDepth 100000 in
set_option maxHeartbeats 4000000 in
theorem ct_X9_price (l : Launch) (g : wG) (ad : Nat → Nat) (w : MW) (a0 : Int32) (rr : Int64) (hf : X9_price w a0 = some rr) : MetN l g yX9_price cX9_price 5 (some .long) (k2_rm 0 0) [.ref (ad 0), .int a0] (mcells g ad w) (mcells g ad w) (some (.long rr)) := by
  refine MetN.of2 [(0, .ref (ad 0)), (1, .int a0)] rfl (by decide +kernel) (Nat.le_of_ble_eq_true rfl) ?_
  intro p e s m args below meth c hG hr
  unfold X9_price at hf
  have j12 : ∀ (j12_0 : Int64), X9_price_J12 w a0 j12_0 = some rr → V p l e (k2_rm 0 0) s m args below meth c (inW (mcells g ad w)) (EN below args s g (mcells g ad w) (mcells g ad w) (some (.long rr))) g 5 (mcells g ad w) 0 0 12 [(0, .ref (ad 0)), (1, .int a0)] [.long j12_0] := by
    intro j12_0 hf
    unfold X9_price_J12 at hf
    refine v_lstore_n hG [(2, _), (0, _), (1, _)] dX9_price_12 rfl (by decide) rfl ?_
    refine v_iconst hG (v := 0) (by decide) dX9_price_13 ?_
    refine v_istore hG [(4, _), (2, _), (0, _), (1, _)] dX9_price_14 (by decide) rfl ?_
    refine v_sub [(0, _), (1, _), (2, _), (4, _)] [2, 3, 1, 0] rfl ?_
    obtain ⟨z16, hlz16, hf⟩ := bd_some hf
    refine loop_v (step := X9_price_L16 w a0) (fun s16 : Int64 × Int32 => V p l e (k2_rm 0 0) s m args below meth c (inW (mcells g ad w)) (EN below args s g (mcells g ad w) (mcells g ad w) (some (.long rr))) g 5 (mcells g ad w) 0 0 16 [(0, .ref (ad 0)), (1, .int a0), (2, .long s16.1), (4, .int s16.2)] []) (fun z16_q : (Int64) => V p l e (k2_rm 0 0) s m args below meth c (inW (mcells g ad w)) (EN below args s g (mcells g ad w) (mcells g ad w) (some (.long rr))) g 5 (mcells g ad w) 0 0 88 [(2, .long z16_q)] []) ?_ 5000 (j12_0, 0) z16 hlz16 ?_
    · intro s16 rL hf hin hout
      unfold X9_price_L16 at hf
      have j80 : ∀ (j80_0 : Int32) (j80_1 : Int64) (j80_2 : Int64), X9_price_J80 j80_0 j80_1 j80_2 = some rL → V p l e (k2_rm 0 0) s m args below meth c (inW (mcells g ad w)) (EN below args s g (mcells g ad w) (mcells g ad w) (some (.long rr))) g 5 (mcells g ad w) 0 0 80 [(0, .ref (ad 0)), (1, .int a0), (4, .int j80_0)] [.long j80_2, .long j80_1] := by
        intro j80_0 j80_1 j80_2 hf
        unfold X9_price_J80 at hf
        refine v_ladd hG dX9_price_80 ?_
        refine v_lstore_n hG [(2, _), (0, _), (1, _), (4, _)] dX9_price_81 rfl (by decide) rfl ?_
        refine v_iinc hG 3 (v := j80_0 + 1) [(4, _), (2, _), (0, _), (1, _)] dX9_price_82 rfl rfl (by decide) rfl ?_
        refine v_goto hG 16 dX9_price_85 rfl ?_
        refine v_sub [(0, _), (1, _), (2, _), (4, _)] [2, 3, 1, 0] rfl ?_
        exact hin _ (Option.some.inj hf).symm
      refine v_iload hG 3 rfl dX9_price_16 ?_
      refine v_aload_n hG 0 rfl rfl dX9_price_18 ?_
      refine m_g_0_1 hG wk_1067 dX9_price_19 ?_
      refine v_icmp_ge hG 88 dX9_price_22 rfl hf (fun hf => ?_) (fun hf => ?_)
      · refine v_sub [(2, _)] [2] rfl ?_
        exact hout _ (Option.some.inj hf).symm
      · refine v_lload_n hG 2 rfl rfl dX9_price_25 ?_
        refine v_iload_n hG 1 rfl rfl dX9_price_26 ?_
        refine v_if_ne hG 50 dX9_price_27 rfl hf (fun hf => ?_) (fun hf => ?_)
        · refine v_aload_n hG 0 rfl rfl dX9_price_50 ?_
          refine m_g_0_10 hG wk_1076 dX9_price_51 ?_
          refine v_iload hG 3 rfl dX9_price_54 ?_
          refine m_l_7 hG dX9_price_56 hf (fun hf => ?_)
          refine v_if_ne hG 79 dX9_price_57 rfl hf (fun hf => ?_) (fun hf => ?_)
          · refine v_lconst hG (v := 0) (by decide) dX9_price_79 ?_
            refine v_sub [(0, _), (1, _), (4, _)] [0, 1, 3] rfl ?_
            exact j80 s16.2 s16.1 0 hf
          · refine v_aload_n hG 0 rfl rfl dX9_price_60 ?_
            refine m_g_0_15 hG wk_1081 dX9_price_61 ?_
            refine v_iload hG 3 rfl dX9_price_64 ?_
            refine m_l_12 hG dX9_price_66 hf (fun hf => ?_)
            refine v_aload_n hG 0 rfl rfl dX9_price_67 ?_
            refine m_g_0_40 hG wk_1106 dX9_price_68 ?_
            refine v_iload hG 3 rfl dX9_price_71 ?_
            refine m_l_30 hG dX9_price_73 hf (fun hf => ?_)
            refine v_i2l hG dX9_price_74 ?_
            refine v_lmul hG dX9_price_75 ?_
            refine v_goto hG 80 dX9_price_76 rfl ?_
            refine v_sub [(0, _), (1, _), (4, _)] [0, 1, 3] rfl ?_
            exact j80 s16.2 s16.1 (((gM_cost w) s16.2.toNatClampNeg) * (((gM_point w) s16.2.toNatClampNeg).toInt64)) hf
        · refine v_aload_n hG 0 rfl rfl dX9_price_30 ?_
          refine m_g_0_5 hG wk_1071 dX9_price_31 ?_
          refine v_iload hG 3 rfl dX9_price_34 ?_
          refine m_l_3 hG dX9_price_36 hf (fun hf => ?_)
          refine v_i2l hG dX9_price_37 ?_
          refine v_aload_n hG 0 rfl rfl dX9_price_38 ?_
          refine m_g_0_40 hG wk_1106 dX9_price_39 ?_
          refine v_iload hG 3 rfl dX9_price_42 ?_
          refine m_l_30 hG dX9_price_44 hf (fun hf => ?_)
          refine v_i2l hG dX9_price_45 ?_
          refine v_lmul hG dX9_price_46 ?_
          refine v_goto hG 80 dX9_price_47 rfl ?_
          refine v_sub [(0, _), (1, _), (4, _)] [0, 1, 3] rfl ?_
          exact j80 s16.2 s16.1 ((((gM_costs w) s16.2.toNatClampNeg).toInt64) * (((gM_point w) s16.2.toNatClampNeg).toInt64)) hf
    · show V p l e (k2_rm 0 0) s m args below meth c (inW (mcells g ad w)) (EN below args s g (mcells g ad w) (mcells g ad w) (some (.long rr))) g 5 (mcells g ad w) 0 0 88 [(2, .long z16)] []
      refine v_lload_n hG 0 rfl rfl dX9_price_88 ?_
      cases hf
      exact v_lret hG hr dX9_price_89
  refine v_iload_n hG 1 rfl rfl dX9_price_0 ?_
  refine v_if_eq hG 11 dX9_price_1 rfl hf (fun hf => ?_) (fun hf => ?_)
  · refine v_lconst hG (v := 0) (by decide) dX9_price_11 ?_
    exact j12 0 hf
  · refine v_aload_n hG 0 rfl rfl dX9_price_4 ?_
    refine m_g_0_21 hG wk_1087 dX9_price_5 ?_
    refine v_goto hG 12 dX9_price_8 rfl ?_
    exact j12 (gM_offset w) hf
def X9_best_J122  (j122_0 : Int32) (j122_1 : Int32) : Option ((Int32 × Int32) ⊕ ((Int32))) := (some (.inl (j122_1, (j122_0 + 1))))
def X9_best_J121  (j121_0 : Int32) : Option ((Int32 × Int32) ⊕ ((Int32))) := (X9_best_J122 j121_0 0)
def X9_best_J117  (j117_0 : Int32) : Option ((Int32 × Int32) ⊕ ((Int32))) := (X9_best_J122 j117_0 1)
def X9_best_L78 (a0 : Int32) (s67 : MW × Int32) (s78 : Int32 × Int32) : Option ((Int32 × Int32) ⊕ ((Int32))) := (if (gM_rows s67.1) ≤ s78.2 then (some (.inr s78.1)) else (if s78.1 = 0 then (X9_best_J121 s78.2) else (if a0 = 0 then ((X9_holds s67.1 s78.2).bind (fun r111 : Int32 => (if r111 = 0 then (X9_best_J121 s78.2) else (X9_best_J117 s78.2)))) else ((X9_holdsSmall s67.1 s78.2).bind (fun r99 : Int32 => (if r99 = 0 then (X9_best_J121 s78.2) else (X9_best_J117 s78.2)))))))
def X9_best_J202 (a0 : Int32) (j202_0 : MW) (j202_1 : Int32) : Option ((MW × Int32) ⊕ ((MW))) := ((X9_nextPoint j202_0 a0).bind (fun r204 : MW => (some (.inl (r204, (j202_1 + 1))))))
def X9_best_L173  (s173 : MW × Int32) : Option ((MW × Int32) ⊕ ((MW))) := (if (gM_columns s173.1) ≤ s173.2 then (some (.inr s173.1)) else (if inR s173.2 12 = true then (if inR s173.2 12 = true then (bnd (sM_best s173.1 (upd (gM_best s173.1) s173.2.toNatClampNeg ((gM_point s173.1) s173.2.toNatClampNeg))) (fun w195 : MW => (some (.inl (w195, (s173.2 + 1)))))) else none) else none))
def X9_best_J159 (a0 : Int32) (j159_0 : MW) (j159_1 : Int32) (j159_2 : Int64) : Option ((MW × Int32) ⊕ ((MW))) := (bnd (sM_hasBest j159_0 1) (fun w161 : MW => (bnd (sM_bestValue w161 j159_2) (fun w167 : MW => ((iter (X9_best_L173) 5000 (w167, 0)).bind (fun z173 : (MW) => (X9_best_J202 a0 z173 j159_1)))))))
def X9_best_L67 (a0 : Int32) (r47 : Int32) (s67 : MW × Int32) : Option ((MW × Int32) ⊕ ((MW))) := (if r47 ≤ s67.2 then (some (.inr s67.1)) else ((iter (X9_best_L78 a0 s67) 5000 (1, 0)).bind (fun z78 : (Int32) => ((X9_price s67.1 a0).bind (fun r132 : Int64 => (if z78 = 0 then (X9_best_J202 a0 s67.1 s67.2) else (if (gM_hasBest s67.1) = 0 then (X9_best_J159 a0 s67.1 s67.2 r132) else (if (gM_bestValue s67.1) ≤ r132 then (X9_best_J202 a0 s67.1 s67.2) else (X9_best_J159 a0 s67.1 s67.2 r132)))))))))
def X9_best_J45 (a0 : Int32) (j45_0 : MW) : Option (Int32 × MW) := ((X9_points j45_0 a0).bind (fun r47 : Int32 => (if r47 ≤ 4000 then ((X9_firstPoint j45_0 a0).bind (fun r62 : MW => ((iter (X9_best_L67 a0 r47) 5000 (r62, 0)).bind (fun z67 : (MW) => (if (gM_hasBest z67) = 0 then (some (0, z67)) else (some (1, z67))))))) else (some ((-1), j45_0)))))
def X9_best_J17 (a0 : Int32) (j17_0 : MW) (j17_1 : Int32) : Option (Int32 × MW) := ((X9_passes j17_0 j17_1 0).bind (fun r18 : Int32 × MW => (if r18.1 = 0 then (some (0, r18.2)) else (bnd (sM_hasBest r18.2 0) (fun w28 : MW => (if a0 = 0 then (X9_best_J45 a0 w28) else (if (gM_certificate w28) = (-1) then (X9_best_J45 a0 w28) else (some (0, w28)))))))))
def X9_best_J16 (a0 : Int32) (j16_0 : MW) : Option (Int32 × MW) := (X9_best_J17 a0 j16_0 0)
def X9_best (w : MW) (a0 : Int32) : Option (Int32 × MW) := (if a0 = 0 then (X9_best_J16 a0 w) else (if (gM_isSmall w) = 0 then (X9_best_J17 a0 w 1) else (X9_best_J16 a0 w)))
set_option maxRecDepth 100000 in
set_option maxHeartbeats 4000000 in
theorem ct_X9_best (l : Launch) (g : wG) (ad : Nat → Nat) (w : MW) (a0 : Int32) (rr : Int32 × MW) (hf : X9_best w a0 = some rr) : MetN l g yX9_best cX9_best 8 (some .int) (k2_rm 2 46) [.ref (ad 0), .int a0] (mcells g ad w) (mcells g ad rr.2) (some (.int rr.1)) := by
  refine MetN.of2 [(0, .ref (ad 0)), (1, .int a0)] rfl (by decide +kernel) (Nat.le_of_ble_eq_true rfl) ?_
  intro p e s m args below meth c hG hr
  unfold X9_best at hf
  have j45 : ∀ (j45_0 : MW), X9_best_J45 a0 j45_0 = some rr → V p l e (k2_rm 2 46) s m args below meth c (inW (mcells g ad w)) (EN below args s g (mcells g ad w) (mcells g ad rr.2) (some (.int rr.1))) g 8 (mcells g ad j45_0) 0 0 45 [(0, .ref (ad 0)), (1, .int a0)] [] := by
    intro j45_0 hf
    unfold X9_best_J45 at hf
    refine v_aload_n hG 0 rfl rfl dX9_best_45 ?_
    refine v_iload_n hG 1 rfl rfl dX9_best_46 ?_
    obtain ⟨r47, hr47, hf⟩ := bd_some hf
    refine v_callV hG (st := []) 0 9 (ct_X9_points l g ad j45_0 a0 r47 hr47) iw_X9_points wk_1441 rfl rfl ⟨rfl, rfl, Nat.le_of_ble_eq_true rfl, Nat.le_of_ble_eq_true rfl⟩ ⟨Nat.le_of_ble_eq_true rfl, Nat.le_of_ble_eq_true rfl⟩ rfl rfl (Nat.le_of_ble_eq_true rfl) (mcells_fst _ _ _ _) dX9_best_47 ?_
    refine (show V p l e (k2_rm 2 46) s m args below meth c (inW (mcells g ad w)) (EN below args s g (mcells g ad w) (mcells g ad rr.2) (some (.int rr.1))) g 8 (mcells g ad j45_0) 0 0 50 [(0, .ref (ad 0)), (1, .int a0)] [.int r47] from ?_)
    refine v_istore_n hG [(2, _), (0, _), (1, _)] dX9_best_50 rfl (by decide) rfl ?_
    refine v_iload_n hG 0 rfl rfl dX9_best_51 ?_
    refine v_sipush hG (v := 4000) (by decide) dX9_best_52 ?_
    refine v_icmp_le hG 60 dX9_best_55 rfl hf (fun hf => ?_) (fun hf => ?_)
    · refine v_aload_n hG 1 rfl rfl dX9_best_60 ?_
      refine v_iload_n hG 2 rfl rfl dX9_best_61 ?_
      obtain ⟨r62, hr62, hf⟩ := bd_some hf
      refine v_callV hG (st := []) 0 9 (ct_X9_firstPoint l g ad j45_0 a0 r62 hr62) iw_X9_firstPoint wk_1447 rfl rfl ⟨rfl, rfl, Nat.le_of_ble_eq_true rfl, Nat.le_of_ble_eq_true rfl⟩ ⟨Nat.le_of_ble_eq_true rfl, Nat.le_of_ble_eq_true rfl⟩ rfl rfl (Nat.le_of_ble_eq_true rfl) (mcells_fst _ _ _ _) dX9_best_62 ?_
      refine (show V p l e (k2_rm 2 46) s m args below meth c (inW (mcells g ad w)) (EN below args s g (mcells g ad w) (mcells g ad rr.2) (some (.int rr.1))) g 8 (mcells g ad r62) 0 0 65 [(2, .int r47), (0, .ref (ad 0)), (1, .int a0)] [] from ?_)
      refine v_iconst hG (v := 0) (by decide) dX9_best_65 ?_
      refine v_istore_n hG [(3, _), (2, _), (0, _), (1, _)] dX9_best_66 rfl (by decide) rfl ?_
      refine v_sub [(0, _), (1, _), (2, _), (3, _)] [2, 3, 1, 0] rfl ?_
      obtain ⟨z67, hlz67, hf⟩ := bd_some hf
      refine loop_v (step := X9_best_L67 a0 r47) (fun s67 : MW × Int32 => V p l e (k2_rm 2 46) s m args below meth c (inW (mcells g ad w)) (EN below args s g (mcells g ad w) (mcells g ad rr.2) (some (.int rr.1))) g 8 (mcells g ad s67.1) 0 0 67 [(0, .ref (ad 0)), (1, .int a0), (2, .int r47), (3, .int s67.2)] []) (fun z67_q : (MW) => V p l e (k2_rm 2 46) s m args below meth c (inW (mcells g ad w)) (EN below args s g (mcells g ad w) (mcells g ad rr.2) (some (.int rr.1))) g 8 (mcells g ad z67_q) 0 0 213 [(0, .ref (ad 0))] []) ?_ 5000 (r62, 0) z67 hlz67 ?_
      · intro s67 rL hf hin hout
        unfold X9_best_L67 at hf
        have j202 : ∀ (j202_0 : MW) (j202_1 : Int32), X9_best_J202 a0 j202_0 j202_1 = some rL → V p l e (k2_rm 2 46) s m args below meth c (inW (mcells g ad w)) (EN below args s g (mcells g ad w) (mcells g ad rr.2) (some (.int rr.1))) g 8 (mcells g ad j202_0) 0 0 202 [(0, .ref (ad 0)), (1, .int a0), (2, .int r47), (3, .int j202_1)] [] := by
          intro j202_0 j202_1 hf
          unfold X9_best_J202 at hf
          refine v_aload_n hG 0 rfl rfl dX9_best_202 ?_
          refine v_iload_n hG 1 rfl rfl dX9_best_203 ?_
          obtain ⟨r204, hr204, hf⟩ := bd_some hf
          refine v_callV hG (st := []) 0 9 (ct_X9_nextPoint l g ad j202_0 a0 r204 hr204) iw_X9_nextPoint wk_1455 rfl rfl ⟨rfl, rfl, Nat.le_of_ble_eq_true rfl, Nat.le_of_ble_eq_true rfl⟩ ⟨Nat.le_of_ble_eq_true rfl, Nat.le_of_ble_eq_true rfl⟩ rfl rfl (Nat.le_of_ble_eq_true rfl) (mcells_fst _ _ _ _) dX9_best_204 ?_
          refine (show V p l e (k2_rm 2 46) s m args below meth c (inW (mcells g ad w)) (EN below args s g (mcells g ad w) (mcells g ad rr.2) (some (.int rr.1))) g 8 (mcells g ad r204) 0 0 207 [(0, .ref (ad 0)), (1, .int a0), (2, .int r47), (3, .int j202_1)] [] from ?_)
          refine v_iinc hG 3 (v := j202_1 + 1) [(3, _), (0, _), (1, _), (2, _)] dX9_best_207 rfl rfl (by decide) rfl ?_
          refine v_goto hG 67 dX9_best_210 rfl ?_
          refine v_sub [(0, _), (1, _), (2, _), (3, _)] [1, 2, 3, 0] rfl ?_
          exact hin _ (Option.some.inj hf).symm
        have j159 : ∀ (j159_0 : MW) (j159_1 : Int32) (j159_2 : Int64), X9_best_J159 a0 j159_0 j159_1 j159_2 = some rL → V p l e (k2_rm 2 46) s m args below meth c (inW (mcells g ad w)) (EN below args s g (mcells g ad w) (mcells g ad rr.2) (some (.int rr.1))) g 8 (mcells g ad j159_0) 0 0 159 [(0, .ref (ad 0)), (1, .int a0), (2, .int r47), (3, .int j159_1), (5, .long j159_2)] [] := by
          intro j159_0 j159_1 j159_2 hf
          unfold X9_best_J159 at hf
          refine v_aload_n hG 0 rfl rfl dX9_best_159 ?_
          refine v_iconst hG (v := 1) (by decide) dX9_best_160 ?_
          refine m_p_0_37 hG wk_1103 dX9_best_161 rfl rfl hf (fun w161 hf => ?_)
          refine v_aload_n hG 0 rfl rfl dX9_best_164 ?_
          refine v_lload hG 4 rfl dX9_best_165 ?_
          refine m_p_0_39 hG wk_1105 dX9_best_167 hf (fun w167 hf => ?_)
          refine v_iconst hG (v := 0) (by decide) dX9_best_170 ?_
          refine v_istore hG [(7, _), (0, _), (1, _), (2, _), (3, _), (5, _)] dX9_best_171 (by decide) rfl ?_
          refine v_sub [(0, _), (1, _), (2, _), (3, _), (7, _)] [1, 2, 3, 4, 0] rfl ?_
          obtain ⟨z173, hlz173, hf⟩ := bd_some hf
          refine loop_v (step := X9_best_L173) (fun s173 : MW × Int32 => V p l e (k2_rm 2 46) s m args below meth c (inW (mcells g ad w)) (EN below args s g (mcells g ad w) (mcells g ad rr.2) (some (.int rr.1))) g 8 (mcells g ad s173.1) 0 0 173 [(0, .ref (ad 0)), (1, .int a0), (2, .int r47), (3, .int j159_1), (7, .int s173.2)] []) (fun z173_q : (MW) => V p l e (k2_rm 2 46) s m args below meth c (inW (mcells g ad w)) (EN below args s g (mcells g ad w) (mcells g ad rr.2) (some (.int rr.1))) g 8 (mcells g ad z173_q) 0 0 202 [(0, .ref (ad 0)), (1, .int a0), (2, .int r47), (3, .int j159_1)] []) ?_ 5000 (w167, 0) z173 hlz173 ?_
          · intro s173 rL hf hin hout
            unfold X9_best_L173 at hf
            refine v_iload hG 4 rfl dX9_best_173 ?_
            refine v_aload_n hG 0 rfl rfl dX9_best_175 ?_
            refine m_g_0_1 hG wk_1067 dX9_best_176 ?_
            refine v_icmp_ge hG 202 dX9_best_179 rfl hf (fun hf => ?_) (fun hf => ?_)
            · refine v_sub [(0, _), (1, _), (2, _), (3, _)] [0, 1, 2, 3] rfl ?_
              exact hout _ (Option.some.inj hf).symm
            · refine v_aload_n hG 0 rfl rfl dX9_best_182 ?_
              refine m_g_0_38 hG wk_1104 dX9_best_183 ?_
              refine v_iload hG 4 rfl dX9_best_186 ?_
              refine v_aload_n hG 0 rfl rfl dX9_best_188 ?_
              refine m_g_0_40 hG wk_1106 dX9_best_189 ?_
              refine v_iload hG 4 rfl dX9_best_192 ?_
              refine m_l_30 hG dX9_best_194 hf (fun hf => ?_)
              refine m_s_29 hG dX9_best_195 hf (fun w195 hf => ?_)
              refine v_iinc hG 4 (v := s173.2 + 1) [(7, _), (0, _), (1, _), (2, _), (3, _)] dX9_best_196 rfl rfl (by decide) rfl ?_
              refine v_goto hG 173 dX9_best_199 rfl ?_
              refine v_sub [(0, _), (1, _), (2, _), (3, _), (7, _)] [1, 2, 3, 4, 0] rfl ?_
              exact hin _ (Option.some.inj hf).symm
          · show V p l e (k2_rm 2 46) s m args below meth c (inW (mcells g ad w)) (EN below args s g (mcells g ad w) (mcells g ad rr.2) (some (.int rr.1))) g 8 (mcells g ad z173) 0 0 202 [(0, .ref (ad 0)), (1, .int a0), (2, .int r47), (3, .int j159_1)] []
            exact j202 z173 j159_1 hf
        refine v_iload_n hG 3 rfl rfl dX9_best_67 ?_
        refine v_iload_n hG 2 rfl rfl dX9_best_68 ?_
        refine v_icmp_ge hG 213 dX9_best_69 rfl hf (fun hf => ?_) (fun hf => ?_)
        · refine v_sub [(0, _)] [0] rfl ?_
          exact hout _ (Option.some.inj hf).symm
        · refine v_iconst hG (v := 1) (by decide) dX9_best_72 ?_
          refine v_istore hG [(4, _), (0, _), (1, _), (2, _), (3, _)] dX9_best_73 (by decide) rfl ?_
          refine v_iconst hG (v := 0) (by decide) dX9_best_75 ?_
          refine v_istore hG [(5, _), (4, _), (0, _), (1, _), (2, _), (3, _)] dX9_best_76 (by decide) rfl ?_
          refine v_sub [(0, _), (1, _), (2, _), (3, _), (4, _), (5, _)] [2, 3, 4, 5, 1, 0] rfl ?_
          obtain ⟨z78, hlz78, hf⟩ := bd_some hf
          refine loop_v (step := X9_best_L78 a0 s67) (fun s78 : Int32 × Int32 => V p l e (k2_rm 2 46) s m args below meth c (inW (mcells g ad w)) (EN below args s g (mcells g ad w) (mcells g ad rr.2) (some (.int rr.1))) g 8 (mcells g ad s67.1) 0 0 78 [(0, .ref (ad 0)), (1, .int a0), (2, .int r47), (3, .int s67.2), (4, .int s78.1), (5, .int s78.2)] []) (fun z78_q : (Int32) => V p l e (k2_rm 2 46) s m args below meth c (inW (mcells g ad w)) (EN below args s g (mcells g ad w) (mcells g ad rr.2) (some (.int rr.1))) g 8 (mcells g ad s67.1) 0 0 130 [(0, .ref (ad 0)), (1, .int a0), (2, .int r47), (3, .int s67.2), (4, .int z78_q)] []) ?_ 5000 (1, 0) z78 hlz78 ?_
          · intro s78 rL hf hin hout
            unfold X9_best_L78 at hf
            have j122 : ∀ (j122_0 : Int32) (j122_1 : Int32), X9_best_J122 j122_0 j122_1 = some rL → V p l e (k2_rm 2 46) s m args below meth c (inW (mcells g ad w)) (EN below args s g (mcells g ad w) (mcells g ad rr.2) (some (.int rr.1))) g 8 (mcells g ad s67.1) 0 0 122 [(0, .ref (ad 0)), (1, .int a0), (2, .int r47), (3, .int s67.2), (5, .int j122_0)] [.int j122_1] := by
              intro j122_0 j122_1 hf
              unfold X9_best_J122 at hf
              refine v_istore hG [(4, _), (0, _), (1, _), (2, _), (3, _), (5, _)] dX9_best_122 (by decide) rfl ?_
              refine v_iinc hG 5 (v := j122_0 + 1) [(5, _), (4, _), (0, _), (1, _), (2, _), (3, _)] dX9_best_124 rfl rfl (by decide) rfl ?_
              refine v_goto hG 78 dX9_best_127 rfl ?_
              refine v_sub [(0, _), (1, _), (2, _), (3, _), (4, _), (5, _)] [2, 3, 4, 5, 1, 0] rfl ?_
              exact hin _ (Option.some.inj hf).symm
            have j121 : ∀ (j121_0 : Int32), X9_best_J121 j121_0 = some rL → V p l e (k2_rm 2 46) s m args below meth c (inW (mcells g ad w)) (EN below args s g (mcells g ad w) (mcells g ad rr.2) (some (.int rr.1))) g 8 (mcells g ad s67.1) 0 0 121 [(0, .ref (ad 0)), (1, .int a0), (2, .int r47), (3, .int s67.2), (5, .int j121_0)] [] := by
              intro j121_0 hf
              unfold X9_best_J121 at hf
              refine v_iconst hG (v := 0) (by decide) dX9_best_121 ?_
              exact j122 j121_0 0 hf
            have j117 : ∀ (j117_0 : Int32), X9_best_J117 j117_0 = some rL → V p l e (k2_rm 2 46) s m args below meth c (inW (mcells g ad w)) (EN below args s g (mcells g ad w) (mcells g ad rr.2) (some (.int rr.1))) g 8 (mcells g ad s67.1) 0 0 117 [(0, .ref (ad 0)), (1, .int a0), (2, .int r47), (3, .int s67.2), (5, .int j117_0)] [] := by
              intro j117_0 hf
              unfold X9_best_J117 at hf
              refine v_iconst hG (v := 1) (by decide) dX9_best_117 ?_
              refine v_goto hG 122 dX9_best_118 rfl ?_
              exact j122 j117_0 1 hf
            refine v_iload hG 5 rfl dX9_best_78 ?_
            refine v_aload_n hG 0 rfl rfl dX9_best_80 ?_
            refine m_g_0_2 hG wk_1068 dX9_best_81 ?_
            refine v_icmp_ge hG 130 dX9_best_84 rfl hf (fun hf => ?_) (fun hf => ?_)
            · refine v_sub [(0, _), (1, _), (2, _), (3, _), (4, _)] [0, 1, 2, 3, 4] rfl ?_
              exact hout _ (Option.some.inj hf).symm
            · refine v_iload hG 4 rfl dX9_best_87 ?_
              refine v_if_eq hG 121 dX9_best_89 rfl hf (fun hf => ?_) (fun hf => ?_)
              · refine v_sub [(0, _), (1, _), (2, _), (3, _), (5, _)] [0, 1, 2, 3, 5] rfl ?_
                exact j121 s78.2 hf
              · refine v_iload_n hG 1 rfl rfl dX9_best_92 ?_
                refine v_if_eq hG 108 dX9_best_93 rfl hf (fun hf => ?_) (fun hf => ?_)
                · refine v_aload_n hG 0 rfl rfl dX9_best_108 ?_
                  refine v_iload hG 5 rfl dX9_best_109 ?_
                  obtain ⟨r111, hr111, hf⟩ := bd_some hf
                  refine v_callV hG (st := []) 0 9 (ct_X9_holds l g ad s67.1 s78.2 r111 hr111) iw_X9_holds wk_1451 rfl rfl ⟨rfl, rfl, Nat.le_of_ble_eq_true rfl, Nat.le_of_ble_eq_true rfl⟩ ⟨Nat.le_of_ble_eq_true rfl, Nat.le_of_ble_eq_true rfl⟩ rfl rfl (Nat.le_of_ble_eq_true rfl) (mcells_fst _ _ _ _) dX9_best_111 ?_
                  refine (show V p l e (k2_rm 2 46) s m args below meth c (inW (mcells g ad w)) (EN below args s g (mcells g ad w) (mcells g ad rr.2) (some (.int rr.1))) g 8 (mcells g ad s67.1) 0 0 114 [(0, .ref (ad 0)), (1, .int a0), (2, .int r47), (3, .int s67.2), (4, .int s78.1), (5, .int s78.2)] [.int r111] from ?_)
                  refine v_if_eq hG 121 dX9_best_114 rfl hf (fun hf => ?_) (fun hf => ?_)
                  · refine v_sub [(0, _), (1, _), (2, _), (3, _), (5, _)] [0, 1, 2, 3, 5] rfl ?_
                    exact j121 s78.2 hf
                  · refine v_sub [(0, _), (1, _), (2, _), (3, _), (5, _)] [0, 1, 2, 3, 5] rfl ?_
                    exact j117 s78.2 hf
                · refine v_aload_n hG 0 rfl rfl dX9_best_96 ?_
                  refine v_iload hG 5 rfl dX9_best_97 ?_
                  obtain ⟨r99, hr99, hf⟩ := bd_some hf
                  refine v_callV hG (st := []) 0 9 (ct_X9_holdsSmall l g ad s67.1 s78.2 r99 hr99) iw_X9_holdsSmall wk_1516 rfl rfl ⟨rfl, rfl, Nat.le_of_ble_eq_true rfl, Nat.le_of_ble_eq_true rfl⟩ ⟨Nat.le_of_ble_eq_true rfl, Nat.le_of_ble_eq_true rfl⟩ rfl rfl (Nat.le_of_ble_eq_true rfl) (mcells_fst _ _ _ _) dX9_best_99 ?_
                  refine (show V p l e (k2_rm 2 46) s m args below meth c (inW (mcells g ad w)) (EN below args s g (mcells g ad w) (mcells g ad rr.2) (some (.int rr.1))) g 8 (mcells g ad s67.1) 0 0 102 [(0, .ref (ad 0)), (1, .int a0), (2, .int r47), (3, .int s67.2), (4, .int s78.1), (5, .int s78.2)] [.int r99] from ?_)
                  refine v_if_eq hG 121 dX9_best_102 rfl hf (fun hf => ?_) (fun hf => ?_)
                  · refine v_sub [(0, _), (1, _), (2, _), (3, _), (5, _)] [0, 1, 2, 3, 5] rfl ?_
                    exact j121 s78.2 hf
                  · refine v_goto hG 117 dX9_best_105 rfl ?_
                    refine v_sub [(0, _), (1, _), (2, _), (3, _), (5, _)] [0, 1, 2, 3, 5] rfl ?_
                    exact j117 s78.2 hf
          · show V p l e (k2_rm 2 46) s m args below meth c (inW (mcells g ad w)) (EN below args s g (mcells g ad w) (mcells g ad rr.2) (some (.int rr.1))) g 8 (mcells g ad s67.1) 0 0 130 [(0, .ref (ad 0)), (1, .int a0), (2, .int r47), (3, .int s67.2), (4, .int z78)] []
            refine v_aload_n hG 0 rfl rfl dX9_best_130 ?_
            refine v_iload_n hG 1 rfl rfl dX9_best_131 ?_
            obtain ⟨r132, hr132, hf⟩ := bd_some hf
            refine v_callV hG (st := []) 0 9 (ct_X9_price l g ad s67.1 a0 r132 hr132) iw_X9_price wk_1520 rfl rfl ⟨rfl, rfl, Nat.le_of_ble_eq_true rfl, Nat.le_of_ble_eq_true rfl⟩ ⟨Nat.le_of_ble_eq_true rfl, Nat.le_of_ble_eq_true rfl⟩ rfl rfl (Nat.le_of_ble_eq_true rfl) (mcells_fst _ _ _ _) dX9_best_132 ?_
            refine (show V p l e (k2_rm 2 46) s m args below meth c (inW (mcells g ad w)) (EN below args s g (mcells g ad w) (mcells g ad rr.2) (some (.int rr.1))) g 8 (mcells g ad s67.1) 0 0 135 [(0, .ref (ad 0)), (1, .int a0), (2, .int r47), (3, .int s67.2), (4, .int z78)] [.long r132] from ?_)
            refine v_lstore hG [(5, _), (0, _), (1, _), (2, _), (3, _), (4, _)] dX9_best_135 (by decide) rfl ?_
            refine v_iload hG 5 rfl dX9_best_137 ?_
            refine v_if_eq hG 202 dX9_best_139 rfl hf (fun hf => ?_) (fun hf => ?_)
            · refine v_sub [(0, _), (1, _), (2, _), (3, _)] [1, 2, 3, 4] rfl ?_
              exact j202 s67.1 s67.2 hf
            · refine v_aload_n hG 1 rfl rfl dX9_best_142 ?_
              refine m_g_0_37 hG wk_1103 dX9_best_143 ?_
              refine v_if_eq hG 159 dX9_best_146 rfl hf (fun hf => ?_) (fun hf => ?_)
              · refine v_sub [(0, _), (1, _), (2, _), (3, _), (5, _)] [1, 2, 3, 4, 0] rfl ?_
                exact j159 s67.1 s67.2 r132 hf
              · refine v_lload hG 0 rfl dX9_best_149 ?_
                refine v_aload_n hG 1 rfl rfl dX9_best_151 ?_
                refine m_g_0_39 hG wk_1105 dX9_best_152 ?_
                refine v_lcmp_ge hG 202 dX9_best_155 dX9_best_156 rfl hf (fun hf => ?_) (fun hf => ?_)
                · refine v_sub [(0, _), (1, _), (2, _), (3, _)] [1, 2, 3, 4] rfl ?_
                  exact j202 s67.1 s67.2 hf
                · refine v_sub [(0, _), (1, _), (2, _), (3, _), (5, _)] [1, 2, 3, 4, 0] rfl ?_
                  exact j159 s67.1 s67.2 r132 hf
      · show V p l e (k2_rm 2 46) s m args below meth c (inW (mcells g ad w)) (EN below args s g (mcells g ad w) (mcells g ad rr.2) (some (.int rr.1))) g 8 (mcells g ad z67) 0 0 213 [(0, .ref (ad 0))] []
        refine v_aload_n hG 0 rfl rfl dX9_best_213 ?_
        refine m_g_0_37 hG wk_1103 dX9_best_214 ?_
        refine v_if_eq hG 224 dX9_best_217 rfl hf (fun hf => ?_) (fun hf => ?_)
        · refine v_iconst hG (v := 0) (by decide) dX9_best_224 ?_
          cases hf
          exact v_iret hG hr dX9_best_225
        · refine v_iconst hG (v := 1) (by decide) dX9_best_220 ?_
          refine v_goto hG 225 dX9_best_221 rfl ?_
          cases hf
          exact v_iret hG hr dX9_best_225
    · refine v_iconst hG (v := -1) (by decide) dX9_best_58 ?_
      cases hf
      exact v_iret hG hr dX9_best_59
  have j17 : ∀ (j17_0 : MW) (j17_1 : Int32), X9_best_J17 a0 j17_0 j17_1 = some rr → V p l e (k2_rm 2 46) s m args below meth c (inW (mcells g ad w)) (EN below args s g (mcells g ad w) (mcells g ad rr.2) (some (.int rr.1))) g 8 (mcells g ad j17_0) 0 0 17 [(0, .ref (ad 0)), (1, .int a0)] [.int j17_1, .ref (ad 0)] := by
    intro j17_0 j17_1 hf
    unfold X9_best_J17 at hf
    refine v_iconst hG (v := 0) (by decide) dX9_best_17 ?_
    obtain ⟨r18, hr18, hf⟩ := bd_some hf
    refine v_callV hG (st := []) 0 9 (ct_X9_passes l g ad j17_0 j17_1 0 r18 hr18) iw_X9_passes wk_1212 rfl rfl ⟨rfl, rfl, Nat.le_of_ble_eq_true rfl, Nat.le_of_ble_eq_true rfl⟩ ⟨Nat.le_of_ble_eq_true rfl, Nat.le_of_ble_eq_true rfl⟩ rfl rfl (Nat.le_of_ble_eq_true rfl) (mcells_fst _ _ _ _) dX9_best_18 ?_
    refine (show V p l e (k2_rm 2 46) s m args below meth c (inW (mcells g ad w)) (EN below args s g (mcells g ad w) (mcells g ad rr.2) (some (.int rr.1))) g 8 (mcells g ad r18.2) 0 0 21 [(0, .ref (ad 0)), (1, .int a0)] [.int r18.1] from ?_)
    refine v_if_ne hG 26 dX9_best_21 rfl hf (fun hf => ?_) (fun hf => ?_)
    · refine v_aload_n hG 0 rfl rfl dX9_best_26 ?_
      refine v_iconst hG (v := 0) (by decide) dX9_best_27 ?_
      refine m_p_0_37 hG wk_1103 dX9_best_28 rfl rfl hf (fun w28 hf => ?_)
      refine v_iload_n hG 1 rfl rfl dX9_best_31 ?_
      refine v_if_eq hG 45 dX9_best_32 rfl hf (fun hf => ?_) (fun hf => ?_)
      · exact j45 w28 hf
      · refine v_aload_n hG 0 rfl rfl dX9_best_35 ?_
        refine m_g_0_22 hG wk_1088 dX9_best_36 ?_
        refine v_iconst hG (v := -1) (by decide) dX9_best_39 ?_
        refine v_icmp_eq hG 45 dX9_best_40 rfl hf (fun hf => ?_) (fun hf => ?_)
        · exact j45 w28 hf
        · refine v_iconst hG (v := 0) (by decide) dX9_best_43 ?_
          cases hf
          exact v_iret hG hr dX9_best_44
    · refine v_iconst hG (v := 0) (by decide) dX9_best_24 ?_
      cases hf
      exact v_iret hG hr dX9_best_25
  have j16 : ∀ (j16_0 : MW), X9_best_J16 a0 j16_0 = some rr → V p l e (k2_rm 2 46) s m args below meth c (inW (mcells g ad w)) (EN below args s g (mcells g ad w) (mcells g ad rr.2) (some (.int rr.1))) g 8 (mcells g ad j16_0) 0 0 16 [(0, .ref (ad 0)), (1, .int a0)] [.ref (ad 0)] := by
    intro j16_0 hf
    unfold X9_best_J16 at hf
    refine v_iconst hG (v := 0) (by decide) dX9_best_16 ?_
    exact j17 j16_0 0 hf
  refine v_aload_n hG 0 rfl rfl dX9_best_0 ?_
  refine v_iload_n hG 1 rfl rfl dX9_best_1 ?_
  refine v_if_eq hG 16 dX9_best_2 rfl hf (fun hf => ?_) (fun hf => ?_)
  · exact j16 w hf
  · refine v_aload_n hG 0 rfl rfl dX9_best_5 ?_
    refine m_g_0_9 hG wk_1075 dX9_best_6 ?_
    refine v_if_ne hG 16 dX9_best_9 rfl hf (fun hf => ?_) (fun hf => ?_)
    · exact j16 w hf
    · refine v_iconst hG (v := 1) (by decide) dX9_best_12 ?_
      refine v_goto hG 17 dX9_best_13 rfl ?_
      exact j17 w 1 hf
def X9_bestValue_J13  (j13_0 : MW) (j13_1 : Int32) : Option (Int64 × MW) := ((X9_passes j13_0 j13_1 0).bind (fun r14 : Int32 × MW => (if r14.1 = 0 then (some (0, r14.2)) else (some ((gM_bestValue r14.2), r14.2)))))
def X9_bestValue (w : MW) : Option (Int64 × MW) := (if (gM_hasBest w) = 0 then (X9_bestValue_J13 w 1) else (X9_bestValue_J13 w 0))
set_option maxRecDepth 100000 in
set_option maxHeartbeats 4000000 in
theorem ct_X9_bestValue (l : Launch) (g : wG) (ad : Nat → Nat) (w : MW)  (rr : Int64 × MW) (hf : X9_bestValue w = some rr) : MetN l g yX9_bestValue cX9_bestValue 1 (some .long) (k2_rm 1 22) [.ref (ad 0)] (mcells g ad w) (mcells g ad rr.2) (some (.long rr.1)) := by
  refine MetN.of2 [(0, .ref (ad 0))] rfl (by decide +kernel) (Nat.le_of_ble_eq_true rfl) ?_
  intro p e s m args below meth c hG hr
  unfold X9_bestValue at hf
  have j13 : ∀ (j13_0 : MW) (j13_1 : Int32), X9_bestValue_J13 j13_0 j13_1 = some rr → V p l e (k2_rm 1 22) s m args below meth c (inW (mcells g ad w)) (EN below args s g (mcells g ad w) (mcells g ad rr.2) (some (.long rr.1))) g 1 (mcells g ad j13_0) 0 0 13 [(0, .ref (ad 0))] [.int j13_1, .ref (ad 0)] := by
    intro j13_0 j13_1 hf
    unfold X9_bestValue_J13 at hf
    refine v_iconst hG (v := 0) (by decide) dX9_bestValue_13 ?_
    obtain ⟨r14, hr14, hf⟩ := bd_some hf
    refine v_callV hG (st := []) 0 9 (ct_X9_passes l g ad j13_0 j13_1 0 r14 hr14) iw_X9_passes wk_1212 rfl rfl ⟨rfl, rfl, Nat.le_of_ble_eq_true rfl, Nat.le_of_ble_eq_true rfl⟩ ⟨Nat.le_of_ble_eq_true rfl, Nat.le_of_ble_eq_true rfl⟩ rfl rfl (Nat.le_of_ble_eq_true rfl) (mcells_fst _ _ _ _) dX9_bestValue_14 ?_
    refine (show V p l e (k2_rm 1 22) s m args below meth c (inW (mcells g ad w)) (EN below args s g (mcells g ad w) (mcells g ad rr.2) (some (.long rr.1))) g 1 (mcells g ad r14.2) 0 0 17 [(0, .ref (ad 0))] [.int r14.1] from ?_)
    refine v_if_eq hG 27 dX9_bestValue_17 rfl hf (fun hf => ?_) (fun hf => ?_)
    · refine v_lconst hG (v := 0) (by decide) dX9_bestValue_27 ?_
      cases hf
      exact v_lret hG hr dX9_bestValue_28
    · refine v_aload_n hG 0 rfl rfl dX9_bestValue_20 ?_
      refine m_g_0_39 hG wk_1105 dX9_bestValue_21 ?_
      refine v_goto hG 28 dX9_bestValue_24 rfl ?_
      cases hf
      exact v_lret hG hr dX9_bestValue_28
  refine v_aload_n hG 0 rfl rfl dX9_bestValue_0 ?_
  refine v_aload_n hG 0 rfl rfl dX9_bestValue_1 ?_
  refine m_g_0_37 hG wk_1103 dX9_bestValue_2 ?_
  refine v_if_ne hG 12 dX9_bestValue_5 rfl hf (fun hf => ?_) (fun hf => ?_)
  · refine v_iconst hG (v := 0) (by decide) dX9_bestValue_12 ?_
    exact j13 w 0 hf
  · refine v_iconst hG (v := 1) (by decide) dX9_bestValue_8 ?_
    refine v_goto hG 13 dX9_bestValue_9 rfl ?_
    exact j13 w 1 hf
def X9_bestAt_J26 (a0 : Int32) (j26_0 : MW) (j26_1 : Int32) (j26_2 : Int32) : Option (Int32 × MW) := ((X9_passes j26_0 j26_1 j26_2).bind (fun r26 : Int32 × MW => (if r26.1 = 0 then (some (0, r26.2)) else (if inR a0 12 = true then (some (((gM_best r26.2) a0.toNatClampNeg), r26.2)) else none))))
def X9_bestAt_J13 (a0 : Int32) (j13_0 : MW) (j13_1 : Int32) : Option (Int32 × MW) := ((X9_isColumn j13_0 a0).bind (fun r15 : Int32 => (if r15 = 0 then (X9_bestAt_J26 a0 j13_0 j13_1 1) else (X9_bestAt_J26 a0 j13_0 j13_1 0))))
def X9_bestAt (w : MW) (a0 : Int32) : Option (Int32 × MW) := (if (gM_hasBest w) = 0 then (X9_bestAt_J13 a0 w 1) else (X9_bestAt_J13 a0 w 0))
set_option maxRecDepth 100000 in
set_option maxHeartbeats 4000000 in
theorem ct_X9_bestAt (l : Launch) (g : wG) (ad : Nat → Nat) (w : MW) (a0 : Int32) (rr : Int32 × MW) (hf : X9_bestAt w a0 = some rr) : MetN l g yX9_bestAt cX9_bestAt 2 (some .int) (k2_rm 2 46) [.ref (ad 0), .int a0] (mcells g ad w) (mcells g ad rr.2) (some (.int rr.1)) := by
  refine MetN.of2 [(0, .ref (ad 0)), (1, .int a0)] rfl (by decide +kernel) (Nat.le_of_ble_eq_true rfl) ?_
  intro p e s m args below meth c hG hr
  unfold X9_bestAt at hf
  have j26 : ∀ (j26_0 : MW) (j26_1 : Int32) (j26_2 : Int32), X9_bestAt_J26 a0 j26_0 j26_1 j26_2 = some rr → V p l e (k2_rm 2 46) s m args below meth c (inW (mcells g ad w)) (EN below args s g (mcells g ad w) (mcells g ad rr.2) (some (.int rr.1))) g 2 (mcells g ad j26_0) 0 0 26 [(0, .ref (ad 0)), (1, .int a0)] [.int j26_2, .int j26_1, .ref (ad 0)] := by
    intro j26_0 j26_1 j26_2 hf
    unfold X9_bestAt_J26 at hf
    obtain ⟨r26, hr26, hf⟩ := bd_some hf
    refine v_callV hG (st := []) 0 9 (ct_X9_passes l g ad j26_0 j26_1 j26_2 r26 hr26) iw_X9_passes wk_1212 rfl rfl ⟨rfl, rfl, Nat.le_of_ble_eq_true rfl, Nat.le_of_ble_eq_true rfl⟩ ⟨Nat.le_of_ble_eq_true rfl, Nat.le_of_ble_eq_true rfl⟩ rfl rfl (Nat.le_of_ble_eq_true rfl) (mcells_fst _ _ _ _) dX9_bestAt_26 ?_
    refine (show V p l e (k2_rm 2 46) s m args below meth c (inW (mcells g ad w)) (EN below args s g (mcells g ad w) (mcells g ad rr.2) (some (.int rr.1))) g 2 (mcells g ad r26.2) 0 0 29 [(0, .ref (ad 0)), (1, .int a0)] [.int r26.1] from ?_)
    refine v_if_eq hG 41 dX9_bestAt_29 rfl hf (fun hf => ?_) (fun hf => ?_)
    · refine v_iconst hG (v := 0) (by decide) dX9_bestAt_41 ?_
      cases hf
      exact v_iret hG hr dX9_bestAt_42
    · refine v_aload_n hG 0 rfl rfl dX9_bestAt_32 ?_
      refine m_g_0_38 hG wk_1104 dX9_bestAt_33 ?_
      refine v_iload_n hG 1 rfl rfl dX9_bestAt_36 ?_
      refine m_l_29 hG dX9_bestAt_37 hf (fun hf => ?_)
      refine v_goto hG 42 dX9_bestAt_38 rfl ?_
      cases hf
      exact v_iret hG hr dX9_bestAt_42
  have j13 : ∀ (j13_0 : MW) (j13_1 : Int32), X9_bestAt_J13 a0 j13_0 j13_1 = some rr → V p l e (k2_rm 2 46) s m args below meth c (inW (mcells g ad w)) (EN below args s g (mcells g ad w) (mcells g ad rr.2) (some (.int rr.1))) g 2 (mcells g ad j13_0) 0 0 13 [(0, .ref (ad 0)), (1, .int a0)] [.int j13_1, .ref (ad 0)] := by
    intro j13_0 j13_1 hf
    unfold X9_bestAt_J13 at hf
    refine v_aload_n hG 0 rfl rfl dX9_bestAt_13 ?_
    refine v_iload_n hG 1 rfl rfl dX9_bestAt_14 ?_
    obtain ⟨r15, hr15, hf⟩ := bd_some hf
    refine v_callV hG (st := [.int j13_1, .ref (ad 0)]) 0 9 (ct_X9_isColumn l g ad j13_0 a0 r15 hr15) iw_X9_isColumn wk_1238 rfl rfl ⟨rfl, rfl, Nat.le_of_ble_eq_true rfl, Nat.le_of_ble_eq_true rfl⟩ ⟨Nat.le_of_ble_eq_true rfl, Nat.le_of_ble_eq_true rfl⟩ rfl rfl (Nat.le_of_ble_eq_true rfl) (mcells_fst _ _ _ _) dX9_bestAt_15 ?_
    refine (show V p l e (k2_rm 2 46) s m args below meth c (inW (mcells g ad w)) (EN below args s g (mcells g ad w) (mcells g ad rr.2) (some (.int rr.1))) g 2 (mcells g ad j13_0) 0 0 18 [(0, .ref (ad 0)), (1, .int a0)] [.int r15, .int j13_1, .ref (ad 0)] from ?_)
    refine v_if_ne hG 25 dX9_bestAt_18 rfl hf (fun hf => ?_) (fun hf => ?_)
    · refine v_iconst hG (v := 0) (by decide) dX9_bestAt_25 ?_
      exact j26 j13_0 j13_1 0 hf
    · refine v_iconst hG (v := 1) (by decide) dX9_bestAt_21 ?_
      refine v_goto hG 26 dX9_bestAt_22 rfl ?_
      exact j26 j13_0 j13_1 1 hf
  refine v_aload_n hG 0 rfl rfl dX9_bestAt_0 ?_
  refine v_aload_n hG 0 rfl rfl dX9_bestAt_1 ?_
  refine m_g_0_37 hG wk_1103 dX9_bestAt_2 ?_
  refine v_if_ne hG 12 dX9_bestAt_5 rfl hf (fun hf => ?_) (fun hf => ?_)
  · refine v_iconst hG (v := 0) (by decide) dX9_bestAt_12 ?_
    exact j13 w 0 hf
  · refine v_iconst hG (v := 1) (by decide) dX9_bestAt_8 ?_
    refine v_goto hG 13 dX9_bestAt_9 rfl ?_
    exact j13 w 1 hf
