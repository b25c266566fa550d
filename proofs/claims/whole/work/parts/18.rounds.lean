def X3_isByColumns_J18   : Option (Int32) := (some 1)
def X3_isByColumns (a0 : Int32) : Option (Int32) := (if a0 = 6 then (X3_isByColumns_J18 ) else (if a0 = 8 then (X3_isByColumns_J18 ) else (if a0 = 11 then (X3_isByColumns_J18 ) else (some 0))))
set_option maxRecDepth 100000 in
set_option maxHeartbeats 4000000 in
theorem ct_X3_isByColumns (l : Launch) (g : wG) (a0 : Int32) (rr : Int32) (hf : X3_isByColumns a0 = some rr) : MetN l g yX3_isByColumns cX3_isByColumns 1 (some .boolean) (k2_rm 0 0) [.int a0] [] [] (some (.int rr)) := by
  refine MetN.of2 [(0, .int a0)] rfl (by decide +kernel) (Nat.le_of_ble_eq_true rfl) ?_
  intro p e s m args below meth c hG hr
  unfold X3_isByColumns at hf
  have j18 : X3_isByColumns_J18  = some rr → V p l e (k2_rm 0 0) s m args below meth c (inW []) (EN below args s g [] [] (some (.int rr))) g 1 [] 0 0 18 [] [] := by
    intro hf
    unfold X3_isByColumns_J18 at hf
    refine v_iconst hG (v := 1) (by decide) dX3_isByColumns_18 ?_
    refine v_goto hG 23 dX3_isByColumns_19 rfl ?_
    cases hf
    exact v_zret (x := 1) hG hr rfl dX3_isByColumns_23
  refine v_iload_n hG 0 rfl rfl dX3_isByColumns_0 ?_
  refine v_bipush hG (v := 6) (by decide) dX3_isByColumns_1 ?_
  refine v_icmp_eq hG 18 dX3_isByColumns_3 rfl hf (fun hf => ?_) (fun hf => ?_)
  · refine v_sub [] [] rfl ?_
    exact j18  hf
  · refine v_iload_n hG 0 rfl rfl dX3_isByColumns_6 ?_
    refine v_bipush hG (v := 8) (by decide) dX3_isByColumns_7 ?_
    refine v_icmp_eq hG 18 dX3_isByColumns_9 rfl hf (fun hf => ?_) (fun hf => ?_)
    · refine v_sub [] [] rfl ?_
      exact j18  hf
    · refine v_iload_n hG 0 rfl rfl dX3_isByColumns_12 ?_
      refine v_bipush hG (v := 11) (by decide) dX3_isByColumns_13 ?_
      refine v_icmp_ne hG 22 dX3_isByColumns_15 rfl hf (fun hf => ?_) (fun hf => ?_)
      · refine v_iconst hG (v := 0) (by decide) dX3_isByColumns_22 ?_
        cases hf
        exact v_zret (x := 0) hG hr rfl dX3_isByColumns_23
      · refine v_sub [] [] rfl ?_
        exact j18  hf
def X3_doRule_J34 (a0 : Int32) (a1 : Int32) (j34_0 : CW) : Option (Int32 × CW) := (if a0 = 1 then ((X4_leaveEmpty j34_0 a1).bind (fun r93 : Int32 × CW => (if isB r93.1 = true then some (r93.1, r93.2) else none))) else (if a0 = 2 then ((X4_divideShared j34_0 a1).bind (fun r102 : Int32 × CW => (if isB r102.1 = true then some (r102.1, r102.2) else none))) else (if a0 = 3 then ((X4_leaveSingle j34_0 a1).bind (fun r111 : Int32 × CW => (if isB r111.1 = true then some (r111.1, r111.2) else none))) else (if a0 = 4 then ((X4_lookAtSpan j34_0 a1).bind (fun r120 : Int32 × CW => (if isB r120.1 = true then some (r120.1, r120.2) else none))) else (if a0 = 5 then ((X4_tighten j34_0 a1).bind (fun r129 : Int32 × CW => (if isB r129.1 = true then some (r129.1, r129.2) else none))) else (if a0 = 6 then ((X1_fix j34_0 a1).bind (fun r138 : Int32 × CW => (if isB r138.1 = true then some (r138.1, r138.2) else none))) else (if a0 = 7 then ((X4_leaveTwins j34_0 a1).bind (fun r147 : Int32 × CW => (if isB r147.1 = true then some (r147.1, r147.2) else none))) else (if a0 = 8 then ((X1_moveToSide j34_0 a1).bind (fun r156 : Int32 × CW => (if isB r156.1 = true then some (r156.1, r156.2) else none))) else (if a0 = 9 then ((X1_putIn j34_0 a1).bind (fun r165 : Int32 × CW => (if isB r165.1 = true then some (r165.1, r165.2) else none))) else (if a0 = 10 then ((X4_makeLess j34_0 a1).bind (fun r174 : Int32 × CW => (if isB r174.1 = true then some (r174.1, r174.2) else none))) else ((X1_putInFree j34_0 a1).bind (fun r183 : Int32 × CW => (if isB r183.1 = true then some (r183.1, r183.2) else none)))))))))))))
def X3_doRule (w : CW) (a0 : Int32) (a1 : Int32) : Option (Int32 × CW) := ((X3_isByColumns a0).bind (fun r1 : Int32 => (if r1 = 0 then ((X6_isGone (gC_tab w) a1).bind (fun r26 : Int32 => (if r26 = 0 then (X3_doRule_J34 a0 a1 w) else (some (1, w))))) else ((X6_isThere (gC_tab w) a1).bind (fun r12 : Int32 => (if r12 = 0 then (some (1, w)) else (X3_doRule_J34 a0 a1 w)))))))
set_option maxRecDepth 100000 in
set_option maxHeartbeats 4000000 in
theorem ct_X3_doRule (l : Launch) (g : wG) (ad : Nat → Nat) (w : CW) (a0 : Int32) (a1 : Int32) (rr : Int32 × CW) (hf : X3_doRule w a0 a1 = some rr) : MetN l g yX3_doRule cX3_doRule 3 (some .boolean) (k2_rm 5 119) [.ref (ad 62), .int a0, .int a1] (ccells g ad w) (ccells g ad rr.2) (some (.int rr.1)) := by
  refine MetN.of2 [(0, .ref (ad 62)), (1, .int a0), (2, .int a1)] rfl (by decide +kernel) (Nat.le_of_ble_eq_true rfl) ?_
  intro p e s m args below meth c hG hr
  unfold X3_doRule at hf
  have j34 : ∀ (j34_0 : CW), X3_doRule_J34 a0 a1 j34_0 = some rr → V p l e (k2_rm 5 119) s m args below meth c (inW (ccells g ad w)) (EN below args s g (ccells g ad w) (ccells g ad rr.2) (some (.int rr.1))) g 3 (ccells g ad j34_0) 0 0 34 [(0, .ref (ad 62)), (1, .int a0), (2, .int a1)] [] := by
    intro j34_0 hf
    unfold X3_doRule_J34 at hf
    refine v_iload_n hG 1 rfl rfl dX3_doRule_34 ?_
    refine v_tswE hG 1 88 dX3_doRule_35 (by decide) (by decide) rfl rfl hf (fun hf => ?_) (fun hz35_1 hf => ?_)
    · refine v_aload_n hG 0 rfl rfl dX3_doRule_88 ?_
      refine c_g_62_2 hG wk_312 dX3_doRule_89 ?_
      refine v_iload_n hG 2 rfl rfl dX3_doRule_92 ?_
      obtain ⟨r93, hr93, hf⟩ := bd_some hf
      refine v_callV hG (st := []) 63 4 (ct_X4_leaveEmpty l g ad j34_0 a1 r93 hr93) iw_X4_leaveEmpty wk_597 rfl rfl ⟨rfl, rfl, Nat.le_of_ble_eq_true rfl, Nat.le_of_ble_eq_true rfl⟩ ⟨Nat.le_of_ble_eq_true rfl, Nat.le_of_ble_eq_true rfl⟩ rfl rfl (Nat.le_of_ble_eq_true rfl) (ccells_fst _ _ _ _) dX3_doRule_93 ?_
      refine (show V p l e (k2_rm 5 119) s m args below meth c (inW (ccells g ad w)) (EN below args s g (ccells g ad w) (ccells g ad rr.2) (some (.int rr.1))) g 3 (ccells g ad r93.2) 0 0 96 [(0, .ref (ad 62)), (1, .int a0), (2, .int a1)] [.int r93.1] from ?_)
      obtain ⟨hb, hf⟩ := gd_some hf
      cases hf
      exact v_zret hG hr (isB_nar hb) dX3_doRule_96
    refine v_tswE hG 2 97 dX3_doRule_35 (by decide) (by decide) rfl rfl hf (fun hf => ?_) (fun hz35_2 hf => ?_)
    · refine v_aload_n hG 0 rfl rfl dX3_doRule_97 ?_
      refine c_g_62_2 hG wk_312 dX3_doRule_98 ?_
      refine v_iload_n hG 2 rfl rfl dX3_doRule_101 ?_
      obtain ⟨r102, hr102, hf⟩ := bd_some hf
      refine v_callV hG (st := []) 63 4 (ct_X4_divideShared l g ad j34_0 a1 r102 hr102) iw_X4_divideShared wk_622 rfl rfl ⟨rfl, rfl, Nat.le_of_ble_eq_true rfl, Nat.le_of_ble_eq_true rfl⟩ ⟨Nat.le_of_ble_eq_true rfl, Nat.le_of_ble_eq_true rfl⟩ rfl rfl (Nat.le_of_ble_eq_true rfl) (ccells_fst _ _ _ _) dX3_doRule_102 ?_
      refine (show V p l e (k2_rm 5 119) s m args below meth c (inW (ccells g ad w)) (EN below args s g (ccells g ad w) (ccells g ad rr.2) (some (.int rr.1))) g 3 (ccells g ad r102.2) 0 0 105 [(0, .ref (ad 62)), (1, .int a0), (2, .int a1)] [.int r102.1] from ?_)
      obtain ⟨hb, hf⟩ := gd_some hf
      cases hf
      exact v_zret hG hr (isB_nar hb) dX3_doRule_105
    refine v_tswE hG 3 106 dX3_doRule_35 (by decide) (by decide) rfl rfl hf (fun hf => ?_) (fun hz35_3 hf => ?_)
    · refine v_aload_n hG 0 rfl rfl dX3_doRule_106 ?_
      refine c_g_62_2 hG wk_312 dX3_doRule_107 ?_
      refine v_iload_n hG 2 rfl rfl dX3_doRule_110 ?_
      obtain ⟨r111, hr111, hf⟩ := bd_some hf
      refine v_callV hG (st := []) 63 4 (ct_X4_leaveSingle l g ad j34_0 a1 r111 hr111) iw_X4_leaveSingle wk_651 rfl rfl ⟨rfl, rfl, Nat.le_of_ble_eq_true rfl, Nat.le_of_ble_eq_true rfl⟩ ⟨Nat.le_of_ble_eq_true rfl, Nat.le_of_ble_eq_true rfl⟩ rfl rfl (Nat.le_of_ble_eq_true rfl) (ccells_fst _ _ _ _) dX3_doRule_111 ?_
      refine (show V p l e (k2_rm 5 119) s m args below meth c (inW (ccells g ad w)) (EN below args s g (ccells g ad w) (ccells g ad rr.2) (some (.int rr.1))) g 3 (ccells g ad r111.2) 0 0 114 [(0, .ref (ad 62)), (1, .int a0), (2, .int a1)] [.int r111.1] from ?_)
      obtain ⟨hb, hf⟩ := gd_some hf
      cases hf
      exact v_zret hG hr (isB_nar hb) dX3_doRule_114
    refine v_tswE hG 4 115 dX3_doRule_35 (by decide) (by decide) rfl rfl hf (fun hf => ?_) (fun hz35_4 hf => ?_)
    · refine v_aload_n hG 0 rfl rfl dX3_doRule_115 ?_
      refine c_g_62_2 hG wk_312 dX3_doRule_116 ?_
      refine v_iload_n hG 2 rfl rfl dX3_doRule_119 ?_
      obtain ⟨r120, hr120, hf⟩ := bd_some hf
      refine v_callV hG (st := []) 63 4 (ct_X4_lookAtSpan l g ad j34_0 a1 r120 hr120) iw_X4_lookAtSpan wk_665 rfl rfl ⟨rfl, rfl, Nat.le_of_ble_eq_true rfl, Nat.le_of_ble_eq_true rfl⟩ ⟨Nat.le_of_ble_eq_true rfl, Nat.le_of_ble_eq_true rfl⟩ rfl rfl (Nat.le_of_ble_eq_true rfl) (ccells_fst _ _ _ _) dX3_doRule_120 ?_
      refine (show V p l e (k2_rm 5 119) s m args below meth c (inW (ccells g ad w)) (EN below args s g (ccells g ad w) (ccells g ad rr.2) (some (.int rr.1))) g 3 (ccells g ad r120.2) 0 0 123 [(0, .ref (ad 62)), (1, .int a0), (2, .int a1)] [.int r120.1] from ?_)
      obtain ⟨hb, hf⟩ := gd_some hf
      cases hf
      exact v_zret hG hr (isB_nar hb) dX3_doRule_123
    refine v_tswE hG 5 124 dX3_doRule_35 (by decide) (by decide) rfl rfl hf (fun hf => ?_) (fun hz35_5 hf => ?_)
    · refine v_aload_n hG 0 rfl rfl dX3_doRule_124 ?_
      refine c_g_62_2 hG wk_312 dX3_doRule_125 ?_
      refine v_iload_n hG 2 rfl rfl dX3_doRule_128 ?_
      obtain ⟨r129, hr129, hf⟩ := bd_some hf
      refine v_callV hG (st := []) 63 4 (ct_X4_tighten l g ad j34_0 a1 r129 hr129) iw_X4_tighten wk_681 rfl rfl ⟨rfl, rfl, Nat.le_of_ble_eq_true rfl, Nat.le_of_ble_eq_true rfl⟩ ⟨Nat.le_of_ble_eq_true rfl, Nat.le_of_ble_eq_true rfl⟩ rfl rfl (Nat.le_of_ble_eq_true rfl) (ccells_fst _ _ _ _) dX3_doRule_129 ?_
      refine (show V p l e (k2_rm 5 119) s m args below meth c (inW (ccells g ad w)) (EN below args s g (ccells g ad w) (ccells g ad rr.2) (some (.int rr.1))) g 3 (ccells g ad r129.2) 0 0 132 [(0, .ref (ad 62)), (1, .int a0), (2, .int a1)] [.int r129.1] from ?_)
      obtain ⟨hb, hf⟩ := gd_some hf
      cases hf
      exact v_zret hG hr (isB_nar hb) dX3_doRule_132
    refine v_tswE hG 6 133 dX3_doRule_35 (by decide) (by decide) rfl rfl hf (fun hf => ?_) (fun hz35_6 hf => ?_)
    · refine v_aload_n hG 0 rfl rfl dX3_doRule_133 ?_
      refine c_g_62_3 hG wk_313 dX3_doRule_134 ?_
      refine v_iload_n hG 2 rfl rfl dX3_doRule_137 ?_
      obtain ⟨r138, hr138, hf⟩ := bd_some hf
      refine v_callV hG (st := []) 64 1 (ct_X1_fix l g ad j34_0 a1 r138 hr138) iw_X1_fix wk_689 rfl rfl ⟨rfl, rfl, Nat.le_of_ble_eq_true rfl, Nat.le_of_ble_eq_true rfl⟩ ⟨Nat.le_of_ble_eq_true rfl, Nat.le_of_ble_eq_true rfl⟩ rfl rfl (Nat.le_of_ble_eq_true rfl) (ccells_fst _ _ _ _) dX3_doRule_138 ?_
      refine (show V p l e (k2_rm 5 119) s m args below meth c (inW (ccells g ad w)) (EN below args s g (ccells g ad w) (ccells g ad rr.2) (some (.int rr.1))) g 3 (ccells g ad r138.2) 0 0 141 [(0, .ref (ad 62)), (1, .int a0), (2, .int a1)] [.int r138.1] from ?_)
      obtain ⟨hb, hf⟩ := gd_some hf
      cases hf
      exact v_zret hG hr (isB_nar hb) dX3_doRule_141
    refine v_tswE hG 7 142 dX3_doRule_35 (by decide) (by decide) rfl rfl hf (fun hf => ?_) (fun hz35_7 hf => ?_)
    · refine v_aload_n hG 0 rfl rfl dX3_doRule_142 ?_
      refine c_g_62_2 hG wk_312 dX3_doRule_143 ?_
      refine v_iload_n hG 2 rfl rfl dX3_doRule_146 ?_
      obtain ⟨r147, hr147, hf⟩ := bd_some hf
      refine v_callV hG (st := []) 63 4 (ct_X4_leaveTwins l g ad j34_0 a1 r147 hr147) iw_X4_leaveTwins wk_695 rfl rfl ⟨rfl, rfl, Nat.le_of_ble_eq_true rfl, Nat.le_of_ble_eq_true rfl⟩ ⟨Nat.le_of_ble_eq_true rfl, Nat.le_of_ble_eq_true rfl⟩ rfl rfl (Nat.le_of_ble_eq_true rfl) (ccells_fst _ _ _ _) dX3_doRule_147 ?_
      refine (show V p l e (k2_rm 5 119) s m args below meth c (inW (ccells g ad w)) (EN below args s g (ccells g ad w) (ccells g ad rr.2) (some (.int rr.1))) g 3 (ccells g ad r147.2) 0 0 150 [(0, .ref (ad 62)), (1, .int a0), (2, .int a1)] [.int r147.1] from ?_)
      obtain ⟨hb, hf⟩ := gd_some hf
      cases hf
      exact v_zret hG hr (isB_nar hb) dX3_doRule_150
    refine v_tswE hG 8 151 dX3_doRule_35 (by decide) (by decide) rfl rfl hf (fun hf => ?_) (fun hz35_8 hf => ?_)
    · refine v_aload_n hG 0 rfl rfl dX3_doRule_151 ?_
      refine c_g_62_3 hG wk_313 dX3_doRule_152 ?_
      refine v_iload_n hG 2 rfl rfl dX3_doRule_155 ?_
      obtain ⟨r156, hr156, hf⟩ := bd_some hf
      refine v_callV hG (st := []) 64 1 (ct_X1_moveToSide l g ad j34_0 a1 r156 hr156) iw_X1_moveToSide wk_716 rfl rfl ⟨rfl, rfl, Nat.le_of_ble_eq_true rfl, Nat.le_of_ble_eq_true rfl⟩ ⟨Nat.le_of_ble_eq_true rfl, Nat.le_of_ble_eq_true rfl⟩ rfl rfl (Nat.le_of_ble_eq_true rfl) (ccells_fst _ _ _ _) dX3_doRule_156 ?_
      refine (show V p l e (k2_rm 5 119) s m args below meth c (inW (ccells g ad w)) (EN below args s g (ccells g ad w) (ccells g ad rr.2) (some (.int rr.1))) g 3 (ccells g ad r156.2) 0 0 159 [(0, .ref (ad 62)), (1, .int a0), (2, .int a1)] [.int r156.1] from ?_)
      obtain ⟨hb, hf⟩ := gd_some hf
      cases hf
      exact v_zret hG hr (isB_nar hb) dX3_doRule_159
    refine v_tswE hG 9 160 dX3_doRule_35 (by decide) (by decide) rfl rfl hf (fun hf => ?_) (fun hz35_9 hf => ?_)
    · refine v_aload_n hG 0 rfl rfl dX3_doRule_160 ?_
      refine c_g_62_3 hG wk_313 dX3_doRule_161 ?_
      refine v_iload_n hG 2 rfl rfl dX3_doRule_164 ?_
      obtain ⟨r165, hr165, hf⟩ := bd_some hf
      refine v_callV hG (st := []) 64 1 (ct_X1_putIn l g ad j34_0 a1 r165 hr165) iw_X1_putIn wk_729 rfl rfl ⟨rfl, rfl, Nat.le_of_ble_eq_true rfl, Nat.le_of_ble_eq_true rfl⟩ ⟨Nat.le_of_ble_eq_true rfl, Nat.le_of_ble_eq_true rfl⟩ rfl rfl (Nat.le_of_ble_eq_true rfl) (ccells_fst _ _ _ _) dX3_doRule_165 ?_
      refine (show V p l e (k2_rm 5 119) s m args below meth c (inW (ccells g ad w)) (EN below args s g (ccells g ad w) (ccells g ad rr.2) (some (.int rr.1))) g 3 (ccells g ad r165.2) 0 0 168 [(0, .ref (ad 62)), (1, .int a0), (2, .int a1)] [.int r165.1] from ?_)
      obtain ⟨hb, hf⟩ := gd_some hf
      cases hf
      exact v_zret hG hr (isB_nar hb) dX3_doRule_168
    refine v_tswE hG 10 169 dX3_doRule_35 (by decide) (by decide) rfl rfl hf (fun hf => ?_) (fun hz35_10 hf => ?_)
    · refine v_aload_n hG 0 rfl rfl dX3_doRule_169 ?_
      refine c_g_62_2 hG wk_312 dX3_doRule_170 ?_
      refine v_iload_n hG 2 rfl rfl dX3_doRule_173 ?_
      obtain ⟨r174, hr174, hf⟩ := bd_some hf
      refine v_callV hG (st := []) 63 4 (ct_X4_makeLess l g ad j34_0 a1 r174 hr174) iw_X4_makeLess wk_767 rfl rfl ⟨rfl, rfl, Nat.le_of_ble_eq_true rfl, Nat.le_of_ble_eq_true rfl⟩ ⟨Nat.le_of_ble_eq_true rfl, Nat.le_of_ble_eq_true rfl⟩ rfl rfl (Nat.le_of_ble_eq_true rfl) (ccells_fst _ _ _ _) dX3_doRule_174 ?_
      refine (show V p l e (k2_rm 5 119) s m args below meth c (inW (ccells g ad w)) (EN below args s g (ccells g ad w) (ccells g ad rr.2) (some (.int rr.1))) g 3 (ccells g ad r174.2) 0 0 177 [(0, .ref (ad 62)), (1, .int a0), (2, .int a1)] [.int r174.1] from ?_)
      obtain ⟨hb, hf⟩ := gd_some hf
      cases hf
      exact v_zret hG hr (isB_nar hb) dX3_doRule_177
    refine v_tswD hG 178 dX3_doRule_35 (by have qhz35_1 := lv_neT (a := 1) hz35_1 (by decide); have qhz35_2 := lv_neT (a := 2) hz35_2 (by decide); have qhz35_3 := lv_neT (a := 3) hz35_3 (by decide); have qhz35_4 := lv_neT (a := 4) hz35_4 (by decide); have qhz35_5 := lv_neT (a := 5) hz35_5 (by decide); have qhz35_6 := lv_neT (a := 6) hz35_6 (by decide); have qhz35_7 := lv_neT (a := 7) hz35_7 (by decide); have qhz35_8 := lv_neT (a := 8) hz35_8 (by decide); have qhz35_9 := lv_neT (a := 9) hz35_9 (by decide); have qhz35_10 := lv_neT (a := 10) hz35_10 (by decide); omega) rfl ?_
    refine v_aload_n hG 0 rfl rfl dX3_doRule_178 ?_
    refine c_g_62_3 hG wk_313 dX3_doRule_179 ?_
    refine v_iload_n hG 2 rfl rfl dX3_doRule_182 ?_
    obtain ⟨r183, hr183, hf⟩ := bd_some hf
    refine v_callV hG (st := []) 64 1 (ct_X1_putInFree l g ad j34_0 a1 r183 hr183) iw_X1_putInFree wk_779 rfl rfl ⟨rfl, rfl, Nat.le_of_ble_eq_true rfl, Nat.le_of_ble_eq_true rfl⟩ ⟨Nat.le_of_ble_eq_true rfl, Nat.le_of_ble_eq_true rfl⟩ rfl rfl (Nat.le_of_ble_eq_true rfl) (ccells_fst _ _ _ _) dX3_doRule_183 ?_
    refine (show V p l e (k2_rm 5 119) s m args below meth c (inW (ccells g ad w)) (EN below args s g (ccells g ad w) (ccells g ad rr.2) (some (.int rr.1))) g 3 (ccells g ad r183.2) 0 0 186 [(0, .ref (ad 62)), (1, .int a0), (2, .int a1)] [.int r183.1] from ?_)
    obtain ⟨hb, hf⟩ := gd_some hf
    cases hf
    exact v_zret hG hr (isB_nar hb) dX3_doRule_186
  refine v_iload_n hG 1 rfl rfl dX3_doRule_0 ?_
  obtain ⟨r1, hr1, hf⟩ := bd_some hf
  refine v_callP hG (st := []) (ct_X3_isByColumns l g a0 r1 hr1) sw_X3_isByColumns wk_582 ⟨rfl, rfl, Nat.le_of_ble_eq_true rfl, Nat.le_of_ble_eq_true rfl⟩ ⟨Nat.le_of_ble_eq_true rfl, Nat.le_of_ble_eq_true rfl⟩ rfl rfl (Nat.le_of_ble_eq_true rfl) dX3_doRule_1 ?_
  refine (show V p l e (k2_rm 5 119) s m args below meth c (inW (ccells g ad w)) (EN below args s g (ccells g ad w) (ccells g ad rr.2) (some (.int rr.1))) g 3 (ccells g ad w) 0 0 4 [(0, .ref (ad 62)), (1, .int a0), (2, .int a1)] [.int r1] from ?_)
  refine v_if_eq hG 21 dX3_doRule_4 rfl hf (fun hf => ?_) (fun hf => ?_)
  · refine v_aload_n hG 0 rfl rfl dX3_doRule_21 ?_
    refine c_g_62_1 hG wk_311 dX3_doRule_22 ?_
    refine v_iload_n hG 2 rfl rfl dX3_doRule_25 ?_
    obtain ⟨r26, hr26, hf⟩ := bd_some hf
    refine v_callV hG (st := []) 22 6 (ct_X6_isGone_s l g ad w a1 r26 hr26) iw_X6_isGone wk_593 rfl rfl ⟨rfl, rfl, Nat.le_of_ble_eq_true rfl, Nat.le_of_ble_eq_true rfl⟩ ⟨Nat.le_of_ble_eq_true rfl, Nat.le_of_ble_eq_true rfl⟩ rfl rfl (Nat.le_of_ble_eq_true rfl) (ccells_fst _ _ _ _) dX3_doRule_26 ?_
    refine (show V p l e (k2_rm 5 119) s m args below meth c (inW (ccells g ad w)) (EN below args s g (ccells g ad w) (ccells g ad rr.2) (some (.int rr.1))) g 3 (ccells g ad w) 0 0 29 [(0, .ref (ad 62)), (1, .int a0), (2, .int a1)] [.int r26] from ?_)
    refine v_if_eq hG 34 dX3_doRule_29 rfl hf (fun hf => ?_) (fun hf => ?_)
    · exact j34 w hf
    · refine v_iconst hG (v := 1) (by decide) dX3_doRule_32 ?_
      cases hf
      exact v_zret (x := 1) hG hr rfl dX3_doRule_33
  · refine v_aload_n hG 0 rfl rfl dX3_doRule_7 ?_
    refine c_g_62_1 hG wk_311 dX3_doRule_8 ?_
    refine v_iload_n hG 2 rfl rfl dX3_doRule_11 ?_
    obtain ⟨r12, hr12, hf⟩ := bd_some hf
    refine v_callV hG (st := []) 22 6 (ct_X6_isThere_s l g ad w a1 r12 hr12) iw_X6_isThere wk_589 rfl rfl ⟨rfl, rfl, Nat.le_of_ble_eq_true rfl, Nat.le_of_ble_eq_true rfl⟩ ⟨Nat.le_of_ble_eq_true rfl, Nat.le_of_ble_eq_true rfl⟩ rfl rfl (Nat.le_of_ble_eq_true rfl) (ccells_fst _ _ _ _) dX3_doRule_12 ?_
    refine (show V p l e (k2_rm 5 119) s m args below meth c (inW (ccells g ad w)) (EN below args s g (ccells g ad w) (ccells g ad rr.2) (some (.int rr.1))) g 3 (ccells g ad w) 0 0 15 [(0, .ref (ad 62)), (1, .int a0), (2, .int a1)] [.int r12] from ?_)
    refine v_if_ne hG 34 dX3_doRule_15 rfl hf (fun hf => ?_) (fun hf => ?_)
    · exact j34 w hf
    · refine v_goto hG 32 dX3_doRule_18 rfl ?_
      refine v_iconst hG (v := 1) (by decide) dX3_doRule_32 ?_
      cases hf
      exact v_zret (x := 1) hG hr rfl dX3_doRule_33
def X3_doRound_J78  (j78_0 : CW) (j78_1 : Int32) : Option ((CW × Int32) ⊕ ((CW) ⊕ (CW))) := (some (.inl (j78_0, (j78_1 + 1))))
def X3_doRound_L54 (j50_1 : Int32) (j50_2 : Int32) (s54 : CW × Int32) : Option ((CW × Int32) ⊕ ((CW) ⊕ (CW))) := (if j50_2 ≤ s54.2 then (some (.inr (.inr s54.1))) else ((X3_doRule s54.1 j50_1 s54.2).bind (fun r64 : Int32 × CW => (if r64.1 = 0 then (some (.inr (.inl r64.2))) else (some (.inl (r64.2, (s54.2 + 1))))))))
def X3_doRound_J50  (j50_0 : CW) (j50_1 : Int32) (j50_2 : Int32) : Option ((CW × Int32) ⊕ ((CW) ⊕ (CW))) := ((iter (X3_doRound_L54 j50_1 j50_2) 5000 (j50_0, 0)).bind (fun z54 : (CW) ⊕ (CW) => (Sum.elim (fun z54_0 : CW => (some (.inr (.inl z54_0)))) (fun z54_r0 : (CW) => (X3_doRound_J78 z54_r0 j50_1)) z54)))
def X3_doRound_L2 (a0 : Int32) (s2 : CW × Int32) : Option ((CW × Int32) ⊕ ((CW) ⊕ (CW))) := (if 11 < s2.2 then (some (.inr (.inr s2.1))) else (if ((a0 >>> ((s2.2 - 1) &&& 31)) &&& 1) = 0 then (X3_doRound_J78 s2.1 s2.2) else (bnd (sC_rule s2.1 s2.2) (fun w23 : CW => ((X3_isByColumns s2.2).bind (fun r27 : Int32 => (if r27 = 0 then (X3_doRound_J50 w23 s2.2 (gT_rows (gC_tab w23))) else (X3_doRound_J50 w23 s2.2 (gT_columns (gC_tab w23))))))))))
def X3_doRound (w : CW) (a0 : Int32) : Option (Int32 × CW) := ((iter (X3_doRound_L2 a0) 5000 (w, 1)).bind (fun z2 : (CW) ⊕ (CW) => (Sum.elim (fun z2_0 : CW => (some (0, z2_0))) (fun z2_r0 : (CW) => (some (1, z2_r0))) z2)))
set_option maxRecDepth 100000 in
set_option maxHeartbeats 4000000 in
theorem ct_X3_doRound (l : Launch) (g : wG) (ad : Nat → Nat) (w : CW) (a0 : Int32) (rr : Int32 × CW) (hf : X3_doRound w a0 = some rr) : MetN l g yX3_doRound cX3_doRound 5 (some .boolean) (k2_rm 6 141) [.ref (ad 62), .int a0] (ccells g ad w) (ccells g ad rr.2) (some (.int rr.1)) := by
  refine MetN.of2 [(0, .ref (ad 62)), (1, .int a0)] rfl (by decide +kernel) (Nat.le_of_ble_eq_true rfl) ?_
  intro p e s m args below meth c hG hr
  unfold X3_doRound at hf
  refine v_iconst hG (v := 1) (by decide) dX3_doRound_0 ?_
  refine v_istore_n hG [(2, _), (0, _), (1, _)] dX3_doRound_1 rfl (by decide) rfl ?_
  refine v_sub [(0, _), (1, _), (2, _)] [1, 2, 0] rfl ?_
  obtain ⟨z2, hlz2, hf⟩ := bd_some hf
  refine loop_v (step := X3_doRound_L2 a0) (fun s2 : CW × Int32 => V p l e (k2_rm 6 141) s m args below meth c (inW (ccells g ad w)) (EN below args s g (ccells g ad w) (ccells g ad rr.2) (some (.int rr.1))) g 5 (ccells g ad s2.1) 0 0 2 [(0, .ref (ad 62)), (1, .int a0), (2, .int s2.2)] []) (fun z2_q : (CW) ⊕ (CW) => Sum.elim (fun z2_0 : CW => V p l e (k2_rm 6 141) s m args below meth c (inW (ccells g ad w)) (EN below args s g (ccells g ad w) (ccells g ad rr.2) (some (.int rr.1))) g 5 (ccells g ad z2_0) 0 0 70 [] []) (fun z2_r0 : (CW) => V p l e (k2_rm 6 141) s m args below meth c (inW (ccells g ad w)) (EN below args s g (ccells g ad w) (ccells g ad rr.2) (some (.int rr.1))) g 5 (ccells g ad z2_r0) 0 0 84 [] []) z2_q) ?_ 5000 (w, 1) z2 hlz2 ?_
  · intro s2 rL hf hin hout
    unfold X3_doRound_L2 at hf
    have j78 : ∀ (j78_0 : CW) (j78_1 : Int32), X3_doRound_J78 j78_0 j78_1 = some rL → V p l e (k2_rm 6 141) s m args below meth c (inW (ccells g ad w)) (EN below args s g (ccells g ad w) (ccells g ad rr.2) (some (.int rr.1))) g 5 (ccells g ad j78_0) 0 0 78 [(0, .ref (ad 62)), (1, .int a0), (2, .int j78_1)] [] := by
      intro j78_0 j78_1 hf
      unfold X3_doRound_J78 at hf
      refine v_iinc hG 2 (v := j78_1 + 1) [(2, _), (0, _), (1, _)] dX3_doRound_78 rfl rfl (by decide) rfl ?_
      refine v_goto hG 2 dX3_doRound_81 rfl ?_
      refine v_sub [(0, _), (1, _), (2, _)] [1, 2, 0] rfl ?_
      exact hin _ (Option.some.inj hf).symm
    have j50 : ∀ (j50_0 : CW) (j50_1 : Int32) (j50_2 : Int32), X3_doRound_J50 j50_0 j50_1 j50_2 = some rL → V p l e (k2_rm 6 141) s m args below meth c (inW (ccells g ad w)) (EN below args s g (ccells g ad w) (ccells g ad rr.2) (some (.int rr.1))) g 5 (ccells g ad j50_0) 0 0 50 [(0, .ref (ad 62)), (1, .int a0), (2, .int j50_1)] [.int j50_2] := by
      intro j50_0 j50_1 j50_2 hf
      unfold X3_doRound_J50 at hf
      refine v_istore_n hG [(3, _), (0, _), (1, _), (2, _)] dX3_doRound_50 rfl (by decide) rfl ?_
      refine v_iconst hG (v := 0) (by decide) dX3_doRound_51 ?_
      refine v_istore hG [(4, _), (3, _), (0, _), (1, _), (2, _)] dX3_doRound_52 (by decide) rfl ?_
      refine v_sub [(0, _), (1, _), (2, _), (3, _), (4, _)] [2, 3, 4, 1, 0] rfl ?_
      obtain ⟨z54, hlz54, hf⟩ := bd_some hf
      refine loop_v (step := X3_doRound_L54 j50_1 j50_2) (fun s54 : CW × Int32 => V p l e (k2_rm 6 141) s m args below meth c (inW (ccells g ad w)) (EN below args s g (ccells g ad w) (ccells g ad rr.2) (some (.int rr.1))) g 5 (ccells g ad s54.1) 0 0 54 [(0, .ref (ad 62)), (1, .int a0), (2, .int j50_1), (3, .int j50_2), (4, .int s54.2)] []) (fun z54_q : (CW) ⊕ (CW) => Sum.elim (fun z54_0 : CW => V p l e (k2_rm 6 141) s m args below meth c (inW (ccells g ad w)) (EN below args s g (ccells g ad w) (ccells g ad rr.2) (some (.int rr.1))) g 5 (ccells g ad z54_0) 0 0 70 [] []) (fun z54_r0 : (CW) => V p l e (k2_rm 6 141) s m args below meth c (inW (ccells g ad w)) (EN below args s g (ccells g ad w) (ccells g ad rr.2) (some (.int rr.1))) g 5 (ccells g ad z54_r0) 0 0 78 [(0, .ref (ad 62)), (1, .int a0), (2, .int j50_1)] []) z54_q) ?_ 5000 (j50_0, 0) z54 hlz54 ?_
      · intro s54 rL hf hin hout
        unfold X3_doRound_L54 at hf
        refine v_iload hG 4 rfl dX3_doRound_54 ?_
        refine v_iload_n hG 3 rfl rfl dX3_doRound_56 ?_
        refine v_icmp_ge hG 78 dX3_doRound_57 rfl hf (fun hf => ?_) (fun hf => ?_)
        · refine v_sub [(0, _), (1, _), (2, _)] [0, 1, 2] rfl ?_
          exact hout _ (Option.some.inj hf).symm
        · refine v_aload_n hG 0 rfl rfl dX3_doRound_60 ?_
          refine v_iload_n hG 2 rfl rfl dX3_doRound_61 ?_
          refine v_iload hG 4 rfl dX3_doRound_62 ?_
          obtain ⟨r64, hr64, hf⟩ := bd_some hf
          refine v_callV hG (st := []) 62 3 (ct_X3_doRule l g ad s54.1 j50_1 s54.2 r64 hr64) iw_X3_doRule wk_585 rfl rfl ⟨rfl, rfl, Nat.le_of_ble_eq_true rfl, Nat.le_of_ble_eq_true rfl⟩ ⟨Nat.le_of_ble_eq_true rfl, Nat.le_of_ble_eq_true rfl⟩ rfl rfl (Nat.le_of_ble_eq_true rfl) (ccells_fst _ _ _ _) dX3_doRound_64 ?_
          refine (show V p l e (k2_rm 6 141) s m args below meth c (inW (ccells g ad w)) (EN below args s g (ccells g ad w) (ccells g ad rr.2) (some (.int rr.1))) g 5 (ccells g ad r64.2) 0 0 67 [(0, .ref (ad 62)), (1, .int a0), (2, .int j50_1), (3, .int j50_2), (4, .int s54.2)] [.int r64.1] from ?_)
          refine v_if_ne hG 72 dX3_doRound_67 rfl hf (fun hf => ?_) (fun hf => ?_)
          · refine v_iinc hG 4 (v := s54.2 + 1) [(4, _), (0, _), (1, _), (2, _), (3, _)] dX3_doRound_72 rfl rfl (by decide) rfl ?_
            refine v_goto hG 54 dX3_doRound_75 rfl ?_
            refine v_sub [(0, _), (1, _), (2, _), (3, _), (4, _)] [1, 2, 3, 4, 0] rfl ?_
            exact hin _ (Option.some.inj hf).symm
          · refine v_sub [] [] rfl ?_
            exact hout _ (Option.some.inj hf).symm
      · rcases z54 with z54_x0 | z54_x0
        · simp only [Sum.elim_inl] at hf
          show V p l e (k2_rm 6 141) s m args below meth c (inW (ccells g ad w)) (EN below args s g (ccells g ad w) (ccells g ad rr.2) (some (.int rr.1))) g 5 (ccells g ad z54_x0) 0 0 70 [] []
          exact hout _ (Option.some.inj hf).symm
        · simp only [Sum.elim_inr] at hf
          show V p l e (k2_rm 6 141) s m args below meth c (inW (ccells g ad w)) (EN below args s g (ccells g ad w) (ccells g ad rr.2) (some (.int rr.1))) g 5 (ccells g ad z54_x0) 0 0 78 [(0, .ref (ad 62)), (1, .int a0), (2, .int j50_1)] []
          exact j78 z54_x0 j50_1 hf
    refine v_iload_n hG 2 rfl rfl dX3_doRound_2 ?_
    refine v_bipush hG (v := 11) (by decide) dX3_doRound_3 ?_
    refine v_icmp_gt hG 84 dX3_doRound_5 rfl hf (fun hf => ?_) (fun hf => ?_)
    · refine v_sub [] [] rfl ?_
      exact hout _ (Option.some.inj hf).symm
    · refine v_iload_n hG 1 rfl rfl dX3_doRound_8 ?_
      refine v_iload_n hG 2 rfl rfl dX3_doRound_9 ?_
      refine v_iconst hG (v := 1) (by decide) dX3_doRound_10 ?_
      refine v_isub hG dX3_doRound_11 ?_
      refine v_ishr hG dX3_doRound_12 ?_
      refine v_iconst hG (v := 1) (by decide) dX3_doRound_13 ?_
      refine v_iand hG dX3_doRound_14 ?_
      refine v_if_eq hG 78 dX3_doRound_15 rfl hf (fun hf => ?_) (fun hf => ?_)
      · exact j78 s2.1 s2.2 hf
      · refine v_aload_n hG 0 rfl rfl dX3_doRound_18 ?_
        refine c_g_62_0 hG wk_310 dX3_doRound_19 ?_
        refine v_iload_n hG 2 rfl rfl dX3_doRound_22 ?_
        refine c_p_21_7 hG wk_242 dX3_doRound_23 hf (fun w23 hf => ?_)
        refine v_iload_n hG 2 rfl rfl dX3_doRound_26 ?_
        obtain ⟨r27, hr27, hf⟩ := bd_some hf
        refine v_callP hG (st := []) (ct_X3_isByColumns l g s2.2 r27 hr27) sw_X3_isByColumns wk_582 ⟨rfl, rfl, Nat.le_of_ble_eq_true rfl, Nat.le_of_ble_eq_true rfl⟩ ⟨Nat.le_of_ble_eq_true rfl, Nat.le_of_ble_eq_true rfl⟩ rfl rfl (Nat.le_of_ble_eq_true rfl) dX3_doRound_27 ?_
        refine (show V p l e (k2_rm 6 141) s m args below meth c (inW (ccells g ad w)) (EN below args s g (ccells g ad w) (ccells g ad rr.2) (some (.int rr.1))) g 5 (ccells g ad w23) 0 0 30 [(0, .ref (ad 62)), (1, .int a0), (2, .int s2.2)] [.int r27] from ?_)
        refine v_if_eq hG 43 dX3_doRound_30 rfl hf (fun hf => ?_) (fun hf => ?_)
        · refine v_aload_n hG 0 rfl rfl dX3_doRound_43 ?_
          refine c_g_62_1 hG wk_311 dX3_doRound_44 ?_
          refine c_g_22_8 hG wk_163 dX3_doRound_47 ?_
          exact j50 w23 s2.2 (gT_rows (gC_tab w23)) hf
        · refine v_aload_n hG 0 rfl rfl dX3_doRound_33 ?_
          refine c_g_62_1 hG wk_311 dX3_doRound_34 ?_
          refine c_g_22_7 hG wk_157 dX3_doRound_37 ?_
          refine v_goto hG 50 dX3_doRound_40 rfl ?_
          exact j50 w23 s2.2 (gT_columns (gC_tab w23)) hf
  · rcases z2 with z2_x0 | z2_x0
    · simp only [Sum.elim_inl] at hf
      show V p l e (k2_rm 6 141) s m args below meth c (inW (ccells g ad w)) (EN below args s g (ccells g ad w) (ccells g ad rr.2) (some (.int rr.1))) g 5 (ccells g ad z2_x0) 0 0 70 [] []
      refine v_iconst hG (v := 0) (by decide) dX3_doRound_70 ?_
      cases hf
      exact v_zret (x := 0) hG hr rfl dX3_doRound_71
    · simp only [Sum.elim_inr] at hf
      show V p l e (k2_rm 6 141) s m args below meth c (inW (ccells g ad w)) (EN below args s g (ccells g ad w) (ccells g ad rr.2) (some (.int rr.1))) g 5 (ccells g ad z2_x0) 0 0 84 [] []
      refine v_iconst hG (v := 1) (by decide) dX3_doRound_84 ?_
      cases hf
      exact v_zret (x := 1) hG hr rfl dX3_doRound_85
