def X0_countKept (w : CW) : Option (Int32) := (if 400 ≤ (gC_count w) then (some 400) else (some (gC_count w)))
set_option maxRecDepth 100000 in
set_option maxHeartbeats 4000000 in
theorem ct_X0_countKept (l : Launch) (g : wG) (ad : Nat → Nat) (w : CW)  (rr : Int32) (hf : X0_countKept w = some rr) : MetN l g yX0_countKept cX0_countKept 1 (some .int) (k2_rm 0 0) [.ref (ad 45)] (ccells g ad w) (ccells g ad w) (some (.int rr)) := by
  refine MetN.of2 [(0, .ref (ad 45))] rfl (by decide +kernel) (Nat.le_of_ble_eq_true rfl) ?_
  intro p e s m args below meth c hG hr
  unfold X0_countKept at hf
  refine v_aload_n hG 0 rfl rfl dX0_countKept_0 ?_
  refine c_g_45_1 hG wk_207 dX0_countKept_1 ?_
  refine v_sipush hG (v := 400) (by decide) dX0_countKept_4 ?_
  refine v_icmp_ge hG 17 dX0_countKept_7 rfl hf (fun hf => ?_) (fun hf => ?_)
  · refine v_sipush hG (v := 400) (by decide) dX0_countKept_17 ?_
    cases hf
    exact v_iret hG hr dX0_countKept_20
  · refine v_aload_n hG 0 rfl rfl dX0_countKept_10 ?_
    refine c_g_45_1 hG wk_207 dX0_countKept_11 ?_
    refine v_goto hG 20 dX0_countKept_14 rfl ?_
    cases hf
    exact v_iret hG hr dX0_countKept_20
def X0_note_J72  (j72_0 : CW) : Option (CW) := (bnd (sC_count j72_0 ((gC_count j72_0) + 1)) (fun w79 : CW => (some w79)))
def X0_note (w : CW) (a0 : Int32) (a1 : Int32) (a2 : Int32) (a3 : Int32) (a4 : Int64) : Option (CW) := (if 400 ≤ (gC_count w) then (X0_note_J72 w) else (if inR ((gC_count w) * 5) 2000 = true then (bnd (sC_numbers w (vp_updL (gC_numbers w) ((gC_count w) * 5).toNatClampNeg a0.toInt64)) (fun w26 : CW => (if inR (((gC_count w) * 5) + 1) 2000 = true then (bnd (sC_numbers w26 (vp_updL (gC_numbers w26) (((gC_count w) * 5) + 1).toNatClampNeg a1.toInt64)) (fun w37 : CW => (if inR (((gC_count w) * 5) + 2) 2000 = true then (bnd (sC_numbers w37 (vp_updL (gC_numbers w37) (((gC_count w) * 5) + 2).toNatClampNeg a2.toInt64)) (fun w48 : CW => (if inR (((gC_count w) * 5) + 3) 2000 = true then (bnd (sC_numbers w48 (vp_updL (gC_numbers w48) (((gC_count w) * 5) + 3).toNatClampNeg a3.toInt64)) (fun w60 : CW => (if inR (((gC_count w) * 5) + 4) 2000 = true then (bnd (sC_numbers w60 (vp_updL (gC_numbers w60) (((gC_count w) * 5) + 4).toNatClampNeg a4)) (fun w71 : CW => (X0_note_J72 w71))) else none))) else none))) else none))) else none))) else none))
set_option maxRecDepth 100000 in
set_option maxHeartbeats 4000000 in
theorem ct_X0_note (l : Launch) (g : wG) (ad : Nat → Nat) (w : CW) (a0 : Int32) (a1 : Int32) (a2 : Int32) (a3 : Int32) (a4 : Int64) (rr : CW) (hf : X0_note w a0 a1 a2 a3 a4 = some rr) : MetN l g yX0_note cX0_note 8 none (k2_rm 0 0) [.ref (ad 45), .int a0, .int a1, .int a2, .int a3, .long a4] (ccells g ad w) (ccells g ad rr) none := by
  refine MetN.of2 [(0, .ref (ad 45)), (1, .int a0), (2, .int a1), (3, .int a2), (4, .int a3), (5, .long a4)] rfl (by decide +kernel) (Nat.le_of_ble_eq_true rfl) ?_
  intro p e s m args below meth c hG hr
  unfold X0_note at hf
  have j72 : ∀ (j72_0 : CW), X0_note_J72 j72_0 = some rr → V p l e (k2_rm 0 0) s m args below meth c (inW (ccells g ad w)) (EN below args s g (ccells g ad w) (ccells g ad rr) none) g 8 (ccells g ad j72_0) 0 0 72 [(0, .ref (ad 45))] [] := by
    intro j72_0 hf
    unfold X0_note_J72 at hf
    refine v_aload_n hG 0 rfl rfl dX0_note_72 ?_
    refine v_dup hG rfl dX0_note_73 ?_
    refine c_g_45_1 hG wk_207 dX0_note_74 ?_
    refine v_iconst hG (v := 1) (by decide) dX0_note_77 ?_
    refine v_iadd hG dX0_note_78 ?_
    refine c_p_45_1 hG wk_207 dX0_note_79 hf (fun w79 hf => ?_)
    cases hf
    exact v_vret hG hr dX0_note_82
  refine v_aload_n hG 0 rfl rfl dX0_note_0 ?_
  refine c_g_45_1 hG wk_207 dX0_note_1 ?_
  refine v_sipush hG (v := 400) (by decide) dX0_note_4 ?_
  refine v_icmp_ge hG 72 dX0_note_7 rfl hf (fun hf => ?_) (fun hf => ?_)
  · refine v_sub [(0, _)] [0] rfl ?_
    exact j72 w hf
  · refine v_aload_n hG 0 rfl rfl dX0_note_10 ?_
    refine c_g_45_1 hG wk_207 dX0_note_11 ?_
    refine v_iconst hG (v := 5) (by decide) dX0_note_14 ?_
    refine v_imul hG dX0_note_15 ?_
    refine v_istore hG [(7, _), (0, _), (1, _), (2, _), (3, _), (4, _), (5, _)] dX0_note_16 (by decide) rfl ?_
    refine v_aload_n hG 1 rfl rfl dX0_note_18 ?_
    refine c_g_45_0 hG wk_205 dX0_note_19 ?_
    refine v_iload hG 0 rfl dX0_note_22 ?_
    refine v_iload_n hG 2 rfl rfl dX0_note_24 ?_
    refine v_i2l hG dX0_note_25 ?_
    refine c_s_46 hG dX0_note_26 hf (fun w26 hf => ?_)
    refine v_aload_n hG 1 rfl rfl dX0_note_27 ?_
    refine c_g_45_0 hG wk_205 dX0_note_28 ?_
    refine v_iload hG 0 rfl dX0_note_31 ?_
    refine v_iconst hG (v := 1) (by decide) dX0_note_33 ?_
    refine v_iadd hG dX0_note_34 ?_
    refine v_iload_n hG 3 rfl rfl dX0_note_35 ?_
    refine v_i2l hG dX0_note_36 ?_
    refine c_s_46 hG dX0_note_37 hf (fun w37 hf => ?_)
    refine v_aload_n hG 1 rfl rfl dX0_note_38 ?_
    refine c_g_45_0 hG wk_205 dX0_note_39 ?_
    refine v_iload hG 0 rfl dX0_note_42 ?_
    refine v_iconst hG (v := 2) (by decide) dX0_note_44 ?_
    refine v_iadd hG dX0_note_45 ?_
    refine v_iload_n hG 4 rfl rfl dX0_note_46 ?_
    refine v_i2l hG dX0_note_47 ?_
    refine c_s_46 hG dX0_note_48 hf (fun w48 hf => ?_)
    refine v_aload_n hG 1 rfl rfl dX0_note_49 ?_
    refine c_g_45_0 hG wk_205 dX0_note_50 ?_
    refine v_iload hG 0 rfl dX0_note_53 ?_
    refine v_iconst hG (v := 3) (by decide) dX0_note_55 ?_
    refine v_iadd hG dX0_note_56 ?_
    refine v_iload hG 5 rfl dX0_note_57 ?_
    refine v_i2l hG dX0_note_59 ?_
    refine c_s_46 hG dX0_note_60 hf (fun w60 hf => ?_)
    refine v_aload_n hG 1 rfl rfl dX0_note_61 ?_
    refine c_g_45_0 hG wk_205 dX0_note_62 ?_
    refine v_iload hG 0 rfl dX0_note_65 ?_
    refine v_iconst hG (v := 4) (by decide) dX0_note_67 ?_
    refine v_iadd hG dX0_note_68 ?_
    refine v_lload hG 6 rfl dX0_note_69 ?_
    refine c_s_46 hG dX0_note_71 hf (fun w71 hf => ?_)
    refine v_sub [(0, _)] [1] rfl ?_
    exact j72 w71 hf
