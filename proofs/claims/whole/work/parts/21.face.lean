def X8_column_J60  (j60_0 : CW) : Option ((String × CW) ⊕ (Int32 × CW)) := (some (.inl ("java/lang/IllegalArgumentException", j60_0)))
def X8_column (w : CW) (a0 : Int32) (a1 : Int32) (a2 : Int32) : Option ((String × CW) ⊕ (Int32 × CW)) := (if (gT_columns (gC_whole w)) < 12 then ((X8_beyond a0.toInt64 10000).bind (fun r27 : Int32 => (if r27 = 0 then ((X8_beyond a1.toInt64 10000).bind (fun r38 : Int32 => (if r38 = 0 then (if a1 < a0 then (X8_column_J60 w) else ((X8_beyond a2.toInt64 1000).bind (fun r54 : Int32 => (if r54 = 0 then ((X8_endSmall w).bind (fun r71 : CW => (if inR (gT_columns (gC_whole r71)) 12 = true then (bnd (sC_whole r71 (sT_low (gC_whole r71) (vp_updL (gT_low (gC_whole r71)) (gT_columns (gC_whole r71)).toNatClampNeg a0.toInt64))) (fun w94 : CW => (if inR (gT_columns (gC_whole r71)) 12 = true then (bnd (sC_whole w94 (sT_high (gC_whole w94) (vp_updL (gT_high (gC_whole w94)) (gT_columns (gC_whole r71)).toNatClampNeg a1.toInt64))) (fun w106 : CW => (if inR (gT_columns (gC_whole r71)) 12 = true then (bnd (sC_whole w106 (sT_cost (gC_whole w106) (vp_updL (gT_cost (gC_whole w106)) (gT_columns (gC_whole r71)).toNatClampNeg a2.toInt64))) (fun w118 : CW => (bnd (sC_whole w118 (sT_columns (gC_whole w118) ((gT_columns (gC_whole r71)) + 1))) (fun w127 : CW => (some (.inr ((gT_columns (gC_whole r71)), w127))))))) else none))) else none))) else none))) else (X8_column_J60 w))))) else (X8_column_J60 w)))) else (X8_column_J60 w)))) else (some (.inl ("java/lang/IllegalStateException", w))))
set_option maxRecDepth 100000 in
set_option maxHeartbeats 4000000 in
theorem ct_X8_column (l : Launch) (hl : l.stackTraces = false) (g : wG) (ad : Nat → Nat) (w : CW) (a0 : Int32) (a1 : Int32) (a2 : Int32) (rr : (String × CW) ⊕ (Int32 × CW)) (hf : X8_column w a0 a1 a2 = some rr) : MetX l g yX8_column cX8_column 5 (some .int) (x_rm 6 1 90) [.ref (ad 0), .int a0, .int a1, .int a2] (ccells g ad w) (Sum.elim (fun x : String × CW => .inl (x.1, ccells g ad x.2)) (fun r : (Int32 × CW) => .inr ((some (.int r.1)), (ccells g ad r.2))) rr) 1 6 := by
  refine MetX.of2 hl [(0, .ref (ad 0)), (1, .int a0), (2, .int a1), (3, .int a2)] rfl (by decide +kernel) (Nat.le_of_ble_eq_true rfl) ?_
  intro p e s m args below meth c hG hr hX
  unfold X8_column at hf
  have j60 : ∀ (j60_0 : CW), X8_column_J60 j60_0 = some rr → V p l e (x_rm 6 1 90) s m args below meth c (inW (ccells g ad w)) (EX below args s g (ccells g ad w) (Sum.elim (fun x : String × CW => .inl (x.1, ccells g ad x.2)) (fun r : (Int32 × CW) => .inr ((some (.int r.1)), (ccells g ad r.2))) rr) 1 6) g 5 (ccells g ad j60_0) 0 0 60 [] [] := by
    intro j60_0 hf
    unfold X8_column_J60 at hf
    cases hf
    exact x_throw hG rfl hX "a bound or the cost is not as told" "java/lang/IllegalArgumentException" thr_77 (by decide +kernel) dX8_column_60 dX8_column_63 dX8_column_64 dX8_column_66 dX8_column_69 ⟨Nat.le_of_ble_eq_true rfl, Nat.le_of_ble_eq_true rfl, Nat.le_of_ble_eq_true rfl, Nat.le_of_ble_eq_true rfl⟩ ⟨Nat.le_of_ble_eq_true rfl, Nat.le_of_ble_eq_true rfl⟩
  refine v_aload_n hG 0 rfl rfl dX8_column_0 ?_
  refine c_g_0_0 hG wk_361 dX8_column_1 ?_
  refine c_g_1_7 hG wk_155 dX8_column_4 ?_
  refine v_bipush hG (v := 12) (by decide) dX8_column_7 ?_
  refine v_icmp_lt hG 22 dX8_column_9 rfl hf (fun hf => ?_) (fun hf => ?_)
  · refine v_iload_n hG 1 rfl rfl dX8_column_22 ?_
    refine v_i2l hG dX8_column_23 ?_
    refine v_ldc2 hG wk_494 dX8_column_24 ?_
    obtain ⟨r27, hr27, hf⟩ := bd_some hf
    refine v_callP hG (st := []) (ct_X8_beyond l g a0.toInt64 10000 r27 hr27) sw_X8_beyond wk_495 ⟨rfl, rfl, Nat.le_of_ble_eq_true rfl, Nat.le_of_ble_eq_true rfl⟩ ⟨Nat.le_of_ble_eq_true rfl, Nat.le_of_ble_eq_true rfl⟩ rfl rfl (Nat.le_of_ble_eq_true rfl) dX8_column_27 ?_
    refine (show V p l e (x_rm 6 1 90) s m args below meth c (inW (ccells g ad w)) (EX below args s g (ccells g ad w) (Sum.elim (fun x : String × CW => .inl (x.1, ccells g ad x.2)) (fun r : (Int32 × CW) => .inr ((some (.int r.1)), (ccells g ad r.2))) rr) 1 6) g 5 (ccells g ad w) 0 0 30 [(0, .ref (ad 0)), (1, .int a0), (2, .int a1), (3, .int a2)] [.int r27] from ?_)
    refine v_if_ne hG 60 dX8_column_30 rfl hf (fun hf => ?_) (fun hf => ?_)
    · refine v_sub [] [] rfl ?_
      exact j60 w hf
    · refine v_iload_n hG 2 rfl rfl dX8_column_33 ?_
      refine v_i2l hG dX8_column_34 ?_
      refine v_ldc2 hG wk_494 dX8_column_35 ?_
      obtain ⟨r38, hr38, hf⟩ := bd_some hf
      refine v_callP hG (st := []) (ct_X8_beyond l g a1.toInt64 10000 r38 hr38) sw_X8_beyond wk_495 ⟨rfl, rfl, Nat.le_of_ble_eq_true rfl, Nat.le_of_ble_eq_true rfl⟩ ⟨Nat.le_of_ble_eq_true rfl, Nat.le_of_ble_eq_true rfl⟩ rfl rfl (Nat.le_of_ble_eq_true rfl) dX8_column_38 ?_
      refine (show V p l e (x_rm 6 1 90) s m args below meth c (inW (ccells g ad w)) (EX below args s g (ccells g ad w) (Sum.elim (fun x : String × CW => .inl (x.1, ccells g ad x.2)) (fun r : (Int32 × CW) => .inr ((some (.int r.1)), (ccells g ad r.2))) rr) 1 6) g 5 (ccells g ad w) 0 0 41 [(0, .ref (ad 0)), (1, .int a0), (2, .int a1), (3, .int a2)] [.int r38] from ?_)
      refine v_if_ne hG 60 dX8_column_41 rfl hf (fun hf => ?_) (fun hf => ?_)
      · refine v_sub [] [] rfl ?_
        exact j60 w hf
      · refine v_iload_n hG 1 rfl rfl dX8_column_44 ?_
        refine v_iload_n hG 2 rfl rfl dX8_column_45 ?_
        refine v_icmp_gt hG 60 dX8_column_46 rfl hf (fun hf => ?_) (fun hf => ?_)
        · refine v_sub [] [] rfl ?_
          exact j60 w hf
        · refine v_iload_n hG 3 rfl rfl dX8_column_49 ?_
          refine v_i2l hG dX8_column_50 ?_
          refine v_ldc2 hG wk_498 dX8_column_51 ?_
          obtain ⟨r54, hr54, hf⟩ := bd_some hf
          refine v_callP hG (st := []) (ct_X8_beyond l g a2.toInt64 1000 r54 hr54) sw_X8_beyond wk_495 ⟨rfl, rfl, Nat.le_of_ble_eq_true rfl, Nat.le_of_ble_eq_true rfl⟩ ⟨Nat.le_of_ble_eq_true rfl, Nat.le_of_ble_eq_true rfl⟩ rfl rfl (Nat.le_of_ble_eq_true rfl) dX8_column_54 ?_
          refine (show V p l e (x_rm 6 1 90) s m args below meth c (inW (ccells g ad w)) (EX below args s g (ccells g ad w) (Sum.elim (fun x : String × CW => .inl (x.1, ccells g ad x.2)) (fun r : (Int32 × CW) => .inr ((some (.int r.1)), (ccells g ad r.2))) rr) 1 6) g 5 (ccells g ad w) 0 0 57 [(0, .ref (ad 0)), (1, .int a0), (2, .int a1), (3, .int a2)] [.int r54] from ?_)
          refine v_if_eq hG 70 dX8_column_57 rfl hf (fun hf => ?_) (fun hf => ?_)
          · refine v_aload_n hG 0 rfl rfl dX8_column_70 ?_
            obtain ⟨r71, hr71, hf⟩ := bd_some hf
            refine v_callV hG (st := []) 0 8 (ct_X8_endSmall l g ad w  r71 hr71) iw_X8_endSmall wk_405 rfl rfl ⟨rfl, rfl, Nat.le_of_ble_eq_true rfl, Nat.le_of_ble_eq_true rfl⟩ ⟨Nat.le_of_ble_eq_true rfl, Nat.le_of_ble_eq_true rfl⟩ rfl rfl (Nat.le_of_ble_eq_true rfl) (ccells_fst _ _ _ _) dX8_column_71 ?_
            refine (show V p l e (x_rm 6 1 90) s m args below meth c (inW (ccells g ad w)) (EX below args s g (ccells g ad w) (Sum.elim (fun x : String × CW => .inl (x.1, ccells g ad x.2)) (fun r : (Int32 × CW) => .inr ((some (.int r.1)), (ccells g ad r.2))) rr) 1 6) g 5 (ccells g ad r71) 0 0 74 [(0, .ref (ad 0)), (1, .int a0), (2, .int a1), (3, .int a2)] [] from ?_)
            refine v_aload_n hG 0 rfl rfl dX8_column_74 ?_
            refine c_g_0_0 hG wk_361 dX8_column_75 ?_
            refine c_g_1_7 hG wk_155 dX8_column_78 ?_
            refine v_istore hG [(4, _), (0, _), (1, _), (2, _), (3, _)] dX8_column_81 (by decide) rfl ?_
            refine v_aload_n hG 1 rfl rfl dX8_column_83 ?_
            refine c_g_0_0 hG wk_361 dX8_column_84 ?_
            refine c_g_1_0 hG wk_118 dX8_column_87 ?_
            refine v_iload hG 0 rfl dX8_column_90 ?_
            refine v_iload_n hG 2 rfl rfl dX8_column_92 ?_
            refine v_i2l hG dX8_column_93 ?_
            refine c_s_2 hG dX8_column_94 hf (fun w94 hf => ?_)
            refine v_aload_n hG 1 rfl rfl dX8_column_95 ?_
            refine c_g_0_0 hG wk_361 dX8_column_96 ?_
            refine c_g_1_1 hG wk_124 dX8_column_99 ?_
            refine v_iload hG 0 rfl dX8_column_102 ?_
            refine v_iload_n hG 3 rfl rfl dX8_column_104 ?_
            refine v_i2l hG dX8_column_105 ?_
            refine c_s_3 hG dX8_column_106 hf (fun w106 hf => ?_)
            refine v_aload_n hG 1 rfl rfl dX8_column_107 ?_
            refine c_g_0_0 hG wk_361 dX8_column_108 ?_
            refine c_g_1_2 hG wk_130 dX8_column_111 ?_
            refine v_iload hG 0 rfl dX8_column_114 ?_
            refine v_iload_n hG 4 rfl rfl dX8_column_116 ?_
            refine v_i2l hG dX8_column_117 ?_
            refine c_s_4 hG dX8_column_118 hf (fun w118 hf => ?_)
            refine v_aload_n hG 1 rfl rfl dX8_column_119 ?_
            refine c_g_0_0 hG wk_361 dX8_column_120 ?_
            refine v_iload hG 0 rfl dX8_column_123 ?_
            refine v_iconst hG (v := 1) (by decide) dX8_column_125 ?_
            refine v_iadd hG dX8_column_126 ?_
            refine c_p_1_7 hG wk_155 dX8_column_127 hf (fun w127 hf => ?_)
            refine v_iload hG 0 rfl dX8_column_130 ?_
            cases hf
            exact x_iret hG hr ⟨Nat.le_of_ble_eq_true rfl, Nat.le_of_ble_eq_true rfl⟩ dX8_column_132
          · refine v_sub [] [] rfl ?_
            exact j60 w hf
  · cases hf
    exact x_throw hG rfl hX "there are 12 columns" "java/lang/IllegalStateException" thr_62 (by decide +kernel) dX8_column_12 dX8_column_15 dX8_column_16 dX8_column_18 dX8_column_21 ⟨Nat.le_of_ble_eq_true rfl, Nat.le_of_ble_eq_true rfl, Nat.le_of_ble_eq_true rfl, Nat.le_of_ble_eq_true rfl⟩ ⟨Nat.le_of_ble_eq_true rfl, Nat.le_of_ble_eq_true rfl⟩
def X8_row_J42  (j42_0 : CW) : Option ((String × CW) ⊕ (Int32 × CW)) := (some (.inl ("java/lang/IllegalArgumentException", j42_0)))
def X8_row_J31 (a0 : Int32) (a1 : Int32) (j31_0 : CW) : Option ((String × CW) ⊕ (Int32 × CW)) := ((X8_beyond a1.toInt64 1000000).bind (fun r36 : Int32 => (if r36 = 0 then ((X8_endSmall j31_0).bind (fun r53 : CW => (if inR (gT_rows (gC_whole r53)) 12 = true then (bnd (sC_whole r53 (sT_kind (gC_whole r53) (upd (gT_kind (gC_whole r53)) (gT_rows (gC_whole r53)).toNatClampNeg a0))) (fun w73 : CW => (if inR (gT_rows (gC_whole r53)) 12 = true then (bnd (sC_whole w73 (sT_right (gC_whole w73) (vp_updL (gT_right (gC_whole w73)) (gT_rows (gC_whole r53)).toNatClampNeg a1.toInt64))) (fun w84 : CW => (bnd (sC_whole w84 (sT_rows (gC_whole w84) ((gT_rows (gC_whole r53)) + 1))) (fun w92 : CW => (some (.inr ((gT_rows (gC_whole r53)), w92))))))) else none))) else none))) else (X8_row_J42 j31_0))))
def X8_row (w : CW) (a0 : Int32) (a1 : Int32) : Option ((String × CW) ⊕ (Int32 × CW)) := (if (gT_rows (gC_whole w)) < 12 then (if a0 = 0 then (X8_row_J31 a0 a1 w) else (if a0 = 1 then (X8_row_J31 a0 a1 w) else (X8_row_J42 w))) else (some (.inl ("java/lang/IllegalStateException", w))))
set_option maxRecDepth 100000 in
set_option maxHeartbeats 4000000 in
theorem ct_X8_row (l : Launch) (hl : l.stackTraces = false) (g : wG) (ad : Nat → Nat) (w : CW) (a0 : Int32) (a1 : Int32) (rr : (String × CW) ⊕ (Int32 × CW)) (hf : X8_row w a0 a1 = some rr) : MetX l g yX8_row cX8_row 4 (some .int) (x_rm 6 1 90) [.ref (ad 0), .int a0, .int a1] (ccells g ad w) (Sum.elim (fun x : String × CW => .inl (x.1, ccells g ad x.2)) (fun r : (Int32 × CW) => .inr ((some (.int r.1)), (ccells g ad r.2))) rr) 1 6 := by
  refine MetX.of2 hl [(0, .ref (ad 0)), (1, .int a0), (2, .int a1)] rfl (by decide +kernel) (Nat.le_of_ble_eq_true rfl) ?_
  intro p e s m args below meth c hG hr hX
  unfold X8_row at hf
  have j42 : ∀ (j42_0 : CW), X8_row_J42 j42_0 = some rr → V p l e (x_rm 6 1 90) s m args below meth c (inW (ccells g ad w)) (EX below args s g (ccells g ad w) (Sum.elim (fun x : String × CW => .inl (x.1, ccells g ad x.2)) (fun r : (Int32 × CW) => .inr ((some (.int r.1)), (ccells g ad r.2))) rr) 1 6) g 4 (ccells g ad j42_0) 0 0 42 [] [] := by
    intro j42_0 hf
    unfold X8_row_J42 at hf
    cases hf
    exact x_throw hG rfl hX "the kind or the right is not as told" "java/lang/IllegalArgumentException" thr_77 (by decide +kernel) dX8_row_42 dX8_row_45 dX8_row_46 dX8_row_48 dX8_row_51 ⟨Nat.le_of_ble_eq_true rfl, Nat.le_of_ble_eq_true rfl, Nat.le_of_ble_eq_true rfl, Nat.le_of_ble_eq_true rfl⟩ ⟨Nat.le_of_ble_eq_true rfl, Nat.le_of_ble_eq_true rfl⟩
  have j31 : ∀ (j31_0 : CW), X8_row_J31 a0 a1 j31_0 = some rr → V p l e (x_rm 6 1 90) s m args below meth c (inW (ccells g ad w)) (EX below args s g (ccells g ad w) (Sum.elim (fun x : String × CW => .inl (x.1, ccells g ad x.2)) (fun r : (Int32 × CW) => .inr ((some (.int r.1)), (ccells g ad r.2))) rr) 1 6) g 4 (ccells g ad j31_0) 0 0 31 [(0, .ref (ad 0)), (1, .int a0), (2, .int a1)] [] := by
    intro j31_0 hf
    unfold X8_row_J31 at hf
    refine v_iload_n hG 2 rfl rfl dX8_row_31 ?_
    refine v_i2l hG dX8_row_32 ?_
    refine v_ldc2 hG wk_523 dX8_row_33 ?_
    obtain ⟨r36, hr36, hf⟩ := bd_some hf
    refine v_callP hG (st := []) (ct_X8_beyond l g a1.toInt64 1000000 r36 hr36) sw_X8_beyond wk_495 ⟨rfl, rfl, Nat.le_of_ble_eq_true rfl, Nat.le_of_ble_eq_true rfl⟩ ⟨Nat.le_of_ble_eq_true rfl, Nat.le_of_ble_eq_true rfl⟩ rfl rfl (Nat.le_of_ble_eq_true rfl) dX8_row_36 ?_
    refine (show V p l e (x_rm 6 1 90) s m args below meth c (inW (ccells g ad w)) (EX below args s g (ccells g ad w) (Sum.elim (fun x : String × CW => .inl (x.1, ccells g ad x.2)) (fun r : (Int32 × CW) => .inr ((some (.int r.1)), (ccells g ad r.2))) rr) 1 6) g 4 (ccells g ad j31_0) 0 0 39 [(0, .ref (ad 0)), (1, .int a0), (2, .int a1)] [.int r36] from ?_)
    refine v_if_eq hG 52 dX8_row_39 rfl hf (fun hf => ?_) (fun hf => ?_)
    · refine v_aload_n hG 0 rfl rfl dX8_row_52 ?_
      obtain ⟨r53, hr53, hf⟩ := bd_some hf
      refine v_callV hG (st := []) 0 8 (ct_X8_endSmall l g ad j31_0  r53 hr53) iw_X8_endSmall wk_405 rfl rfl ⟨rfl, rfl, Nat.le_of_ble_eq_true rfl, Nat.le_of_ble_eq_true rfl⟩ ⟨Nat.le_of_ble_eq_true rfl, Nat.le_of_ble_eq_true rfl⟩ rfl rfl (Nat.le_of_ble_eq_true rfl) (ccells_fst _ _ _ _) dX8_row_53 ?_
      refine (show V p l e (x_rm 6 1 90) s m args below meth c (inW (ccells g ad w)) (EX below args s g (ccells g ad w) (Sum.elim (fun x : String × CW => .inl (x.1, ccells g ad x.2)) (fun r : (Int32 × CW) => .inr ((some (.int r.1)), (ccells g ad r.2))) rr) 1 6) g 4 (ccells g ad r53) 0 0 56 [(0, .ref (ad 0)), (1, .int a0), (2, .int a1)] [] from ?_)
      refine v_aload_n hG 0 rfl rfl dX8_row_56 ?_
      refine c_g_0_0 hG wk_361 dX8_row_57 ?_
      refine c_g_1_8 hG wk_165 dX8_row_60 ?_
      refine v_istore_n hG [(3, _), (0, _), (1, _), (2, _)] dX8_row_63 rfl (by decide) rfl ?_
      refine v_aload_n hG 1 rfl rfl dX8_row_64 ?_
      refine c_g_0_0 hG wk_361 dX8_row_65 ?_
      refine c_g_1_4 hG wk_139 dX8_row_68 ?_
      refine v_iload_n hG 0 rfl rfl dX8_row_71 ?_
      refine v_iload_n hG 2 rfl rfl dX8_row_72 ?_
      refine c_s_6 hG dX8_row_73 hf (fun w73 hf => ?_)
      refine v_aload_n hG 1 rfl rfl dX8_row_74 ?_
      refine c_g_0_0 hG wk_361 dX8_row_75 ?_
      refine c_g_1_5 hG wk_145 dX8_row_78 ?_
      refine v_iload_n hG 0 rfl rfl dX8_row_81 ?_
      refine v_iload_n hG 3 rfl rfl dX8_row_82 ?_
      refine v_i2l hG dX8_row_83 ?_
      refine c_s_7 hG dX8_row_84 hf (fun w84 hf => ?_)
      refine v_aload_n hG 1 rfl rfl dX8_row_85 ?_
      refine c_g_0_0 hG wk_361 dX8_row_86 ?_
      refine v_iload_n hG 0 rfl rfl dX8_row_89 ?_
      refine v_iconst hG (v := 1) (by decide) dX8_row_90 ?_
      refine v_iadd hG dX8_row_91 ?_
      refine c_p_1_8 hG wk_165 dX8_row_92 hf (fun w92 hf => ?_)
      refine v_iload_n hG 0 rfl rfl dX8_row_95 ?_
      cases hf
      exact x_iret hG hr ⟨Nat.le_of_ble_eq_true rfl, Nat.le_of_ble_eq_true rfl⟩ dX8_row_96
    · refine v_sub [] [] rfl ?_
      exact j42 j31_0 hf
  refine v_aload_n hG 0 rfl rfl dX8_row_0 ?_
  refine c_g_0_0 hG wk_361 dX8_row_1 ?_
  refine c_g_1_8 hG wk_165 dX8_row_4 ?_
  refine v_bipush hG (v := 12) (by decide) dX8_row_7 ?_
  refine v_icmp_lt hG 22 dX8_row_9 rfl hf (fun hf => ?_) (fun hf => ?_)
  · refine v_iload_n hG 1 rfl rfl dX8_row_22 ?_
    refine v_if_eq hG 31 dX8_row_23 rfl hf (fun hf => ?_) (fun hf => ?_)
    · exact j31 w hf
    · refine v_iload_n hG 1 rfl rfl dX8_row_26 ?_
      refine v_iconst hG (v := 1) (by decide) dX8_row_27 ?_
      refine v_icmp_ne hG 42 dX8_row_28 rfl hf (fun hf => ?_) (fun hf => ?_)
      · refine v_sub [] [] rfl ?_
        exact j42 w hf
      · exact j31 w hf
  · cases hf
    exact x_throw hG rfl hX "there are 12 rows" "java/lang/IllegalStateException" thr_62 (by decide +kernel) dX8_row_12 dX8_row_15 dX8_row_16 dX8_row_18 dX8_row_21 ⟨Nat.le_of_ble_eq_true rfl, Nat.le_of_ble_eq_true rfl, Nat.le_of_ble_eq_true rfl, Nat.le_of_ble_eq_true rfl⟩ ⟨Nat.le_of_ble_eq_true rfl, Nat.le_of_ble_eq_true rfl⟩
def X8_needRow_J15 (w : CW)  : Option ((String × CW) ⊕ (Unit)) := (some (.inl ("java/lang/IndexOutOfBoundsException", w)))
def X8_needRow (w : CW) (a0 : Int32) : Option ((String × CW) ⊕ (Unit)) := (if a0 < 0 then (X8_needRow_J15 w) else (if a0 < (gT_rows (gC_whole w)) then (some (.inr ())) else (X8_needRow_J15 w)))
set_option maxRecDepth 100000 in
set_option maxHeartbeats 4000000 in
theorem ct_X8_needRow (l : Launch) (hl : l.stackTraces = false) (g : wG) (ad : Nat → Nat) (w : CW) (a0 : Int32) (rr : (String × CW) ⊕ (Unit)) (hf : X8_needRow w a0 = some rr) : MetX l g yX8_needRow cX8_needRow 2 none (x_rm 6 1 90) [.ref (ad 0), .int a0] (ccells g ad w) (Sum.elim (fun x : String × CW => .inl (x.1, ccells g ad x.2)) (fun r : (Unit) => .inr (none, (ccells g ad w))) rr) 1 6 := by
  refine MetX.of2 hl [(0, .ref (ad 0)), (1, .int a0)] rfl (by decide +kernel) (Nat.le_of_ble_eq_true rfl) ?_
  intro p e s m args below meth c hG hr hX
  unfold X8_needRow at hf
  have j15 : X8_needRow_J15 w = some rr → V p l e (x_rm 6 1 90) s m args below meth c (inW (ccells g ad w)) (EX below args s g (ccells g ad w) (Sum.elim (fun x : String × CW => .inl (x.1, ccells g ad x.2)) (fun r : (Unit) => .inr (none, (ccells g ad w))) rr) 1 6) g 2 (ccells g ad w) 0 0 15 [] [] := by
    intro hf
    unfold X8_needRow_J15 at hf
    cases hf
    exact x_throwW hG rfl hX "there is no such row" "java/lang/IndexOutOfBoundsException" thr_206 (by decide +kernel) dX8_needRow_15 dX8_needRow_18 dX8_needRow_19 dX8_needRow_22 dX8_needRow_25 ⟨Nat.le_of_ble_eq_true rfl, Nat.le_of_ble_eq_true rfl, Nat.le_of_ble_eq_true rfl, Nat.le_of_ble_eq_true rfl⟩ ⟨Nat.le_of_ble_eq_true rfl, Nat.le_of_ble_eq_true rfl⟩
  refine v_iload_n hG 1 rfl rfl dX8_needRow_0 ?_
  refine v_if_lt hG 15 dX8_needRow_1 rfl hf (fun hf => ?_) (fun hf => ?_)
  · refine v_sub [] [] rfl ?_
    exact j15  hf
  · refine v_iload_n hG 1 rfl rfl dX8_needRow_4 ?_
    refine v_aload_n hG 0 rfl rfl dX8_needRow_5 ?_
    refine c_g_0_0 hG wk_361 dX8_needRow_6 ?_
    refine c_g_1_8 hG wk_165 dX8_needRow_9 ?_
    refine v_icmp_lt hG 26 dX8_needRow_12 rfl hf (fun hf => ?_) (fun hf => ?_)
    · cases hf
      exact x_vret hG hr ⟨Nat.le_of_ble_eq_true rfl, Nat.le_of_ble_eq_true rfl⟩ dX8_needRow_26
    · refine v_sub [] [] rfl ?_
      exact j15  hf
def X8_needColumn_J15 (w : CW)  : Option ((String × CW) ⊕ (Unit)) := (some (.inl ("java/lang/IndexOutOfBoundsException", w)))
def X8_needColumn (w : CW) (a0 : Int32) : Option ((String × CW) ⊕ (Unit)) := (if a0 < 0 then (X8_needColumn_J15 w) else (if a0 < (gT_columns (gC_whole w)) then (some (.inr ())) else (X8_needColumn_J15 w)))
set_option maxRecDepth 100000 in
set_option maxHeartbeats 4000000 in
theorem ct_X8_needColumn (l : Launch) (hl : l.stackTraces = false) (g : wG) (ad : Nat → Nat) (w : CW) (a0 : Int32) (rr : (String × CW) ⊕ (Unit)) (hf : X8_needColumn w a0 = some rr) : MetX l g yX8_needColumn cX8_needColumn 2 none (x_rm 6 1 90) [.ref (ad 0), .int a0] (ccells g ad w) (Sum.elim (fun x : String × CW => .inl (x.1, ccells g ad x.2)) (fun r : (Unit) => .inr (none, (ccells g ad w))) rr) 1 6 := by
  refine MetX.of2 hl [(0, .ref (ad 0)), (1, .int a0)] rfl (by decide +kernel) (Nat.le_of_ble_eq_true rfl) ?_
  intro p e s m args below meth c hG hr hX
  unfold X8_needColumn at hf
  have j15 : X8_needColumn_J15 w = some rr → V p l e (x_rm 6 1 90) s m args below meth c (inW (ccells g ad w)) (EX below args s g (ccells g ad w) (Sum.elim (fun x : String × CW => .inl (x.1, ccells g ad x.2)) (fun r : (Unit) => .inr (none, (ccells g ad w))) rr) 1 6) g 2 (ccells g ad w) 0 0 15 [] [] := by
    intro hf
    unfold X8_needColumn_J15 at hf
    cases hf
    exact x_throwW hG rfl hX "there is no such column" "java/lang/IndexOutOfBoundsException" thr_206 (by decide +kernel) dX8_needColumn_15 dX8_needColumn_18 dX8_needColumn_19 dX8_needColumn_22 dX8_needColumn_25 ⟨Nat.le_of_ble_eq_true rfl, Nat.le_of_ble_eq_true rfl, Nat.le_of_ble_eq_true rfl, Nat.le_of_ble_eq_true rfl⟩ ⟨Nat.le_of_ble_eq_true rfl, Nat.le_of_ble_eq_true rfl⟩
  refine v_iload_n hG 1 rfl rfl dX8_needColumn_0 ?_
  refine v_if_lt hG 15 dX8_needColumn_1 rfl hf (fun hf => ?_) (fun hf => ?_)
  · refine v_sub [] [] rfl ?_
    exact j15  hf
  · refine v_iload_n hG 1 rfl rfl dX8_needColumn_4 ?_
    refine v_aload_n hG 0 rfl rfl dX8_needColumn_5 ?_
    refine c_g_0_0 hG wk_361 dX8_needColumn_6 ?_
    refine c_g_1_7 hG wk_155 dX8_needColumn_9 ?_
    refine v_icmp_lt hG 26 dX8_needColumn_12 rfl hf (fun hf => ?_) (fun hf => ?_)
    · cases hf
      exact x_vret hG hr ⟨Nat.le_of_ble_eq_true rfl, Nat.le_of_ble_eq_true rfl⟩ dX8_needColumn_26
    · refine v_sub [] [] rfl ?_
      exact j15  hf
def X8_term (w : CW) (a0 : Int32) (a1 : Int32) (a2 : Int32) : Option ((String × CW) ⊕ (CW)) := ((X8_needRow w a0).bind (fun r2 : (String × CW) ⊕ (Unit) => Sum.elim (fun x2 : String × CW => some (.inl x2)) (fun r2 : Unit => ((X8_needColumn w a1).bind (fun r7 : (String × CW) ⊕ (Unit) => Sum.elim (fun x7 : String × CW => some (.inl x7)) (fun r7 : Unit => ((X8_beyond a2.toInt64 1000).bind (fun r15 : Int32 => (if r15 = 0 then ((X8_endSmall w).bind (fun r32 : CW => (if inR a0 12 = true then (if inR a1 12 = true then (bnd (sC_whole r32 (sT_a (gC_whole r32) (va_up (gT_a (gC_whole r32)) a0.toNatClampNeg (vp_updL ((gT_a (gC_whole r32)) a0.toNatClampNeg) a1.toNatClampNeg a2.toInt64)))) (fun w47 : CW => (some (.inr w47)))) else none) else none))) else (some (.inl ("java/lang/IllegalArgumentException", w))))))) r7))) r2))
set_option maxRecDepth 100000 in
set_option maxHeartbeats 4000000 in
theorem ct_X8_term (l : Launch) (hl : l.stackTraces = false) (g : wG) (ad : Nat → Nat) (w : CW) (a0 : Int32) (a1 : Int32) (a2 : Int32) (rr : (String × CW) ⊕ (CW)) (hf : X8_term w a0 a1 a2 = some rr) : MetX l g yX8_term cX8_term 4 none (x_rm 7 3 111) [.ref (ad 0), .int a0, .int a1, .int a2] (ccells g ad w) (Sum.elim (fun x : String × CW => .inl (x.1, ccells g ad x.2)) (fun r : (CW) => .inr (none, (ccells g ad r))) rr) 3 18 := by
  refine MetX.of2 hl [(0, .ref (ad 0)), (1, .int a0), (2, .int a1), (3, .int a2)] rfl (by decide +kernel) (Nat.le_of_ble_eq_true rfl) ?_
  intro p e s m args below meth c hG hr hX
  unfold X8_term at hf
  refine v_aload_n hG 0 rfl rfl dX8_term_0 ?_
  refine v_iload_n hG 1 rfl rfl dX8_term_1 ?_
  obtain ⟨r2, hr2, hf⟩ := bd_some hf
  rcases r2 with x2 | r2
  · simp only [Sum.elim_inl] at hf
    cases hf
    exact x_callT hG hX (st := []) 0 8 (ct_X8_needRow l hl g ad w a0 (.inl x2) hr2) iw_X8_needRow wk_533 rfl rfl ⟨rfl, rfl, Nat.le_of_ble_eq_true rfl, Nat.le_of_ble_eq_true rfl⟩ ⟨Nat.le_of_ble_eq_true rfl, Nat.le_of_ble_eq_true rfl⟩ rfl rfl (Nat.le_of_ble_eq_true rfl) dX8_term_2 ⟨Nat.le_of_ble_eq_true rfl, Nat.le_of_ble_eq_true rfl⟩
  · simp only [Sum.elim_inr] at hf
    refine x_callR hG hX (st := []) 0 8 (ct_X8_needRow l hl g ad w a0 (.inr r2) hr2) iw_X8_needRow wk_533 rfl rfl ⟨rfl, rfl, Nat.le_of_ble_eq_true rfl, Nat.le_of_ble_eq_true rfl⟩ ⟨Nat.le_of_ble_eq_true rfl, Nat.le_of_ble_eq_true rfl⟩ rfl rfl (Nat.le_of_ble_eq_true rfl) (ccells_fst _ _ _ _) dX8_term_2 ?_
    refine (show V p l e (x_rm 7 3 111) s m args below meth c (inW (ccells g ad w)) (EX below args s g (ccells g ad w) (Sum.elim (fun x : String × CW => .inl (x.1, ccells g ad x.2)) (fun r : (CW) => .inr (none, (ccells g ad r))) rr) 3 18) g 4 (ccells g ad w) 1 6 5 [(0, .ref (ad 0)), (1, .int a0), (2, .int a1), (3, .int a2)] [] from ?_)
    refine v_aload_n hG 0 rfl rfl dX8_term_5 ?_
    refine v_iload_n hG 2 rfl rfl dX8_term_6 ?_
    obtain ⟨r7, hr7, hf⟩ := bd_some hf
    rcases r7 with x7 | r7
    · simp only [Sum.elim_inl] at hf
      cases hf
      exact x_callT hG hX (st := []) 0 8 (ct_X8_needColumn l hl g ad w a1 (.inl x7) hr7) iw_X8_needColumn wk_553 rfl rfl ⟨rfl, rfl, Nat.le_of_ble_eq_true rfl, Nat.le_of_ble_eq_true rfl⟩ ⟨Nat.le_of_ble_eq_true rfl, Nat.le_of_ble_eq_true rfl⟩ rfl rfl (Nat.le_of_ble_eq_true rfl) dX8_term_7 ⟨Nat.le_of_ble_eq_true rfl, Nat.le_of_ble_eq_true rfl⟩
    · simp only [Sum.elim_inr] at hf
      refine x_callR hG hX (st := []) 0 8 (ct_X8_needColumn l hl g ad w a1 (.inr r7) hr7) iw_X8_needColumn wk_553 rfl rfl ⟨rfl, rfl, Nat.le_of_ble_eq_true rfl, Nat.le_of_ble_eq_true rfl⟩ ⟨Nat.le_of_ble_eq_true rfl, Nat.le_of_ble_eq_true rfl⟩ rfl rfl (Nat.le_of_ble_eq_true rfl) (ccells_fst _ _ _ _) dX8_term_7 ?_
      refine (show V p l e (x_rm 7 3 111) s m args below meth c (inW (ccells g ad w)) (EX below args s g (ccells g ad w) (Sum.elim (fun x : String × CW => .inl (x.1, ccells g ad x.2)) (fun r : (CW) => .inr (none, (ccells g ad r))) rr) 3 18) g 4 (ccells g ad w) 2 12 10 [(0, .ref (ad 0)), (1, .int a0), (2, .int a1), (3, .int a2)] [] from ?_)
      refine v_iload_n hG 3 rfl rfl dX8_term_10 ?_
      refine v_i2l hG dX8_term_11 ?_
      refine v_ldc2 hG wk_498 dX8_term_12 ?_
      obtain ⟨r15, hr15, hf⟩ := bd_some hf
      refine v_callP hG (st := []) (ct_X8_beyond l g a2.toInt64 1000 r15 hr15) sw_X8_beyond wk_495 ⟨rfl, rfl, Nat.le_of_ble_eq_true rfl, Nat.le_of_ble_eq_true rfl⟩ ⟨Nat.le_of_ble_eq_true rfl, Nat.le_of_ble_eq_true rfl⟩ rfl rfl (Nat.le_of_ble_eq_true rfl) dX8_term_15 ?_
      refine (show V p l e (x_rm 7 3 111) s m args below meth c (inW (ccells g ad w)) (EX below args s g (ccells g ad w) (Sum.elim (fun x : String × CW => .inl (x.1, ccells g ad x.2)) (fun r : (CW) => .inr (none, (ccells g ad r))) rr) 3 18) g 4 (ccells g ad w) 2 12 18 [(0, .ref (ad 0)), (1, .int a0), (2, .int a1), (3, .int a2)] [.int r15] from ?_)
      refine v_if_eq hG 31 dX8_term_18 rfl hf (fun hf => ?_) (fun hf => ?_)
      · refine v_aload_n hG 0 rfl rfl dX8_term_31 ?_
        obtain ⟨r32, hr32, hf⟩ := bd_some hf
        refine v_callV hG (st := []) 0 8 (ct_X8_endSmall l g ad w  r32 hr32) iw_X8_endSmall wk_405 rfl rfl ⟨rfl, rfl, Nat.le_of_ble_eq_true rfl, Nat.le_of_ble_eq_true rfl⟩ ⟨Nat.le_of_ble_eq_true rfl, Nat.le_of_ble_eq_true rfl⟩ rfl rfl (Nat.le_of_ble_eq_true rfl) (ccells_fst _ _ _ _) dX8_term_32 ?_
        refine (show V p l e (x_rm 7 3 111) s m args below meth c (inW (ccells g ad w)) (EX below args s g (ccells g ad w) (Sum.elim (fun x : String × CW => .inl (x.1, ccells g ad x.2)) (fun r : (CW) => .inr (none, (ccells g ad r))) rr) 3 18) g 4 (ccells g ad r32) 2 12 35 [(0, .ref (ad 0)), (1, .int a0), (2, .int a1), (3, .int a2)] [] from ?_)
        refine v_aload_n hG 0 rfl rfl dX8_term_35 ?_
        refine c_g_0_0 hG wk_361 dX8_term_36 ?_
        refine c_g_1_6 hG wk_152 dX8_term_39 ?_
        refine v_iload_n hG 1 rfl rfl dX8_term_42 ?_
        refine c_o_8 hG dX8_term_43 hf (fun hi43 hf => ?_)
        refine v_iload_n hG 2 rfl rfl dX8_term_44 ?_
        refine v_iload_n hG 3 rfl rfl dX8_term_45 ?_
        refine v_i2l hG dX8_term_46 ?_
        refine c_rs_8 hG hi43 dX8_term_47 hf (fun w47 hf => ?_)
        cases hf
        exact x_vret hG hr ⟨Nat.le_of_ble_eq_true rfl, Nat.le_of_ble_eq_true rfl⟩ dX8_term_48
      · cases hf
        exact x_throw hG rfl hX "the coefficient is not -1000 .. 1000" "java/lang/IllegalArgumentException" thr_77 (by decide +kernel) dX8_term_21 dX8_term_24 dX8_term_25 dX8_term_27 dX8_term_30 ⟨Nat.le_of_ble_eq_true rfl, Nat.le_of_ble_eq_true rfl, Nat.le_of_ble_eq_true rfl, Nat.le_of_ble_eq_true rfl⟩ ⟨Nat.le_of_ble_eq_true rfl, Nat.le_of_ble_eq_true rfl⟩
def X8_shrink_J22  (j22_0 : CW) : Option ((String × CW) ⊕ (Int32 × CW)) := (some (.inl ("java/lang/IllegalArgumentException", j22_0)))
def X8_shrink_J112  (j112_0 : CW) (j112_1 : Int32) (j112_2 : Int32) : Option ((CW × Int32 × Int32) ⊕ ((CW) ⊕ (CW × Int32))) := (some (.inl (j112_0, (j112_1 + 1), j112_2)))
def X8_shrink_L57 (a0 : Int32) (a1 : Int32) (s57 : CW × Int32 × Int32) : Option ((CW × Int32 × Int32) ⊕ ((CW) ⊕ (CW × Int32))) := (if a1 ≤ s57.2.1 then (some (.inr (.inr (s57.1, s57.2.1)))) else (if s57.2.2 = 0 then (some (.inr (.inr (s57.1, s57.2.1)))) else ((X3_doRound s57.1 a0).bind (fun r84 : Int32 × CW => (if r84.1 = 0 then (some (.inr (.inl r84.2))) else (if (gC_count r84.2) ≤ (gC_count s57.1) then (X8_shrink_J112 r84.2 s57.2.1 0) else (X8_shrink_J112 r84.2 s57.2.1 1)))))))
def X8_shrink (w : CW) (a0 : Int32) (a1 : Int32) : Option ((String × CW) ⊕ (Int32 × CW)) := (if a0 < 0 then (X8_shrink_J22 w) else (if 2047 < a0 then (X8_shrink_J22 w) else (if a1 < 1 then (X8_shrink_J22 w) else (if a1 ≤ 50 then ((X8_endPoints w).bind (fun r33 : CW => (bnd (sC_hasSmall r33 1) (fun w38 : CW => ((X5_beginAs w38).bind (fun r49 : CW => ((iter (X8_shrink_L57 a0 a1) 5000 (r49, 0, 1)).bind (fun z57 : (CW) ⊕ (CW × Int32) => (Sum.elim (fun z57_0 : CW => (some (.inr (0, z57_0)))) (fun z57_r0 : (CW × Int32) => (some (.inr (z57_r0.2, z57_r0.1)))) z57))))))))) else (X8_shrink_J22 w)))))
set_option maxRecDepth 100000 in
set_option maxHeartbeats 4000000 in
theorem ct_X8_shrink (l : Launch) (hl : l.stackTraces = false) (g : wG) (ad : Nat → Nat) (w : CW) (a0 : Int32) (a1 : Int32) (rr : (String × CW) ⊕ (Int32 × CW)) (hf : X8_shrink w a0 a1 = some rr) : MetX l g yX8_shrink cX8_shrink 6 (some .int) (x_rm 7 1 165) [.ref (ad 0), .int a0, .int a1] (ccells g ad w) (Sum.elim (fun x : String × CW => .inl (x.1, ccells g ad x.2)) (fun r : (Int32 × CW) => .inr ((some (.int r.1)), (ccells g ad r.2))) rr) 1 6 := by
  refine MetX.of2 hl [(0, .ref (ad 0)), (1, .int a0), (2, .int a1)] rfl (by decide +kernel) (Nat.le_of_ble_eq_true rfl) ?_
  intro p e s m args below meth c hG hr hX
  unfold X8_shrink at hf
  have j22 : ∀ (j22_0 : CW), X8_shrink_J22 j22_0 = some rr → V p l e (x_rm 7 1 165) s m args below meth c (inW (ccells g ad w)) (EX below args s g (ccells g ad w) (Sum.elim (fun x : String × CW => .inl (x.1, ccells g ad x.2)) (fun r : (Int32 × CW) => .inr ((some (.int r.1)), (ccells g ad r.2))) rr) 1 6) g 6 (ccells g ad j22_0) 0 0 22 [] [] := by
    intro j22_0 hf
    unfold X8_shrink_J22 at hf
    cases hf
    exact x_throw hG rfl hX "rules are not 0 .. 2047, or rounds not 1 .. 50" "java/lang/IllegalArgumentException" thr_77 (by decide +kernel) dX8_shrink_22 dX8_shrink_25 dX8_shrink_26 dX8_shrink_28 dX8_shrink_31 ⟨Nat.le_of_ble_eq_true rfl, Nat.le_of_ble_eq_true rfl, Nat.le_of_ble_eq_true rfl, Nat.le_of_ble_eq_true rfl⟩ ⟨Nat.le_of_ble_eq_true rfl, Nat.le_of_ble_eq_true rfl⟩
  refine v_iload_n hG 1 rfl rfl dX8_shrink_0 ?_
  refine v_if_lt hG 22 dX8_shrink_1 rfl hf (fun hf => ?_) (fun hf => ?_)
  · refine v_sub [] [] rfl ?_
    exact j22 w hf
  · refine v_iload_n hG 1 rfl rfl dX8_shrink_4 ?_
    refine v_sipush hG (v := 2047) (by decide) dX8_shrink_5 ?_
    refine v_icmp_gt hG 22 dX8_shrink_8 rfl hf (fun hf => ?_) (fun hf => ?_)
    · refine v_sub [] [] rfl ?_
      exact j22 w hf
    · refine v_iload_n hG 2 rfl rfl dX8_shrink_11 ?_
      refine v_iconst hG (v := 1) (by decide) dX8_shrink_12 ?_
      refine v_icmp_lt hG 22 dX8_shrink_13 rfl hf (fun hf => ?_) (fun hf => ?_)
      · refine v_sub [] [] rfl ?_
        exact j22 w hf
      · refine v_iload_n hG 2 rfl rfl dX8_shrink_16 ?_
        refine v_bipush hG (v := 50) (by decide) dX8_shrink_17 ?_
        refine v_icmp_le hG 32 dX8_shrink_19 rfl hf (fun hf => ?_) (fun hf => ?_)
        · refine v_aload_n hG 0 rfl rfl dX8_shrink_32 ?_
          obtain ⟨r33, hr33, hf⟩ := bd_some hf
          refine v_callV hG (st := []) 0 8 (ct_X8_endPoints l g ad w  r33 hr33) iw_X8_endPoints wk_409 rfl rfl ⟨rfl, rfl, Nat.le_of_ble_eq_true rfl, Nat.le_of_ble_eq_true rfl⟩ ⟨Nat.le_of_ble_eq_true rfl, Nat.le_of_ble_eq_true rfl⟩ rfl rfl (Nat.le_of_ble_eq_true rfl) (ccells_fst _ _ _ _) dX8_shrink_33 ?_
          refine (show V p l e (x_rm 7 1 165) s m args below meth c (inW (ccells g ad w)) (EX below args s g (ccells g ad w) (Sum.elim (fun x : String × CW => .inl (x.1, ccells g ad x.2)) (fun r : (Int32 × CW) => .inr ((some (.int r.1)), (ccells g ad r.2))) rr) 1 6) g 6 (ccells g ad r33) 0 0 36 [(0, .ref (ad 0)), (1, .int a0), (2, .int a1)] [] from ?_)
          refine v_aload_n hG 0 rfl rfl dX8_shrink_36 ?_
          refine v_iconst hG (v := 1) (by decide) dX8_shrink_37 ?_
          refine c_p_0_5 hG wk_366 dX8_shrink_38 rfl rfl hf (fun w38 hf => ?_)
          refine v_aload_n hG 0 rfl rfl dX8_shrink_41 ?_
          refine c_g_0_1 hG wk_362 dX8_shrink_42 ?_
          refine v_aload_n hG 0 rfl rfl dX8_shrink_45 ?_
          refine c_g_0_0 hG wk_361 dX8_shrink_46 ?_
          obtain ⟨r49, hr49, hf⟩ := bd_some hf
          refine v_callV hG (st := []) 21 5 (ct_X5_beginAs l g ad w38  r49 hr49) iw_X5_beginAs wk_567 rfl rfl ⟨rfl, rfl, Nat.le_of_ble_eq_true rfl, Nat.le_of_ble_eq_true rfl⟩ ⟨Nat.le_of_ble_eq_true rfl, Nat.le_of_ble_eq_true rfl⟩ rfl rfl (Nat.le_of_ble_eq_true rfl) (ccells_fst _ _ _ _) dX8_shrink_49 ?_
          refine (show V p l e (x_rm 7 1 165) s m args below meth c (inW (ccells g ad w)) (EX below args s g (ccells g ad w) (Sum.elim (fun x : String × CW => .inl (x.1, ccells g ad x.2)) (fun r : (Int32 × CW) => .inr ((some (.int r.1)), (ccells g ad r.2))) rr) 1 6) g 6 (ccells g ad r49) 0 0 52 [(0, .ref (ad 0)), (1, .int a0), (2, .int a1)] [] from ?_)
          refine v_iconst hG (v := 0) (by decide) dX8_shrink_52 ?_
          refine v_istore_n hG [(3, _), (0, _), (1, _), (2, _)] dX8_shrink_53 rfl (by decide) rfl ?_
          refine v_iconst hG (v := 1) (by decide) dX8_shrink_54 ?_
          refine v_istore hG [(4, _), (3, _), (0, _), (1, _), (2, _)] dX8_shrink_55 (by decide) rfl ?_
          refine v_sub [(0, _), (1, _), (2, _), (3, _), (4, _)] [2, 3, 4, 1, 0] rfl ?_
          obtain ⟨z57, hlz57, hf⟩ := bd_some hf
          refine loop_v (step := X8_shrink_L57 a0 a1) (fun s57 : CW × Int32 × Int32 => V p l e (x_rm 7 1 165) s m args below meth c (inW (ccells g ad w)) (EX below args s g (ccells g ad w) (Sum.elim (fun x : String × CW => .inl (x.1, ccells g ad x.2)) (fun r : (Int32 × CW) => .inr ((some (.int r.1)), (ccells g ad r.2))) rr) 1 6) g 6 (ccells g ad s57.1) 0 0 57 [(0, .ref (ad 0)), (1, .int a0), (2, .int a1), (3, .int s57.2.1), (4, .int s57.2.2)] []) (fun z57_q : (CW) ⊕ (CW × Int32) => Sum.elim (fun z57_0 : CW => V p l e (x_rm 7 1 165) s m args below meth c (inW (ccells g ad w)) (EX below args s g (ccells g ad w) (Sum.elim (fun x : String × CW => .inl (x.1, ccells g ad x.2)) (fun r : (Int32 × CW) => .inr ((some (.int r.1)), (ccells g ad r.2))) rr) 1 6) g 6 (ccells g ad z57_0) 0 0 90 [] []) (fun z57_r0 : (CW × Int32) => V p l e (x_rm 7 1 165) s m args below meth c (inW (ccells g ad w)) (EX below args s g (ccells g ad w) (Sum.elim (fun x : String × CW => .inl (x.1, ccells g ad x.2)) (fun r : (Int32 × CW) => .inr ((some (.int r.1)), (ccells g ad r.2))) rr) 1 6) g 6 (ccells g ad z57_r0.1) 0 0 120 [(3, .int z57_r0.2)] []) z57_q) ?_ 5000 (r49, 0, 1) z57 hlz57 ?_
          · intro s57 rL hf hin hout
            unfold X8_shrink_L57 at hf
            have j112 : ∀ (j112_0 : CW) (j112_1 : Int32) (j112_2 : Int32), X8_shrink_J112 j112_0 j112_1 j112_2 = some rL → V p l e (x_rm 7 1 165) s m args below meth c (inW (ccells g ad w)) (EX below args s g (ccells g ad w) (Sum.elim (fun x : String × CW => .inl (x.1, ccells g ad x.2)) (fun r : (Int32 × CW) => .inr ((some (.int r.1)), (ccells g ad r.2))) rr) 1 6) g 6 (ccells g ad j112_0) 0 0 112 [(0, .ref (ad 0)), (1, .int a0), (2, .int a1), (3, .int j112_1)] [.int j112_2] := by
              intro j112_0 j112_1 j112_2 hf
              unfold X8_shrink_J112 at hf
              refine v_istore hG [(4, _), (0, _), (1, _), (2, _), (3, _)] dX8_shrink_112 (by decide) rfl ?_
              refine v_iinc hG 4 (v := j112_1 + 1) [(3, _), (4, _), (0, _), (1, _), (2, _)] dX8_shrink_114 rfl rfl (by decide) rfl ?_
              refine v_goto hG 57 dX8_shrink_117 rfl ?_
              refine v_sub [(0, _), (1, _), (2, _), (3, _), (4, _)] [2, 3, 4, 0, 1] rfl ?_
              exact hin _ (Option.some.inj hf).symm
            refine v_iload_n hG 3 rfl rfl dX8_shrink_57 ?_
            refine v_iload_n hG 2 rfl rfl dX8_shrink_58 ?_
            refine v_icmp_ge hG 120 dX8_shrink_59 rfl hf (fun hf => ?_) (fun hf => ?_)
            · refine v_sub [(3, _)] [3] rfl ?_
              exact hout _ (Option.some.inj hf).symm
            · refine v_iload hG 4 rfl dX8_shrink_62 ?_
              refine v_if_eq hG 120 dX8_shrink_64 rfl hf (fun hf => ?_) (fun hf => ?_)
              · refine v_sub [(3, _)] [3] rfl ?_
                exact hout _ (Option.some.inj hf).symm
              · refine v_aload_n hG 0 rfl rfl dX8_shrink_67 ?_
                refine c_g_0_1 hG wk_362 dX8_shrink_68 ?_
                refine c_g_21_4 hG wk_236 dX8_shrink_71 ?_
                refine c_g_45_1 hG wk_209 dX8_shrink_74 ?_
                refine v_istore hG [(5, _), (0, _), (1, _), (2, _), (3, _), (4, _)] dX8_shrink_77 (by decide) rfl ?_
                refine v_aload_n hG 1 rfl rfl dX8_shrink_79 ?_
                refine c_g_0_2 hG wk_363 dX8_shrink_80 ?_
                refine v_iload_n hG 2 rfl rfl dX8_shrink_83 ?_
                obtain ⟨r84, hr84, hf⟩ := bd_some hf
                refine v_callV hG (st := []) 62 3 (ct_X3_doRound l g ad s57.1 a0 r84 hr84) iw_X3_doRound wk_578 rfl rfl ⟨rfl, rfl, Nat.le_of_ble_eq_true rfl, Nat.le_of_ble_eq_true rfl⟩ ⟨Nat.le_of_ble_eq_true rfl, Nat.le_of_ble_eq_true rfl⟩ rfl rfl (Nat.le_of_ble_eq_true rfl) (ccells_fst _ _ _ _) dX8_shrink_84 ?_
                refine (show V p l e (x_rm 7 1 165) s m args below meth c (inW (ccells g ad w)) (EX below args s g (ccells g ad w) (Sum.elim (fun x : String × CW => .inl (x.1, ccells g ad x.2)) (fun r : (Int32 × CW) => .inr ((some (.int r.1)), (ccells g ad r.2))) rr) 1 6) g 6 (ccells g ad r84.2) 0 0 87 [(5, .int (gC_count s57.1)), (0, .ref (ad 0)), (1, .int a0), (2, .int a1), (3, .int s57.2.1), (4, .int s57.2.2)] [.int r84.1] from ?_)
                refine v_if_ne hG 92 dX8_shrink_87 rfl hf (fun hf => ?_) (fun hf => ?_)
                · refine v_aload_n hG 1 rfl rfl dX8_shrink_92 ?_
                  refine c_g_0_1 hG wk_362 dX8_shrink_93 ?_
                  refine c_g_21_4 hG wk_236 dX8_shrink_96 ?_
                  refine c_g_45_1 hG wk_209 dX8_shrink_99 ?_
                  refine v_iload hG 0 rfl dX8_shrink_102 ?_
                  refine v_icmp_le hG 111 dX8_shrink_104 rfl hf (fun hf => ?_) (fun hf => ?_)
                  · refine v_iconst hG (v := 0) (by decide) dX8_shrink_111 ?_
                    refine v_sub [(0, _), (1, _), (2, _), (3, _)] [1, 2, 3, 4] rfl ?_
                    exact j112 r84.2 s57.2.1 0 hf
                  · refine v_iconst hG (v := 1) (by decide) dX8_shrink_107 ?_
                    refine v_goto hG 112 dX8_shrink_108 rfl ?_
                    refine v_sub [(0, _), (1, _), (2, _), (3, _)] [1, 2, 3, 4] rfl ?_
                    exact j112 r84.2 s57.2.1 1 hf
                · refine v_sub [] [] rfl ?_
                  exact hout _ (Option.some.inj hf).symm
          · rcases z57 with z57_x0 | z57_x0
            · simp only [Sum.elim_inl] at hf
              show V p l e (x_rm 7 1 165) s m args below meth c (inW (ccells g ad w)) (EX below args s g (ccells g ad w) (Sum.elim (fun x : String × CW => .inl (x.1, ccells g ad x.2)) (fun r : (Int32 × CW) => .inr ((some (.int r.1)), (ccells g ad r.2))) rr) 1 6) g 6 (ccells g ad z57_x0) 0 0 90 [] []
              refine v_iconst hG (v := 0) (by decide) dX8_shrink_90 ?_
              cases hf
              exact x_iret hG hr ⟨Nat.le_of_ble_eq_true rfl, Nat.le_of_ble_eq_true rfl⟩ dX8_shrink_91
            · simp only [Sum.elim_inr] at hf
              show V p l e (x_rm 7 1 165) s m args below meth c (inW (ccells g ad w)) (EX below args s g (ccells g ad w) (Sum.elim (fun x : String × CW => .inl (x.1, ccells g ad x.2)) (fun r : (Int32 × CW) => .inr ((some (.int r.1)), (ccells g ad r.2))) rr) 1 6) g 6 (ccells g ad z57_x0.1) 0 0 120 [(3, .int z57_x0.2)] []
              refine v_iload_n hG 0 rfl rfl dX8_shrink_120 ?_
              cases hf
              exact x_iret hG hr ⟨Nat.le_of_ble_eq_true rfl, Nat.le_of_ble_eq_true rfl⟩ dX8_shrink_121
        · refine v_sub [] [] rfl ?_
          exact j22 w hf
def X8_needSmall (w : CW) : Option ((String × CW) ⊕ (Unit)) := (if (gC_hasSmall w) = 0 then (some (.inl ("java/lang/IllegalStateException", w))) else (some (.inr ())))
set_option maxRecDepth 100000 in
set_option maxHeartbeats 4000000 in
theorem ct_X8_needSmall (l : Launch) (hl : l.stackTraces = false) (g : wG) (ad : Nat → Nat) (w : CW)  (rr : (String × CW) ⊕ (Unit)) (hf : X8_needSmall w = some rr) : MetX l g yX8_needSmall cX8_needSmall 1 none (x_rm 6 1 90) [.ref (ad 0)] (ccells g ad w) (Sum.elim (fun x : String × CW => .inl (x.1, ccells g ad x.2)) (fun r : (Unit) => .inr (none, (ccells g ad w))) rr) 1 6 := by
  refine MetX.of2 hl [(0, .ref (ad 0))] rfl (by decide +kernel) (Nat.le_of_ble_eq_true rfl) ?_
  intro p e s m args below meth c hG hr hX
  unfold X8_needSmall at hf
  refine v_aload_n hG 0 rfl rfl dX8_needSmall_0 ?_
  refine c_g_0_5 hG wk_366 dX8_needSmall_1 ?_
  refine v_if_ne hG 18 dX8_needSmall_4 rfl hf (fun hf => ?_) (fun hf => ?_)
  · cases hf
    exact x_vret hG hr ⟨Nat.le_of_ble_eq_true rfl, Nat.le_of_ble_eq_true rfl⟩ dX8_needSmall_18
  · cases hf
    exact x_throwW hG rfl hX "there is no small" "java/lang/IllegalStateException" thr_62 (by decide +kernel) dX8_needSmall_7 dX8_needSmall_10 dX8_needSmall_11 dX8_needSmall_14 dX8_needSmall_17 ⟨Nat.le_of_ble_eq_true rfl, Nat.le_of_ble_eq_true rfl, Nat.le_of_ble_eq_true rfl, Nat.le_of_ble_eq_true rfl⟩ ⟨Nat.le_of_ble_eq_true rfl, Nat.le_of_ble_eq_true rfl⟩
def X8_state (w : CW) (a0 : Int32) : Option ((String × CW) ⊕ (Int32)) := ((X8_needSmall w).bind (fun r1 : (String × CW) ⊕ (Unit) => Sum.elim (fun x1 : String × CW => some (.inl x1)) (fun r1 : Unit => ((X8_needColumn w a0).bind (fun r6 : (String × CW) ⊕ (Unit) => Sum.elim (fun x6 : String × CW => some (.inl x6)) (fun r6 : Unit => (if inR a0 12 = true then (some (.inr ((gT_state (gC_tab w)) a0.toNatClampNeg))) else none)) r6))) r1))
set_option maxRecDepth 100000 in
set_option maxHeartbeats 4000000 in
theorem ct_X8_state (l : Launch) (hl : l.stackTraces = false) (g : wG) (ad : Nat → Nat) (w : CW) (a0 : Int32) (rr : (String × CW) ⊕ (Int32)) (hf : X8_state w a0 = some rr) : MetX l g yX8_state cX8_state 2 (some .int) (x_rm 7 2 111) [.ref (ad 0), .int a0] (ccells g ad w) (Sum.elim (fun x : String × CW => .inl (x.1, ccells g ad x.2)) (fun r : (Int32) => .inr ((some (.int r)), (ccells g ad w))) rr) 2 12 := by
  refine MetX.of2 hl [(0, .ref (ad 0)), (1, .int a0)] rfl (by decide +kernel) (Nat.le_of_ble_eq_true rfl) ?_
  intro p e s m args below meth c hG hr hX
  unfold X8_state at hf
  refine v_aload_n hG 0 rfl rfl dX8_state_0 ?_
  obtain ⟨r1, hr1, hf⟩ := bd_some hf
  rcases r1 with x1 | r1
  · simp only [Sum.elim_inl] at hf
    cases hf
    exact x_callT hG hX (st := []) 0 8 (ct_X8_needSmall l hl g ad w  (.inl x1) hr1) iw_X8_needSmall wk_796 rfl rfl ⟨rfl, rfl, Nat.le_of_ble_eq_true rfl, Nat.le_of_ble_eq_true rfl⟩ ⟨Nat.le_of_ble_eq_true rfl, Nat.le_of_ble_eq_true rfl⟩ rfl rfl (Nat.le_of_ble_eq_true rfl) dX8_state_1 ⟨Nat.le_of_ble_eq_true rfl, Nat.le_of_ble_eq_true rfl⟩
  · simp only [Sum.elim_inr] at hf
    refine x_callR hG hX (st := []) 0 8 (ct_X8_needSmall l hl g ad w  (.inr r1) hr1) iw_X8_needSmall wk_796 rfl rfl ⟨rfl, rfl, Nat.le_of_ble_eq_true rfl, Nat.le_of_ble_eq_true rfl⟩ ⟨Nat.le_of_ble_eq_true rfl, Nat.le_of_ble_eq_true rfl⟩ rfl rfl (Nat.le_of_ble_eq_true rfl) (ccells_fst _ _ _ _) dX8_state_1 ?_
    refine (show V p l e (x_rm 7 2 111) s m args below meth c (inW (ccells g ad w)) (EX below args s g (ccells g ad w) (Sum.elim (fun x : String × CW => .inl (x.1, ccells g ad x.2)) (fun r : (Int32) => .inr ((some (.int r)), (ccells g ad w))) rr) 2 12) g 2 (ccells g ad w) 1 6 4 [(0, .ref (ad 0)), (1, .int a0)] [] from ?_)
    refine v_aload_n hG 0 rfl rfl dX8_state_4 ?_
    refine v_iload_n hG 1 rfl rfl dX8_state_5 ?_
    obtain ⟨r6, hr6, hf⟩ := bd_some hf
    rcases r6 with x6 | r6
    · simp only [Sum.elim_inl] at hf
      cases hf
      exact x_callT hG hX (st := []) 0 8 (ct_X8_needColumn l hl g ad w a0 (.inl x6) hr6) iw_X8_needColumn wk_553 rfl rfl ⟨rfl, rfl, Nat.le_of_ble_eq_true rfl, Nat.le_of_ble_eq_true rfl⟩ ⟨Nat.le_of_ble_eq_true rfl, Nat.le_of_ble_eq_true rfl⟩ rfl rfl (Nat.le_of_ble_eq_true rfl) dX8_state_6 ⟨Nat.le_of_ble_eq_true rfl, Nat.le_of_ble_eq_true rfl⟩
    · simp only [Sum.elim_inr] at hf
      refine x_callR hG hX (st := []) 0 8 (ct_X8_needColumn l hl g ad w a0 (.inr r6) hr6) iw_X8_needColumn wk_553 rfl rfl ⟨rfl, rfl, Nat.le_of_ble_eq_true rfl, Nat.le_of_ble_eq_true rfl⟩ ⟨Nat.le_of_ble_eq_true rfl, Nat.le_of_ble_eq_true rfl⟩ rfl rfl (Nat.le_of_ble_eq_true rfl) (ccells_fst _ _ _ _) dX8_state_6 ?_
      refine (show V p l e (x_rm 7 2 111) s m args below meth c (inW (ccells g ad w)) (EX below args s g (ccells g ad w) (Sum.elim (fun x : String × CW => .inl (x.1, ccells g ad x.2)) (fun r : (Int32) => .inr ((some (.int r)), (ccells g ad w))) rr) 2 12) g 2 (ccells g ad w) 2 12 9 [(0, .ref (ad 0)), (1, .int a0)] [] from ?_)
      refine v_aload_n hG 0 rfl rfl dX8_state_9 ?_
      refine c_g_0_1 hG wk_362 dX8_state_10 ?_
      refine c_g_21_0 hG wk_221 dX8_state_13 ?_
      refine c_g_22_3 hG wk_136 dX8_state_16 ?_
      refine v_iload_n hG 1 rfl rfl dX8_state_19 ?_
      refine c_l_26 hG dX8_state_20 hf (fun hf => ?_)
      cases hf
      exact x_iret hG hr ⟨Nat.le_of_ble_eq_true rfl, Nat.le_of_ble_eq_true rfl⟩ dX8_state_21
def X8_bound_J40  (j40_0 : Int64) : Option ((String × CW) ⊕ (Int32)) := (some (.inr j40_0.toInt32))
def X8_bound (w : CW) (a0 : Int32) (a1 : Int32) : Option ((String × CW) ⊕ (Int32)) := ((X8_needSmall w).bind (fun r1 : (String × CW) ⊕ (Unit) => Sum.elim (fun x1 : String × CW => some (.inl x1)) (fun r1 : Unit => ((X8_needColumn w a0).bind (fun r6 : (String × CW) ⊕ (Unit) => Sum.elim (fun x6 : String × CW => some (.inl x6)) (fun r6 : Unit => (if a1 = 0 then (if inR a0 12 = true then (X8_bound_J40 ((gT_low (gC_tab w)) a0.toNatClampNeg)) else none) else (if inR a0 12 = true then (X8_bound_J40 ((gT_high (gC_tab w)) a0.toNatClampNeg)) else none))) r6))) r1))
set_option maxRecDepth 100000 in
set_option maxHeartbeats 4000000 in
theorem ct_X8_bound (l : Launch) (hl : l.stackTraces = false) (g : wG) (ad : Nat → Nat) (w : CW) (a0 : Int32) (a1 : Int32) (rr : (String × CW) ⊕ (Int32)) (hf : X8_bound w a0 a1 = some rr) : MetX l g yX8_bound cX8_bound 3 (some .int) (x_rm 7 2 111) [.ref (ad 0), .int a0, .int a1] (ccells g ad w) (Sum.elim (fun x : String × CW => .inl (x.1, ccells g ad x.2)) (fun r : (Int32) => .inr ((some (.int r)), (ccells g ad w))) rr) 2 12 := by
  refine MetX.of2 hl [(0, .ref (ad 0)), (1, .int a0), (2, .int a1)] rfl (by decide +kernel) (Nat.le_of_ble_eq_true rfl) ?_
  intro p e s m args below meth c hG hr hX
  unfold X8_bound at hf
  have j40 : ∀ (j40_0 : Int64), X8_bound_J40 j40_0 = some rr → V p l e (x_rm 7 2 111) s m args below meth c (inW (ccells g ad w)) (EX below args s g (ccells g ad w) (Sum.elim (fun x : String × CW => .inl (x.1, ccells g ad x.2)) (fun r : (Int32) => .inr ((some (.int r)), (ccells g ad w))) rr) 2 12) g 3 (ccells g ad w) 2 12 40 [] [.long j40_0] := by
    intro j40_0 hf
    unfold X8_bound_J40 at hf
    refine v_l2i hG dX8_bound_40 ?_
    cases hf
    exact x_iret hG hr ⟨Nat.le_of_ble_eq_true rfl, Nat.le_of_ble_eq_true rfl⟩ dX8_bound_41
  refine v_aload_n hG 0 rfl rfl dX8_bound_0 ?_
  obtain ⟨r1, hr1, hf⟩ := bd_some hf
  rcases r1 with x1 | r1
  · simp only [Sum.elim_inl] at hf
    cases hf
    exact x_callT hG hX (st := []) 0 8 (ct_X8_needSmall l hl g ad w  (.inl x1) hr1) iw_X8_needSmall wk_796 rfl rfl ⟨rfl, rfl, Nat.le_of_ble_eq_true rfl, Nat.le_of_ble_eq_true rfl⟩ ⟨Nat.le_of_ble_eq_true rfl, Nat.le_of_ble_eq_true rfl⟩ rfl rfl (Nat.le_of_ble_eq_true rfl) dX8_bound_1 ⟨Nat.le_of_ble_eq_true rfl, Nat.le_of_ble_eq_true rfl⟩
  · simp only [Sum.elim_inr] at hf
    refine x_callR hG hX (st := []) 0 8 (ct_X8_needSmall l hl g ad w  (.inr r1) hr1) iw_X8_needSmall wk_796 rfl rfl ⟨rfl, rfl, Nat.le_of_ble_eq_true rfl, Nat.le_of_ble_eq_true rfl⟩ ⟨Nat.le_of_ble_eq_true rfl, Nat.le_of_ble_eq_true rfl⟩ rfl rfl (Nat.le_of_ble_eq_true rfl) (ccells_fst _ _ _ _) dX8_bound_1 ?_
    refine (show V p l e (x_rm 7 2 111) s m args below meth c (inW (ccells g ad w)) (EX below args s g (ccells g ad w) (Sum.elim (fun x : String × CW => .inl (x.1, ccells g ad x.2)) (fun r : (Int32) => .inr ((some (.int r)), (ccells g ad w))) rr) 2 12) g 3 (ccells g ad w) 1 6 4 [(0, .ref (ad 0)), (1, .int a0), (2, .int a1)] [] from ?_)
    refine v_aload_n hG 0 rfl rfl dX8_bound_4 ?_
    refine v_iload_n hG 1 rfl rfl dX8_bound_5 ?_
    obtain ⟨r6, hr6, hf⟩ := bd_some hf
    rcases r6 with x6 | r6
    · simp only [Sum.elim_inl] at hf
      cases hf
      exact x_callT hG hX (st := []) 0 8 (ct_X8_needColumn l hl g ad w a0 (.inl x6) hr6) iw_X8_needColumn wk_553 rfl rfl ⟨rfl, rfl, Nat.le_of_ble_eq_true rfl, Nat.le_of_ble_eq_true rfl⟩ ⟨Nat.le_of_ble_eq_true rfl, Nat.le_of_ble_eq_true rfl⟩ rfl rfl (Nat.le_of_ble_eq_true rfl) dX8_bound_6 ⟨Nat.le_of_ble_eq_true rfl, Nat.le_of_ble_eq_true rfl⟩
    · simp only [Sum.elim_inr] at hf
      refine x_callR hG hX (st := []) 0 8 (ct_X8_needColumn l hl g ad w a0 (.inr r6) hr6) iw_X8_needColumn wk_553 rfl rfl ⟨rfl, rfl, Nat.le_of_ble_eq_true rfl, Nat.le_of_ble_eq_true rfl⟩ ⟨Nat.le_of_ble_eq_true rfl, Nat.le_of_ble_eq_true rfl⟩ rfl rfl (Nat.le_of_ble_eq_true rfl) (ccells_fst _ _ _ _) dX8_bound_6 ?_
      refine (show V p l e (x_rm 7 2 111) s m args below meth c (inW (ccells g ad w)) (EX below args s g (ccells g ad w) (Sum.elim (fun x : String × CW => .inl (x.1, ccells g ad x.2)) (fun r : (Int32) => .inr ((some (.int r)), (ccells g ad w))) rr) 2 12) g 3 (ccells g ad w) 2 12 9 [(0, .ref (ad 0)), (1, .int a0), (2, .int a1)] [] from ?_)
      refine v_iload_n hG 2 rfl rfl dX8_bound_9 ?_
      refine v_if_eq hG 28 dX8_bound_10 rfl hf (fun hf => ?_) (fun hf => ?_)
      · refine v_aload_n hG 0 rfl rfl dX8_bound_28 ?_
        refine c_g_0_1 hG wk_362 dX8_bound_29 ?_
        refine c_g_21_0 hG wk_221 dX8_bound_32 ?_
        refine c_g_22_0 hG wk_118 dX8_bound_35 ?_
        refine v_iload_n hG 1 rfl rfl dX8_bound_38 ?_
        refine c_l_23 hG dX8_bound_39 hf (fun hf => ?_)
        refine v_sub [] [] rfl ?_
        exact j40 ((gT_low (gC_tab w)) a0.toNatClampNeg) hf
      · refine v_aload_n hG 0 rfl rfl dX8_bound_13 ?_
        refine c_g_0_1 hG wk_362 dX8_bound_14 ?_
        refine c_g_21_0 hG wk_221 dX8_bound_17 ?_
        refine c_g_22_1 hG wk_124 dX8_bound_20 ?_
        refine v_iload_n hG 1 rfl rfl dX8_bound_23 ?_
        refine c_l_24 hG dX8_bound_24 hf (fun hf => ?_)
        refine v_goto hG 40 dX8_bound_25 rfl ?_
        refine v_sub [] [] rfl ?_
        exact j40 ((gT_high (gC_tab w)) a0.toNatClampNeg) hf
def X8_cost (w : CW) (a0 : Int32) : Option ((String × CW) ⊕ (Int32)) := ((X8_needSmall w).bind (fun r1 : (String × CW) ⊕ (Unit) => Sum.elim (fun x1 : String × CW => some (.inl x1)) (fun r1 : Unit => ((X8_needColumn w a0).bind (fun r6 : (String × CW) ⊕ (Unit) => Sum.elim (fun x6 : String × CW => some (.inl x6)) (fun r6 : Unit => ((X6_isThere (gC_tab w) a0).bind (fun r17 : Int32 => (if r17 = 0 then (some (.inr 0)) else (if inR a0 12 = true then (some (.inr (((gT_cost (gC_tab w)) a0.toNatClampNeg).toInt32))) else none))))) r6))) r1))
set_option maxRecDepth 100000 in
set_option maxHeartbeats 4000000 in
theorem ct_X8_cost (l : Launch) (hl : l.stackTraces = false) (g : wG) (ad : Nat → Nat) (w : CW) (a0 : Int32) (rr : (String × CW) ⊕ (Int32)) (hf : X8_cost w a0 = some rr) : MetX l g yX8_cost cX8_cost 2 (some .int) (x_rm 7 2 111) [.ref (ad 0), .int a0] (ccells g ad w) (Sum.elim (fun x : String × CW => .inl (x.1, ccells g ad x.2)) (fun r : (Int32) => .inr ((some (.int r)), (ccells g ad w))) rr) 2 12 := by
  refine MetX.of2 hl [(0, .ref (ad 0)), (1, .int a0)] rfl (by decide +kernel) (Nat.le_of_ble_eq_true rfl) ?_
  intro p e s m args below meth c hG hr hX
  unfold X8_cost at hf
  refine v_aload_n hG 0 rfl rfl dX8_cost_0 ?_
  obtain ⟨r1, hr1, hf⟩ := bd_some hf
  rcases r1 with x1 | r1
  · simp only [Sum.elim_inl] at hf
    cases hf
    exact x_callT hG hX (st := []) 0 8 (ct_X8_needSmall l hl g ad w  (.inl x1) hr1) iw_X8_needSmall wk_796 rfl rfl ⟨rfl, rfl, Nat.le_of_ble_eq_true rfl, Nat.le_of_ble_eq_true rfl⟩ ⟨Nat.le_of_ble_eq_true rfl, Nat.le_of_ble_eq_true rfl⟩ rfl rfl (Nat.le_of_ble_eq_true rfl) dX8_cost_1 ⟨Nat.le_of_ble_eq_true rfl, Nat.le_of_ble_eq_true rfl⟩
  · simp only [Sum.elim_inr] at hf
    refine x_callR hG hX (st := []) 0 8 (ct_X8_needSmall l hl g ad w  (.inr r1) hr1) iw_X8_needSmall wk_796 rfl rfl ⟨rfl, rfl, Nat.le_of_ble_eq_true rfl, Nat.le_of_ble_eq_true rfl⟩ ⟨Nat.le_of_ble_eq_true rfl, Nat.le_of_ble_eq_true rfl⟩ rfl rfl (Nat.le_of_ble_eq_true rfl) (ccells_fst _ _ _ _) dX8_cost_1 ?_
    refine (show V p l e (x_rm 7 2 111) s m args below meth c (inW (ccells g ad w)) (EX below args s g (ccells g ad w) (Sum.elim (fun x : String × CW => .inl (x.1, ccells g ad x.2)) (fun r : (Int32) => .inr ((some (.int r)), (ccells g ad w))) rr) 2 12) g 2 (ccells g ad w) 1 6 4 [(0, .ref (ad 0)), (1, .int a0)] [] from ?_)
    refine v_aload_n hG 0 rfl rfl dX8_cost_4 ?_
    refine v_iload_n hG 1 rfl rfl dX8_cost_5 ?_
    obtain ⟨r6, hr6, hf⟩ := bd_some hf
    rcases r6 with x6 | r6
    · simp only [Sum.elim_inl] at hf
      cases hf
      exact x_callT hG hX (st := []) 0 8 (ct_X8_needColumn l hl g ad w a0 (.inl x6) hr6) iw_X8_needColumn wk_553 rfl rfl ⟨rfl, rfl, Nat.le_of_ble_eq_true rfl, Nat.le_of_ble_eq_true rfl⟩ ⟨Nat.le_of_ble_eq_true rfl, Nat.le_of_ble_eq_true rfl⟩ rfl rfl (Nat.le_of_ble_eq_true rfl) dX8_cost_6 ⟨Nat.le_of_ble_eq_true rfl, Nat.le_of_ble_eq_true rfl⟩
    · simp only [Sum.elim_inr] at hf
      refine x_callR hG hX (st := []) 0 8 (ct_X8_needColumn l hl g ad w a0 (.inr r6) hr6) iw_X8_needColumn wk_553 rfl rfl ⟨rfl, rfl, Nat.le_of_ble_eq_true rfl, Nat.le_of_ble_eq_true rfl⟩ ⟨Nat.le_of_ble_eq_true rfl, Nat.le_of_ble_eq_true rfl⟩ rfl rfl (Nat.le_of_ble_eq_true rfl) (ccells_fst _ _ _ _) dX8_cost_6 ?_
      refine (show V p l e (x_rm 7 2 111) s m args below meth c (inW (ccells g ad w)) (EX below args s g (ccells g ad w) (Sum.elim (fun x : String × CW => .inl (x.1, ccells g ad x.2)) (fun r : (Int32) => .inr ((some (.int r)), (ccells g ad w))) rr) 2 12) g 2 (ccells g ad w) 2 12 9 [(0, .ref (ad 0)), (1, .int a0)] [] from ?_)
      refine v_aload_n hG 0 rfl rfl dX8_cost_9 ?_
      refine c_g_0_1 hG wk_362 dX8_cost_10 ?_
      refine c_g_21_0 hG wk_221 dX8_cost_13 ?_
      refine v_iload_n hG 1 rfl rfl dX8_cost_16 ?_
      obtain ⟨r17, hr17, hf⟩ := bd_some hf
      refine v_callV hG (st := []) 22 6 (ct_X6_isThere_s l g ad w a0 r17 hr17) iw_X6_isThere wk_815 rfl rfl ⟨rfl, rfl, Nat.le_of_ble_eq_true rfl, Nat.le_of_ble_eq_true rfl⟩ ⟨Nat.le_of_ble_eq_true rfl, Nat.le_of_ble_eq_true rfl⟩ rfl rfl (Nat.le_of_ble_eq_true rfl) (ccells_fst _ _ _ _) dX8_cost_17 ?_
      refine (show V p l e (x_rm 7 2 111) s m args below meth c (inW (ccells g ad w)) (EX below args s g (ccells g ad w) (Sum.elim (fun x : String × CW => .inl (x.1, ccells g ad x.2)) (fun r : (Int32) => .inr ((some (.int r)), (ccells g ad w))) rr) 2 12) g 2 (ccells g ad w) 2 12 20 [(0, .ref (ad 0)), (1, .int a0)] [.int r17] from ?_)
      refine v_if_eq hG 39 dX8_cost_20 rfl hf (fun hf => ?_) (fun hf => ?_)
      · refine v_iconst hG (v := 0) (by decide) dX8_cost_39 ?_
        cases hf
        exact x_iret hG hr ⟨Nat.le_of_ble_eq_true rfl, Nat.le_of_ble_eq_true rfl⟩ dX8_cost_40
      · refine v_aload_n hG 0 rfl rfl dX8_cost_23 ?_
        refine c_g_0_1 hG wk_362 dX8_cost_24 ?_
        refine c_g_21_0 hG wk_221 dX8_cost_27 ?_
        refine c_g_22_2 hG wk_130 dX8_cost_30 ?_
        refine v_iload_n hG 1 rfl rfl dX8_cost_33 ?_
        refine c_l_25 hG dX8_cost_34 hf (fun hf => ?_)
        refine v_l2i hG dX8_cost_35 ?_
        refine v_goto hG 40 dX8_cost_36 rfl ?_
        cases hf
        exact x_iret hG hr ⟨Nat.le_of_ble_eq_true rfl, Nat.le_of_ble_eq_true rfl⟩ dX8_cost_40
def X8_kind (w : CW) (a0 : Int32) : Option ((String × CW) ⊕ (Int32)) := ((X8_needSmall w).bind (fun r1 : (String × CW) ⊕ (Unit) => Sum.elim (fun x1 : String × CW => some (.inl x1)) (fun r1 : Unit => ((X8_needRow w a0).bind (fun r6 : (String × CW) ⊕ (Unit) => Sum.elim (fun x6 : String × CW => some (.inl x6)) (fun r6 : Unit => (if inR a0 12 = true then (some (.inr ((gT_kind (gC_tab w)) a0.toNatClampNeg))) else none)) r6))) r1))
set_option maxRecDepth 100000 in
set_option maxHeartbeats 4000000 in
theorem ct_X8_kind (l : Launch) (hl : l.stackTraces = false) (g : wG) (ad : Nat → Nat) (w : CW) (a0 : Int32) (rr : (String × CW) ⊕ (Int32)) (hf : X8_kind w a0 = some rr) : MetX l g yX8_kind cX8_kind 2 (some .int) (x_rm 7 2 111) [.ref (ad 0), .int a0] (ccells g ad w) (Sum.elim (fun x : String × CW => .inl (x.1, ccells g ad x.2)) (fun r : (Int32) => .inr ((some (.int r)), (ccells g ad w))) rr) 2 12 := by
  refine MetX.of2 hl [(0, .ref (ad 0)), (1, .int a0)] rfl (by decide +kernel) (Nat.le_of_ble_eq_true rfl) ?_
  intro p e s m args below meth c hG hr hX
  unfold X8_kind at hf
  refine v_aload_n hG 0 rfl rfl dX8_kind_0 ?_
  obtain ⟨r1, hr1, hf⟩ := bd_some hf
  rcases r1 with x1 | r1
  · simp only [Sum.elim_inl] at hf
    cases hf
    exact x_callT hG hX (st := []) 0 8 (ct_X8_needSmall l hl g ad w  (.inl x1) hr1) iw_X8_needSmall wk_796 rfl rfl ⟨rfl, rfl, Nat.le_of_ble_eq_true rfl, Nat.le_of_ble_eq_true rfl⟩ ⟨Nat.le_of_ble_eq_true rfl, Nat.le_of_ble_eq_true rfl⟩ rfl rfl (Nat.le_of_ble_eq_true rfl) dX8_kind_1 ⟨Nat.le_of_ble_eq_true rfl, Nat.le_of_ble_eq_true rfl⟩
  · simp only [Sum.elim_inr] at hf
    refine x_callR hG hX (st := []) 0 8 (ct_X8_needSmall l hl g ad w  (.inr r1) hr1) iw_X8_needSmall wk_796 rfl rfl ⟨rfl, rfl, Nat.le_of_ble_eq_true rfl, Nat.le_of_ble_eq_true rfl⟩ ⟨Nat.le_of_ble_eq_true rfl, Nat.le_of_ble_eq_true rfl⟩ rfl rfl (Nat.le_of_ble_eq_true rfl) (ccells_fst _ _ _ _) dX8_kind_1 ?_
    refine (show V p l e (x_rm 7 2 111) s m args below meth c (inW (ccells g ad w)) (EX below args s g (ccells g ad w) (Sum.elim (fun x : String × CW => .inl (x.1, ccells g ad x.2)) (fun r : (Int32) => .inr ((some (.int r)), (ccells g ad w))) rr) 2 12) g 2 (ccells g ad w) 1 6 4 [(0, .ref (ad 0)), (1, .int a0)] [] from ?_)
    refine v_aload_n hG 0 rfl rfl dX8_kind_4 ?_
    refine v_iload_n hG 1 rfl rfl dX8_kind_5 ?_
    obtain ⟨r6, hr6, hf⟩ := bd_some hf
    rcases r6 with x6 | r6
    · simp only [Sum.elim_inl] at hf
      cases hf
      exact x_callT hG hX (st := []) 0 8 (ct_X8_needRow l hl g ad w a0 (.inl x6) hr6) iw_X8_needRow wk_533 rfl rfl ⟨rfl, rfl, Nat.le_of_ble_eq_true rfl, Nat.le_of_ble_eq_true rfl⟩ ⟨Nat.le_of_ble_eq_true rfl, Nat.le_of_ble_eq_true rfl⟩ rfl rfl (Nat.le_of_ble_eq_true rfl) dX8_kind_6 ⟨Nat.le_of_ble_eq_true rfl, Nat.le_of_ble_eq_true rfl⟩
    · simp only [Sum.elim_inr] at hf
      refine x_callR hG hX (st := []) 0 8 (ct_X8_needRow l hl g ad w a0 (.inr r6) hr6) iw_X8_needRow wk_533 rfl rfl ⟨rfl, rfl, Nat.le_of_ble_eq_true rfl, Nat.le_of_ble_eq_true rfl⟩ ⟨Nat.le_of_ble_eq_true rfl, Nat.le_of_ble_eq_true rfl⟩ rfl rfl (Nat.le_of_ble_eq_true rfl) (ccells_fst _ _ _ _) dX8_kind_6 ?_
      refine (show V p l e (x_rm 7 2 111) s m args below meth c (inW (ccells g ad w)) (EX below args s g (ccells g ad w) (Sum.elim (fun x : String × CW => .inl (x.1, ccells g ad x.2)) (fun r : (Int32) => .inr ((some (.int r)), (ccells g ad w))) rr) 2 12) g 2 (ccells g ad w) 2 12 9 [(0, .ref (ad 0)), (1, .int a0)] [] from ?_)
      refine v_aload_n hG 0 rfl rfl dX8_kind_9 ?_
      refine c_g_0_1 hG wk_362 dX8_kind_10 ?_
      refine c_g_21_0 hG wk_221 dX8_kind_13 ?_
      refine c_g_22_4 hG wk_139 dX8_kind_16 ?_
      refine v_iload_n hG 1 rfl rfl dX8_kind_19 ?_
      refine c_l_27 hG dX8_kind_20 hf (fun hf => ?_)
      cases hf
      exact x_iret hG hr ⟨Nat.le_of_ble_eq_true rfl, Nat.le_of_ble_eq_true rfl⟩ dX8_kind_21
def X8_right (w : CW) (a0 : Int32) : Option ((String × CW) ⊕ (Int64)) := ((X8_needSmall w).bind (fun r1 : (String × CW) ⊕ (Unit) => Sum.elim (fun x1 : String × CW => some (.inl x1)) (fun r1 : Unit => ((X8_needRow w a0).bind (fun r6 : (String × CW) ⊕ (Unit) => Sum.elim (fun x6 : String × CW => some (.inl x6)) (fun r6 : Unit => (if inR a0 12 = true then (some (.inr ((gT_right (gC_tab w)) a0.toNatClampNeg))) else none)) r6))) r1))
set_option maxRecDepth 100000 in
set_option maxHeartbeats 4000000 in
theorem ct_X8_right (l : Launch) (hl : l.stackTraces = false) (g : wG) (ad : Nat → Nat) (w : CW) (a0 : Int32) (rr : (String × CW) ⊕ (Int64)) (hf : X8_right w a0 = some rr) : MetX l g yX8_right cX8_right 2 (some .long) (x_rm 7 2 111) [.ref (ad 0), .int a0] (ccells g ad w) (Sum.elim (fun x : String × CW => .inl (x.1, ccells g ad x.2)) (fun r : (Int64) => .inr ((some (.long r)), (ccells g ad w))) rr) 2 12 := by
  refine MetX.of2 hl [(0, .ref (ad 0)), (1, .int a0)] rfl (by decide +kernel) (Nat.le_of_ble_eq_true rfl) ?_
  intro p e s m args below meth c hG hr hX
  unfold X8_right at hf
  refine v_aload_n hG 0 rfl rfl dX8_right_0 ?_
  obtain ⟨r1, hr1, hf⟩ := bd_some hf
  rcases r1 with x1 | r1
  · simp only [Sum.elim_inl] at hf
    cases hf
    exact x_callT hG hX (st := []) 0 8 (ct_X8_needSmall l hl g ad w  (.inl x1) hr1) iw_X8_needSmall wk_796 rfl rfl ⟨rfl, rfl, Nat.le_of_ble_eq_true rfl, Nat.le_of_ble_eq_true rfl⟩ ⟨Nat.le_of_ble_eq_true rfl, Nat.le_of_ble_eq_true rfl⟩ rfl rfl (Nat.le_of_ble_eq_true rfl) dX8_right_1 ⟨Nat.le_of_ble_eq_true rfl, Nat.le_of_ble_eq_true rfl⟩
  · simp only [Sum.elim_inr] at hf
    refine x_callR hG hX (st := []) 0 8 (ct_X8_needSmall l hl g ad w  (.inr r1) hr1) iw_X8_needSmall wk_796 rfl rfl ⟨rfl, rfl, Nat.le_of_ble_eq_true rfl, Nat.le_of_ble_eq_true rfl⟩ ⟨Nat.le_of_ble_eq_true rfl, Nat.le_of_ble_eq_true rfl⟩ rfl rfl (Nat.le_of_ble_eq_true rfl) (ccells_fst _ _ _ _) dX8_right_1 ?_
    refine (show V p l e (x_rm 7 2 111) s m args below meth c (inW (ccells g ad w)) (EX below args s g (ccells g ad w) (Sum.elim (fun x : String × CW => .inl (x.1, ccells g ad x.2)) (fun r : (Int64) => .inr ((some (.long r)), (ccells g ad w))) rr) 2 12) g 2 (ccells g ad w) 1 6 4 [(0, .ref (ad 0)), (1, .int a0)] [] from ?_)
    refine v_aload_n hG 0 rfl rfl dX8_right_4 ?_
    refine v_iload_n hG 1 rfl rfl dX8_right_5 ?_
    obtain ⟨r6, hr6, hf⟩ := bd_some hf
    rcases r6 with x6 | r6
    · simp only [Sum.elim_inl] at hf
      cases hf
      exact x_callT hG hX (st := []) 0 8 (ct_X8_needRow l hl g ad w a0 (.inl x6) hr6) iw_X8_needRow wk_533 rfl rfl ⟨rfl, rfl, Nat.le_of_ble_eq_true rfl, Nat.le_of_ble_eq_true rfl⟩ ⟨Nat.le_of_ble_eq_true rfl, Nat.le_of_ble_eq_true rfl⟩ rfl rfl (Nat.le_of_ble_eq_true rfl) dX8_right_6 ⟨Nat.le_of_ble_eq_true rfl, Nat.le_of_ble_eq_true rfl⟩
    · simp only [Sum.elim_inr] at hf
      refine x_callR hG hX (st := []) 0 8 (ct_X8_needRow l hl g ad w a0 (.inr r6) hr6) iw_X8_needRow wk_533 rfl rfl ⟨rfl, rfl, Nat.le_of_ble_eq_true rfl, Nat.le_of_ble_eq_true rfl⟩ ⟨Nat.le_of_ble_eq_true rfl, Nat.le_of_ble_eq_true rfl⟩ rfl rfl (Nat.le_of_ble_eq_true rfl) (ccells_fst _ _ _ _) dX8_right_6 ?_
      refine (show V p l e (x_rm 7 2 111) s m args below meth c (inW (ccells g ad w)) (EX below args s g (ccells g ad w) (Sum.elim (fun x : String × CW => .inl (x.1, ccells g ad x.2)) (fun r : (Int64) => .inr ((some (.long r)), (ccells g ad w))) rr) 2 12) g 2 (ccells g ad w) 2 12 9 [(0, .ref (ad 0)), (1, .int a0)] [] from ?_)
      refine v_aload_n hG 0 rfl rfl dX8_right_9 ?_
      refine c_g_0_1 hG wk_362 dX8_right_10 ?_
      refine c_g_21_0 hG wk_221 dX8_right_13 ?_
      refine c_g_22_5 hG wk_145 dX8_right_16 ?_
      refine v_iload_n hG 1 rfl rfl dX8_right_19 ?_
      refine c_l_28 hG dX8_right_20 hf (fun hf => ?_)
      cases hf
      exact x_lret hG hr ⟨Nat.le_of_ble_eq_true rfl, Nat.le_of_ble_eq_true rfl⟩ dX8_right_21
def X8_coefficient (w : CW) (a0 : Int32) (a1 : Int32) : Option ((String × CW) ⊕ (Int32)) := ((X8_needSmall w).bind (fun r1 : (String × CW) ⊕ (Unit) => Sum.elim (fun x1 : String × CW => some (.inl x1)) (fun r1 : Unit => ((X8_needRow w a0).bind (fun r6 : (String × CW) ⊕ (Unit) => Sum.elim (fun x6 : String × CW => some (.inl x6)) (fun r6 : Unit => ((X8_needColumn w a1).bind (fun r11 : (String × CW) ⊕ (Unit) => Sum.elim (fun x11 : String × CW => some (.inl x11)) (fun r11 : Unit => ((X6_isGone (gC_tab w) a0).bind (fun r22 : Int32 => (if r22 = 0 then ((X6_isThere (gC_tab w) a1).bind (fun r36 : Int32 => (if r36 = 0 then (some (.inr 0)) else (if inR a0 12 = true then (if inR a1 12 = true then (some (.inr (((gT_a (gC_tab w)) a0.toNatClampNeg a1.toNatClampNeg).toInt32))) else none) else none)))) else (some (.inr 0)))))) r11))) r6))) r1))
set_option maxRecDepth 100000 in
set_option maxHeartbeats 4000000 in
theorem ct_X8_coefficient (l : Launch) (hl : l.stackTraces = false) (g : wG) (ad : Nat → Nat) (w : CW) (a0 : Int32) (a1 : Int32) (rr : (String × CW) ⊕ (Int32)) (hf : X8_coefficient w a0 a1 = some rr) : MetX l g yX8_coefficient cX8_coefficient 3 (some .int) (x_rm 7 3 111) [.ref (ad 0), .int a0, .int a1] (ccells g ad w) (Sum.elim (fun x : String × CW => .inl (x.1, ccells g ad x.2)) (fun r : (Int32) => .inr ((some (.int r)), (ccells g ad w))) rr) 3 18 := by
  refine MetX.of2 hl [(0, .ref (ad 0)), (1, .int a0), (2, .int a1)] rfl (by decide +kernel) (Nat.le_of_ble_eq_true rfl) ?_
  intro p e s m args below meth c hG hr hX
  unfold X8_coefficient at hf
  refine v_aload_n hG 0 rfl rfl dX8_coefficient_0 ?_
  obtain ⟨r1, hr1, hf⟩ := bd_some hf
  rcases r1 with x1 | r1
  · simp only [Sum.elim_inl] at hf
    cases hf
    exact x_callT hG hX (st := []) 0 8 (ct_X8_needSmall l hl g ad w  (.inl x1) hr1) iw_X8_needSmall wk_796 rfl rfl ⟨rfl, rfl, Nat.le_of_ble_eq_true rfl, Nat.le_of_ble_eq_true rfl⟩ ⟨Nat.le_of_ble_eq_true rfl, Nat.le_of_ble_eq_true rfl⟩ rfl rfl (Nat.le_of_ble_eq_true rfl) dX8_coefficient_1 ⟨Nat.le_of_ble_eq_true rfl, Nat.le_of_ble_eq_true rfl⟩
  · simp only [Sum.elim_inr] at hf
    refine x_callR hG hX (st := []) 0 8 (ct_X8_needSmall l hl g ad w  (.inr r1) hr1) iw_X8_needSmall wk_796 rfl rfl ⟨rfl, rfl, Nat.le_of_ble_eq_true rfl, Nat.le_of_ble_eq_true rfl⟩ ⟨Nat.le_of_ble_eq_true rfl, Nat.le_of_ble_eq_true rfl⟩ rfl rfl (Nat.le_of_ble_eq_true rfl) (ccells_fst _ _ _ _) dX8_coefficient_1 ?_
    refine (show V p l e (x_rm 7 3 111) s m args below meth c (inW (ccells g ad w)) (EX below args s g (ccells g ad w) (Sum.elim (fun x : String × CW => .inl (x.1, ccells g ad x.2)) (fun r : (Int32) => .inr ((some (.int r)), (ccells g ad w))) rr) 3 18) g 3 (ccells g ad w) 1 6 4 [(0, .ref (ad 0)), (1, .int a0), (2, .int a1)] [] from ?_)
    refine v_aload_n hG 0 rfl rfl dX8_coefficient_4 ?_
    refine v_iload_n hG 1 rfl rfl dX8_coefficient_5 ?_
    obtain ⟨r6, hr6, hf⟩ := bd_some hf
    rcases r6 with x6 | r6
    · simp only [Sum.elim_inl] at hf
      cases hf
      exact x_callT hG hX (st := []) 0 8 (ct_X8_needRow l hl g ad w a0 (.inl x6) hr6) iw_X8_needRow wk_533 rfl rfl ⟨rfl, rfl, Nat.le_of_ble_eq_true rfl, Nat.le_of_ble_eq_true rfl⟩ ⟨Nat.le_of_ble_eq_true rfl, Nat.le_of_ble_eq_true rfl⟩ rfl rfl (Nat.le_of_ble_eq_true rfl) dX8_coefficient_6 ⟨Nat.le_of_ble_eq_true rfl, Nat.le_of_ble_eq_true rfl⟩
    · simp only [Sum.elim_inr] at hf
      refine x_callR hG hX (st := []) 0 8 (ct_X8_needRow l hl g ad w a0 (.inr r6) hr6) iw_X8_needRow wk_533 rfl rfl ⟨rfl, rfl, Nat.le_of_ble_eq_true rfl, Nat.le_of_ble_eq_true rfl⟩ ⟨Nat.le_of_ble_eq_true rfl, Nat.le_of_ble_eq_true rfl⟩ rfl rfl (Nat.le_of_ble_eq_true rfl) (ccells_fst _ _ _ _) dX8_coefficient_6 ?_
      refine (show V p l e (x_rm 7 3 111) s m args below meth c (inW (ccells g ad w)) (EX below args s g (ccells g ad w) (Sum.elim (fun x : String × CW => .inl (x.1, ccells g ad x.2)) (fun r : (Int32) => .inr ((some (.int r)), (ccells g ad w))) rr) 3 18) g 3 (ccells g ad w) 2 12 9 [(0, .ref (ad 0)), (1, .int a0), (2, .int a1)] [] from ?_)
      refine v_aload_n hG 0 rfl rfl dX8_coefficient_9 ?_
      refine v_iload_n hG 2 rfl rfl dX8_coefficient_10 ?_
      obtain ⟨r11, hr11, hf⟩ := bd_some hf
      rcases r11 with x11 | r11
      · simp only [Sum.elim_inl] at hf
        cases hf
        exact x_callT hG hX (st := []) 0 8 (ct_X8_needColumn l hl g ad w a1 (.inl x11) hr11) iw_X8_needColumn wk_553 rfl rfl ⟨rfl, rfl, Nat.le_of_ble_eq_true rfl, Nat.le_of_ble_eq_true rfl⟩ ⟨Nat.le_of_ble_eq_true rfl, Nat.le_of_ble_eq_true rfl⟩ rfl rfl (Nat.le_of_ble_eq_true rfl) dX8_coefficient_11 ⟨Nat.le_of_ble_eq_true rfl, Nat.le_of_ble_eq_true rfl⟩
      · simp only [Sum.elim_inr] at hf
        refine x_callR hG hX (st := []) 0 8 (ct_X8_needColumn l hl g ad w a1 (.inr r11) hr11) iw_X8_needColumn wk_553 rfl rfl ⟨rfl, rfl, Nat.le_of_ble_eq_true rfl, Nat.le_of_ble_eq_true rfl⟩ ⟨Nat.le_of_ble_eq_true rfl, Nat.le_of_ble_eq_true rfl⟩ rfl rfl (Nat.le_of_ble_eq_true rfl) (ccells_fst _ _ _ _) dX8_coefficient_11 ?_
        refine (show V p l e (x_rm 7 3 111) s m args below meth c (inW (ccells g ad w)) (EX below args s g (ccells g ad w) (Sum.elim (fun x : String × CW => .inl (x.1, ccells g ad x.2)) (fun r : (Int32) => .inr ((some (.int r)), (ccells g ad w))) rr) 3 18) g 3 (ccells g ad w) 3 18 14 [(0, .ref (ad 0)), (1, .int a0), (2, .int a1)] [] from ?_)
        refine v_aload_n hG 0 rfl rfl dX8_coefficient_14 ?_
        refine c_g_0_1 hG wk_362 dX8_coefficient_15 ?_
        refine c_g_21_0 hG wk_221 dX8_coefficient_18 ?_
        refine v_iload_n hG 1 rfl rfl dX8_coefficient_21 ?_
        obtain ⟨r22, hr22, hf⟩ := bd_some hf
        refine v_callV hG (st := []) 22 6 (ct_X6_isGone_s l g ad w a0 r22 hr22) iw_X6_isGone wk_837 rfl rfl ⟨rfl, rfl, Nat.le_of_ble_eq_true rfl, Nat.le_of_ble_eq_true rfl⟩ ⟨Nat.le_of_ble_eq_true rfl, Nat.le_of_ble_eq_true rfl⟩ rfl rfl (Nat.le_of_ble_eq_true rfl) (ccells_fst _ _ _ _) dX8_coefficient_22 ?_
        refine (show V p l e (x_rm 7 3 111) s m args below meth c (inW (ccells g ad w)) (EX below args s g (ccells g ad w) (Sum.elim (fun x : String × CW => .inl (x.1, ccells g ad x.2)) (fun r : (Int32) => .inr ((some (.int r)), (ccells g ad w))) rr) 3 18) g 3 (ccells g ad w) 3 18 25 [(0, .ref (ad 0)), (1, .int a0), (2, .int a1)] [.int r22] from ?_)
        refine v_if_ne hG 42 dX8_coefficient_25 rfl hf (fun hf => ?_) (fun hf => ?_)
        · refine v_iconst hG (v := 0) (by decide) dX8_coefficient_42 ?_
          cases hf
          exact x_iret hG hr ⟨Nat.le_of_ble_eq_true rfl, Nat.le_of_ble_eq_true rfl⟩ dX8_coefficient_43
        · refine v_aload_n hG 0 rfl rfl dX8_coefficient_28 ?_
          refine c_g_0_1 hG wk_362 dX8_coefficient_29 ?_
          refine c_g_21_0 hG wk_221 dX8_coefficient_32 ?_
          refine v_iload_n hG 2 rfl rfl dX8_coefficient_35 ?_
          obtain ⟨r36, hr36, hf⟩ := bd_some hf
          refine v_callV hG (st := []) 22 6 (ct_X6_isThere_s l g ad w a1 r36 hr36) iw_X6_isThere wk_815 rfl rfl ⟨rfl, rfl, Nat.le_of_ble_eq_true rfl, Nat.le_of_ble_eq_true rfl⟩ ⟨Nat.le_of_ble_eq_true rfl, Nat.le_of_ble_eq_true rfl⟩ rfl rfl (Nat.le_of_ble_eq_true rfl) (ccells_fst _ _ _ _) dX8_coefficient_36 ?_
          refine (show V p l e (x_rm 7 3 111) s m args below meth c (inW (ccells g ad w)) (EX below args s g (ccells g ad w) (Sum.elim (fun x : String × CW => .inl (x.1, ccells g ad x.2)) (fun r : (Int32) => .inr ((some (.int r)), (ccells g ad w))) rr) 3 18) g 3 (ccells g ad w) 3 18 39 [(0, .ref (ad 0)), (1, .int a0), (2, .int a1)] [.int r36] from ?_)
          refine v_if_ne hG 44 dX8_coefficient_39 rfl hf (fun hf => ?_) (fun hf => ?_)
          · refine v_aload_n hG 0 rfl rfl dX8_coefficient_44 ?_
            refine c_g_0_1 hG wk_362 dX8_coefficient_45 ?_
            refine c_g_21_0 hG wk_221 dX8_coefficient_48 ?_
            refine c_g_22_6 hG wk_152 dX8_coefficient_51 ?_
            refine v_iload_n hG 1 rfl rfl dX8_coefficient_54 ?_
            refine c_o_29 hG dX8_coefficient_55 hf (fun hi55 hf => ?_)
            refine v_iload_n hG 2 rfl rfl dX8_coefficient_56 ?_
            refine c_rl_29 hG hi55 dX8_coefficient_57 hf (fun hf => ?_)
            refine v_l2i hG dX8_coefficient_58 ?_
            cases hf
            exact x_iret hG hr ⟨Nat.le_of_ble_eq_true rfl, Nat.le_of_ble_eq_true rfl⟩ dX8_coefficient_59
          · refine v_iconst hG (v := 0) (by decide) dX8_coefficient_42 ?_
            cases hf
            exact x_iret hG hr ⟨Nat.le_of_ble_eq_true rfl, Nat.le_of_ble_eq_true rfl⟩ dX8_coefficient_43
def X8_offset (w : CW) : Option ((String × CW) ⊕ (Int64)) := ((X8_needSmall w).bind (fun r1 : (String × CW) ⊕ (Unit) => Sum.elim (fun x1 : String × CW => some (.inl x1)) (fun r1 : Unit => (some (.inr (gC_offset w)))) r1))
set_option maxRecDepth 100000 in
set_option maxHeartbeats 4000000 in
theorem ct_X8_offset (l : Launch) (hl : l.stackTraces = false) (g : wG) (ad : Nat → Nat) (w : CW)  (rr : (String × CW) ⊕ (Int64)) (hf : X8_offset w = some rr) : MetX l g yX8_offset cX8_offset 1 (some .long) (x_rm 7 1 110) [.ref (ad 0)] (ccells g ad w) (Sum.elim (fun x : String × CW => .inl (x.1, ccells g ad x.2)) (fun r : (Int64) => .inr ((some (.long r)), (ccells g ad w))) rr) 1 6 := by
  refine MetX.of2 hl [(0, .ref (ad 0))] rfl (by decide +kernel) (Nat.le_of_ble_eq_true rfl) ?_
  intro p e s m args below meth c hG hr hX
  unfold X8_offset at hf
  refine v_aload_n hG 0 rfl rfl dX8_offset_0 ?_
  obtain ⟨r1, hr1, hf⟩ := bd_some hf
  rcases r1 with x1 | r1
  · simp only [Sum.elim_inl] at hf
    cases hf
    exact x_callT hG hX (st := []) 0 8 (ct_X8_needSmall l hl g ad w  (.inl x1) hr1) iw_X8_needSmall wk_796 rfl rfl ⟨rfl, rfl, Nat.le_of_ble_eq_true rfl, Nat.le_of_ble_eq_true rfl⟩ ⟨Nat.le_of_ble_eq_true rfl, Nat.le_of_ble_eq_true rfl⟩ rfl rfl (Nat.le_of_ble_eq_true rfl) dX8_offset_1 ⟨Nat.le_of_ble_eq_true rfl, Nat.le_of_ble_eq_true rfl⟩
  · simp only [Sum.elim_inr] at hf
    refine x_callR hG hX (st := []) 0 8 (ct_X8_needSmall l hl g ad w  (.inr r1) hr1) iw_X8_needSmall wk_796 rfl rfl ⟨rfl, rfl, Nat.le_of_ble_eq_true rfl, Nat.le_of_ble_eq_true rfl⟩ ⟨Nat.le_of_ble_eq_true rfl, Nat.le_of_ble_eq_true rfl⟩ rfl rfl (Nat.le_of_ble_eq_true rfl) (ccells_fst _ _ _ _) dX8_offset_1 ?_
    refine (show V p l e (x_rm 7 1 110) s m args below meth c (inW (ccells g ad w)) (EX below args s g (ccells g ad w) (Sum.elim (fun x : String × CW => .inl (x.1, ccells g ad x.2)) (fun r : (Int64) => .inr ((some (.long r)), (ccells g ad w))) rr) 1 6) g 1 (ccells g ad w) 1 6 4 [(0, .ref (ad 0))] [] from ?_)
    refine v_aload_n hG 0 rfl rfl dX8_offset_4 ?_
    refine c_g_0_1 hG wk_362 dX8_offset_5 ?_
    refine c_g_21_5 hG wk_239 dX8_offset_8 ?_
    cases hf
    exact x_lret hG hr ⟨Nat.le_of_ble_eq_true rfl, Nat.le_of_ble_eq_true rfl⟩ dX8_offset_11
def X8_rest_J13 (w : CW)  : Option ((String × CW) ⊕ (Int32)) := (some (.inl ("java/lang/IllegalArgumentException", w)))
def X8_rest (w : CW) (a0 : Int32) (a1 : Int32) : Option ((String × CW) ⊕ (Int32)) := ((X8_needSmall w).bind (fun r1 : (String × CW) ⊕ (Unit) => Sum.elim (fun x1 : String × CW => some (.inl x1)) (fun r1 : Unit => (if a0 < 0 then (X8_rest_J13 w) else (if a0 ≤ 2 then (if a0 = 0 then ((X8_needRow w a1).bind (fun r29 : (String × CW) ⊕ (Unit) => Sum.elim (fun x29 : String × CW => some (.inl x29)) (fun r29 : Unit => (if inR a1 12 = true then (some (.inr ((gC_rowRest w) a1.toNatClampNeg))) else none)) r29)) else ((X8_needColumn w a1).bind (fun r44 : (String × CW) ⊕ (Unit) => Sum.elim (fun x44 : String × CW => some (.inl x44)) (fun r44 : Unit => (if a0 = 1 then (if inR a1 12 = true then (some (.inr ((gC_lowRest w) a1.toNatClampNeg))) else none) else (if inR a1 12 = true then (some (.inr ((gC_highRest w) a1.toNatClampNeg))) else none))) r44))) else (X8_rest_J13 w)))) r1))
set_option maxRecDepth 100000 in
set_option maxHeartbeats 4000000 in
theorem ct_X8_rest (l : Launch) (hl : l.stackTraces = false) (g : wG) (ad : Nat → Nat) (w : CW) (a0 : Int32) (a1 : Int32) (rr : (String × CW) ⊕ (Int32)) (hf : X8_rest w a0 a1 = some rr) : MetX l g yX8_rest cX8_rest 3 (some .int) (x_rm 7 2 111) [.ref (ad 0), .int a0, .int a1] (ccells g ad w) (Sum.elim (fun x : String × CW => .inl (x.1, ccells g ad x.2)) (fun r : (Int32) => .inr ((some (.int r)), (ccells g ad w))) rr) 2 12 := by
  refine MetX.of2 hl [(0, .ref (ad 0)), (1, .int a0), (2, .int a1)] rfl (by decide +kernel) (Nat.le_of_ble_eq_true rfl) ?_
  intro p e s m args below meth c hG hr hX
  unfold X8_rest at hf
  have j13 : X8_rest_J13 w = some rr → V p l e (x_rm 7 2 111) s m args below meth c (inW (ccells g ad w)) (EX below args s g (ccells g ad w) (Sum.elim (fun x : String × CW => .inl (x.1, ccells g ad x.2)) (fun r : (Int32) => .inr ((some (.int r)), (ccells g ad w))) rr) 2 12) g 3 (ccells g ad w) 1 6 13 [] [] := by
    intro hf
    unfold X8_rest_J13 at hf
    cases hf
    exact x_throw hG rfl hX "which is not 0, 1, 2" "java/lang/IllegalArgumentException" thr_77 (by decide +kernel) dX8_rest_13 dX8_rest_16 dX8_rest_17 dX8_rest_19 dX8_rest_22 ⟨Nat.le_of_ble_eq_true rfl, Nat.le_of_ble_eq_true rfl, Nat.le_of_ble_eq_true rfl, Nat.le_of_ble_eq_true rfl⟩ ⟨Nat.le_of_ble_eq_true rfl, Nat.le_of_ble_eq_true rfl⟩
  refine v_aload_n hG 0 rfl rfl dX8_rest_0 ?_
  obtain ⟨r1, hr1, hf⟩ := bd_some hf
  rcases r1 with x1 | r1
  · simp only [Sum.elim_inl] at hf
    cases hf
    exact x_callT hG hX (st := []) 0 8 (ct_X8_needSmall l hl g ad w  (.inl x1) hr1) iw_X8_needSmall wk_796 rfl rfl ⟨rfl, rfl, Nat.le_of_ble_eq_true rfl, Nat.le_of_ble_eq_true rfl⟩ ⟨Nat.le_of_ble_eq_true rfl, Nat.le_of_ble_eq_true rfl⟩ rfl rfl (Nat.le_of_ble_eq_true rfl) dX8_rest_1 ⟨Nat.le_of_ble_eq_true rfl, Nat.le_of_ble_eq_true rfl⟩
  · simp only [Sum.elim_inr] at hf
    refine x_callR hG hX (st := []) 0 8 (ct_X8_needSmall l hl g ad w  (.inr r1) hr1) iw_X8_needSmall wk_796 rfl rfl ⟨rfl, rfl, Nat.le_of_ble_eq_true rfl, Nat.le_of_ble_eq_true rfl⟩ ⟨Nat.le_of_ble_eq_true rfl, Nat.le_of_ble_eq_true rfl⟩ rfl rfl (Nat.le_of_ble_eq_true rfl) (ccells_fst _ _ _ _) dX8_rest_1 ?_
    refine (show V p l e (x_rm 7 2 111) s m args below meth c (inW (ccells g ad w)) (EX below args s g (ccells g ad w) (Sum.elim (fun x : String × CW => .inl (x.1, ccells g ad x.2)) (fun r : (Int32) => .inr ((some (.int r)), (ccells g ad w))) rr) 2 12) g 3 (ccells g ad w) 1 6 4 [(0, .ref (ad 0)), (1, .int a0), (2, .int a1)] [] from ?_)
    refine v_iload_n hG 1 rfl rfl dX8_rest_4 ?_
    refine v_if_lt hG 13 dX8_rest_5 rfl hf (fun hf => ?_) (fun hf => ?_)
    · refine v_sub [] [] rfl ?_
      exact j13  hf
    · refine v_iload_n hG 1 rfl rfl dX8_rest_8 ?_
      refine v_iconst hG (v := 2) (by decide) dX8_rest_9 ?_
      refine v_icmp_le hG 23 dX8_rest_10 rfl hf (fun hf => ?_) (fun hf => ?_)
      · refine v_iload_n hG 1 rfl rfl dX8_rest_23 ?_
        refine v_if_ne hG 42 dX8_rest_24 rfl hf (fun hf => ?_) (fun hf => ?_)
        · refine v_aload_n hG 0 rfl rfl dX8_rest_42 ?_
          refine v_iload_n hG 2 rfl rfl dX8_rest_43 ?_
          obtain ⟨r44, hr44, hf⟩ := bd_some hf
          rcases r44 with x44 | r44
          · simp only [Sum.elim_inl] at hf
            cases hf
            exact x_callT hG hX (st := []) 0 8 (ct_X8_needColumn l hl g ad w a1 (.inl x44) hr44) iw_X8_needColumn wk_553 rfl rfl ⟨rfl, rfl, Nat.le_of_ble_eq_true rfl, Nat.le_of_ble_eq_true rfl⟩ ⟨Nat.le_of_ble_eq_true rfl, Nat.le_of_ble_eq_true rfl⟩ rfl rfl (Nat.le_of_ble_eq_true rfl) dX8_rest_44 ⟨Nat.le_of_ble_eq_true rfl, Nat.le_of_ble_eq_true rfl⟩
          · simp only [Sum.elim_inr] at hf
            refine x_callR hG hX (st := []) 0 8 (ct_X8_needColumn l hl g ad w a1 (.inr r44) hr44) iw_X8_needColumn wk_553 rfl rfl ⟨rfl, rfl, Nat.le_of_ble_eq_true rfl, Nat.le_of_ble_eq_true rfl⟩ ⟨Nat.le_of_ble_eq_true rfl, Nat.le_of_ble_eq_true rfl⟩ rfl rfl (Nat.le_of_ble_eq_true rfl) (ccells_fst _ _ _ _) dX8_rest_44 ?_
            refine (show V p l e (x_rm 7 2 111) s m args below meth c (inW (ccells g ad w)) (EX below args s g (ccells g ad w) (Sum.elim (fun x : String × CW => .inl (x.1, ccells g ad x.2)) (fun r : (Int32) => .inr ((some (.int r)), (ccells g ad w))) rr) 2 12) g 3 (ccells g ad w) 2 12 47 [(0, .ref (ad 0)), (1, .int a0), (2, .int a1)] [] from ?_)
            refine v_iload_n hG 1 rfl rfl dX8_rest_47 ?_
            refine v_iconst hG (v := 1) (by decide) dX8_rest_48 ?_
            refine v_icmp_ne hG 64 dX8_rest_49 rfl hf (fun hf => ?_) (fun hf => ?_)
            · refine v_aload_n hG 0 rfl rfl dX8_rest_64 ?_
              refine c_g_0_1 hG wk_362 dX8_rest_65 ?_
              refine c_g_21_3 hG wk_232 dX8_rest_68 ?_
              refine v_iload_n hG 2 rfl rfl dX8_rest_71 ?_
              refine c_l_44 hG dX8_rest_72 hf (fun hf => ?_)
              cases hf
              exact x_iret hG hr ⟨Nat.le_of_ble_eq_true rfl, Nat.le_of_ble_eq_true rfl⟩ dX8_rest_73
            · refine v_aload_n hG 0 rfl rfl dX8_rest_52 ?_
              refine c_g_0_1 hG wk_362 dX8_rest_53 ?_
              refine c_g_21_2 hG wk_228 dX8_rest_56 ?_
              refine v_iload_n hG 2 rfl rfl dX8_rest_59 ?_
              refine c_l_43 hG dX8_rest_60 hf (fun hf => ?_)
              refine v_goto hG 73 dX8_rest_61 rfl ?_
              cases hf
              exact x_iret hG hr ⟨Nat.le_of_ble_eq_true rfl, Nat.le_of_ble_eq_true rfl⟩ dX8_rest_73
        · refine v_aload_n hG 0 rfl rfl dX8_rest_27 ?_
          refine v_iload_n hG 2 rfl rfl dX8_rest_28 ?_
          obtain ⟨r29, hr29, hf⟩ := bd_some hf
          rcases r29 with x29 | r29
          · simp only [Sum.elim_inl] at hf
            cases hf
            exact x_callT hG hX (st := []) 0 8 (ct_X8_needRow l hl g ad w a1 (.inl x29) hr29) iw_X8_needRow wk_533 rfl rfl ⟨rfl, rfl, Nat.le_of_ble_eq_true rfl, Nat.le_of_ble_eq_true rfl⟩ ⟨Nat.le_of_ble_eq_true rfl, Nat.le_of_ble_eq_true rfl⟩ rfl rfl (Nat.le_of_ble_eq_true rfl) dX8_rest_29 ⟨Nat.le_of_ble_eq_true rfl, Nat.le_of_ble_eq_true rfl⟩
          · simp only [Sum.elim_inr] at hf
            refine x_callR hG hX (st := []) 0 8 (ct_X8_needRow l hl g ad w a1 (.inr r29) hr29) iw_X8_needRow wk_533 rfl rfl ⟨rfl, rfl, Nat.le_of_ble_eq_true rfl, Nat.le_of_ble_eq_true rfl⟩ ⟨Nat.le_of_ble_eq_true rfl, Nat.le_of_ble_eq_true rfl⟩ rfl rfl (Nat.le_of_ble_eq_true rfl) (ccells_fst _ _ _ _) dX8_rest_29 ?_
            refine (show V p l e (x_rm 7 2 111) s m args below meth c (inW (ccells g ad w)) (EX below args s g (ccells g ad w) (Sum.elim (fun x : String × CW => .inl (x.1, ccells g ad x.2)) (fun r : (Int32) => .inr ((some (.int r)), (ccells g ad w))) rr) 2 12) g 3 (ccells g ad w) 2 12 32 [(0, .ref (ad 0)), (1, .int a0), (2, .int a1)] [] from ?_)
            refine v_aload_n hG 0 rfl rfl dX8_rest_32 ?_
            refine c_g_0_1 hG wk_362 dX8_rest_33 ?_
            refine c_g_21_1 hG wk_225 dX8_rest_36 ?_
            refine v_iload_n hG 2 rfl rfl dX8_rest_39 ?_
            refine c_l_42 hG dX8_rest_40 hf (fun hf => ?_)
            cases hf
            exact x_iret hG hr ⟨Nat.le_of_ble_eq_true rfl, Nat.le_of_ble_eq_true rfl⟩ dX8_rest_41
      · refine v_sub [] [] rfl ?_
        exact j13  hf
def X8_certificate (w : CW) : Option ((String × CW) ⊕ (Int32)) := ((X8_needSmall w).bind (fun r1 : (String × CW) ⊕ (Unit) => Sum.elim (fun x1 : String × CW => some (.inl x1)) (fun r1 : Unit => (some (.inr (gC_certificate w)))) r1))
set_option maxRecDepth 100000 in
set_option maxHeartbeats 4000000 in
theorem ct_X8_certificate (l : Launch) (hl : l.stackTraces = false) (g : wG) (ad : Nat → Nat) (w : CW)  (rr : (String × CW) ⊕ (Int32)) (hf : X8_certificate w = some rr) : MetX l g yX8_certificate cX8_certificate 1 (some .int) (x_rm 7 1 110) [.ref (ad 0)] (ccells g ad w) (Sum.elim (fun x : String × CW => .inl (x.1, ccells g ad x.2)) (fun r : (Int32) => .inr ((some (.int r)), (ccells g ad w))) rr) 1 6 := by
  refine MetX.of2 hl [(0, .ref (ad 0))] rfl (by decide +kernel) (Nat.le_of_ble_eq_true rfl) ?_
  intro p e s m args below meth c hG hr hX
  unfold X8_certificate at hf
  refine v_aload_n hG 0 rfl rfl dX8_certificate_0 ?_
  obtain ⟨r1, hr1, hf⟩ := bd_some hf
  rcases r1 with x1 | r1
  · simp only [Sum.elim_inl] at hf
    cases hf
    exact x_callT hG hX (st := []) 0 8 (ct_X8_needSmall l hl g ad w  (.inl x1) hr1) iw_X8_needSmall wk_796 rfl rfl ⟨rfl, rfl, Nat.le_of_ble_eq_true rfl, Nat.le_of_ble_eq_true rfl⟩ ⟨Nat.le_of_ble_eq_true rfl, Nat.le_of_ble_eq_true rfl⟩ rfl rfl (Nat.le_of_ble_eq_true rfl) dX8_certificate_1 ⟨Nat.le_of_ble_eq_true rfl, Nat.le_of_ble_eq_true rfl⟩
  · simp only [Sum.elim_inr] at hf
    refine x_callR hG hX (st := []) 0 8 (ct_X8_needSmall l hl g ad w  (.inr r1) hr1) iw_X8_needSmall wk_796 rfl rfl ⟨rfl, rfl, Nat.le_of_ble_eq_true rfl, Nat.le_of_ble_eq_true rfl⟩ ⟨Nat.le_of_ble_eq_true rfl, Nat.le_of_ble_eq_true rfl⟩ rfl rfl (Nat.le_of_ble_eq_true rfl) (ccells_fst _ _ _ _) dX8_certificate_1 ?_
    refine (show V p l e (x_rm 7 1 110) s m args below meth c (inW (ccells g ad w)) (EX below args s g (ccells g ad w) (Sum.elim (fun x : String × CW => .inl (x.1, ccells g ad x.2)) (fun r : (Int32) => .inr ((some (.int r)), (ccells g ad w))) rr) 1 6) g 1 (ccells g ad w) 1 6 4 [(0, .ref (ad 0))] [] from ?_)
    refine v_aload_n hG 0 rfl rfl dX8_certificate_4 ?_
    refine c_g_0_1 hG wk_362 dX8_certificate_5 ?_
    refine c_g_21_6 hG wk_241 dX8_certificate_8 ?_
    cases hf
    exact x_iret hG hr ⟨Nat.le_of_ble_eq_true rfl, Nat.le_of_ble_eq_true rfl⟩ dX8_certificate_11
def X8_certified_L52 (r28 : Int32) (s52 : CW × Int32) : Option ((CW × Int32) ⊕ ((CW) ⊕ (CW))) := (if r28 ≤ s52.2 then (some (.inr (.inr s52.1))) else ((X7_holdsAll s52.1 false (gC_certificate s52.1)).bind (fun r68 : Int32 => (if r68 = 0 then ((X7_goOn s52.1 false).bind (fun r80 : CW => (some (.inl (r80, (s52.2 + 1)))))) else (some (.inr (.inl s52.1)))))))
def X8_certified (w : CW) : Option ((String × CW) ⊕ (Int32 × CW)) := ((X8_needSmall w).bind (fun r1 : (String × CW) ⊕ (Unit) => Sum.elim (fun x1 : String × CW => some (.inl x1)) (fun r1 : Unit => ((X5_isImpossible w).bind (fun r8 : Int32 => (if r8 = 0 then (some (.inl ("java/lang/IllegalStateException", w))) else ((X6_countPoints (gC_whole w)).bind (fun r28 : Int32 => (if r28 = (-1) then (some (.inr ((-1), w))) else ((X7_beginAt w false).bind (fun r47 : CW => ((iter (X8_certified_L52 r28) 5000 (r47, 0)).bind (fun z52 : (CW) ⊕ (CW) => (Sum.elim (fun z52_0 : CW => (some (.inr (0, z52_0)))) (fun z52_r0 : (CW) => (some (.inr (1, z52_r0)))) z52)))))))))))) r1))
set_option maxRecDepth 100000 in
set_option maxHeartbeats 4000000 in
theorem ct_X8_certified (l : Launch) (hl : l.stackTraces = false) (g : wG) (ad : Nat → Nat) (w : CW)  (rr : (String × CW) ⊕ (Int32 × CW)) (hf : X8_certified w = some rr) : MetX l g yX8_certified cX8_certified 3 (some .int) (x_rm 7 2 110) [.ref (ad 0)] (ccells g ad w) (Sum.elim (fun x : String × CW => .inl (x.1, ccells g ad x.2)) (fun r : (Int32 × CW) => .inr ((some (.int r.1)), (ccells g ad r.2))) rr) 2 12 := by
  refine MetX.of2 hl [(0, .ref (ad 0))] rfl (by decide +kernel) (Nat.le_of_ble_eq_true rfl) ?_
  intro p e s m args below meth c hG hr hX
  unfold X8_certified at hf
  refine v_aload_n hG 0 rfl rfl dX8_certified_0 ?_
  obtain ⟨r1, hr1, hf⟩ := bd_some hf
  rcases r1 with x1 | r1
  · simp only [Sum.elim_inl] at hf
    cases hf
    exact x_callT hG hX (st := []) 0 8 (ct_X8_needSmall l hl g ad w  (.inl x1) hr1) iw_X8_needSmall wk_796 rfl rfl ⟨rfl, rfl, Nat.le_of_ble_eq_true rfl, Nat.le_of_ble_eq_true rfl⟩ ⟨Nat.le_of_ble_eq_true rfl, Nat.le_of_ble_eq_true rfl⟩ rfl rfl (Nat.le_of_ble_eq_true rfl) dX8_certified_1 ⟨Nat.le_of_ble_eq_true rfl, Nat.le_of_ble_eq_true rfl⟩
  · simp only [Sum.elim_inr] at hf
    refine x_callR hG hX (st := []) 0 8 (ct_X8_needSmall l hl g ad w  (.inr r1) hr1) iw_X8_needSmall wk_796 rfl rfl ⟨rfl, rfl, Nat.le_of_ble_eq_true rfl, Nat.le_of_ble_eq_true rfl⟩ ⟨Nat.le_of_ble_eq_true rfl, Nat.le_of_ble_eq_true rfl⟩ rfl rfl (Nat.le_of_ble_eq_true rfl) (ccells_fst _ _ _ _) dX8_certified_1 ?_
    refine (show V p l e (x_rm 7 2 110) s m args below meth c (inW (ccells g ad w)) (EX below args s g (ccells g ad w) (Sum.elim (fun x : String × CW => .inl (x.1, ccells g ad x.2)) (fun r : (Int32 × CW) => .inr ((some (.int r.1)), (ccells g ad r.2))) rr) 2 12) g 3 (ccells g ad w) 1 6 4 [(0, .ref (ad 0))] [] from ?_)
    refine v_aload_n hG 0 rfl rfl dX8_certified_4 ?_
    refine c_g_0_1 hG wk_362 dX8_certified_5 ?_
    obtain ⟨r8, hr8, hf⟩ := bd_some hf
    refine v_callV hG (st := []) 21 5 (ct_X5_isImpossible l g ad w  r8 hr8) iw_X5_isImpossible wk_867 rfl rfl ⟨rfl, rfl, Nat.le_of_ble_eq_true rfl, Nat.le_of_ble_eq_true rfl⟩ ⟨Nat.le_of_ble_eq_true rfl, Nat.le_of_ble_eq_true rfl⟩ rfl rfl (Nat.le_of_ble_eq_true rfl) (ccells_fst _ _ _ _) dX8_certified_8 ?_
    refine (show V p l e (x_rm 7 2 110) s m args below meth c (inW (ccells g ad w)) (EX below args s g (ccells g ad w) (Sum.elim (fun x : String × CW => .inl (x.1, ccells g ad x.2)) (fun r : (Int32 × CW) => .inr ((some (.int r.1)), (ccells g ad r.2))) rr) 2 12) g 3 (ccells g ad w) 1 6 11 [(0, .ref (ad 0))] [.int r8] from ?_)
    refine v_if_ne hG 24 dX8_certified_11 rfl hf (fun hf => ?_) (fun hf => ?_)
    · refine v_aload_n hG 0 rfl rfl dX8_certified_24 ?_
      refine c_g_0_0 hG wk_361 dX8_certified_25 ?_
      obtain ⟨r28, hr28, hf⟩ := bd_some hf
      refine v_callV hG (st := []) 1 6 (ct_X6_countPoints_w l g ad w  r28 hr28) iw_X6_countPoints wk_872 rfl rfl ⟨rfl, rfl, Nat.le_of_ble_eq_true rfl, Nat.le_of_ble_eq_true rfl⟩ ⟨Nat.le_of_ble_eq_true rfl, Nat.le_of_ble_eq_true rfl⟩ rfl rfl (Nat.le_of_ble_eq_true rfl) (ccells_fst _ _ _ _) dX8_certified_28 ?_
      refine (show V p l e (x_rm 7 2 110) s m args below meth c (inW (ccells g ad w)) (EX below args s g (ccells g ad w) (Sum.elim (fun x : String × CW => .inl (x.1, ccells g ad x.2)) (fun r : (Int32 × CW) => .inr ((some (.int r.1)), (ccells g ad r.2))) rr) 2 12) g 3 (ccells g ad w) 1 6 31 [(0, .ref (ad 0))] [.int r28] from ?_)
      refine v_istore_n hG [(1, _), (0, _)] dX8_certified_31 rfl (by decide) rfl ?_
      refine v_iload_n hG 0 rfl rfl dX8_certified_32 ?_
      refine v_iconst hG (v := -1) (by decide) dX8_certified_33 ?_
      refine v_icmp_ne hG 39 dX8_certified_34 rfl hf (fun hf => ?_) (fun hf => ?_)
      · refine v_aload_n hG 1 rfl rfl dX8_certified_39 ?_
        refine c_g_0_4 hG wk_365 dX8_certified_40 ?_
        refine v_aload_n hG 1 rfl rfl dX8_certified_43 ?_
        refine c_g_0_0 hG wk_361 dX8_certified_44 ?_
        obtain ⟨r47, hr47, hf⟩ := bd_some hf
        refine v_callV hG (st := []) 67 7 (ct_X7_beginAt_w l g ad w  r47 hr47) iw_X7_beginAt wk_878 rfl rfl ⟨rfl, rfl, Nat.le_of_ble_eq_true rfl, Nat.le_of_ble_eq_true rfl⟩ ⟨Nat.le_of_ble_eq_true rfl, Nat.le_of_ble_eq_true rfl⟩ rfl rfl (Nat.le_of_ble_eq_true rfl) (ccells_fst _ _ _ _) dX8_certified_47 ?_
        refine (show V p l e (x_rm 7 2 110) s m args below meth c (inW (ccells g ad w)) (EX below args s g (ccells g ad w) (Sum.elim (fun x : String × CW => .inl (x.1, ccells g ad x.2)) (fun r : (Int32 × CW) => .inr ((some (.int r.1)), (ccells g ad r.2))) rr) 2 12) g 3 (ccells g ad r47) 1 6 50 [(1, .int r28), (0, .ref (ad 0))] [] from ?_)
        refine v_iconst hG (v := 0) (by decide) dX8_certified_50 ?_
        refine v_istore_n hG [(2, _), (1, _), (0, _)] dX8_certified_51 rfl (by decide) rfl ?_
        refine v_sub [(0, _), (1, _), (2, _)] [2, 1, 0] rfl ?_
        obtain ⟨z52, hlz52, hf⟩ := bd_some hf
        refine loop_v (step := X8_certified_L52 r28) (fun s52 : CW × Int32 => V p l e (x_rm 7 2 110) s m args below meth c (inW (ccells g ad w)) (EX below args s g (ccells g ad w) (Sum.elim (fun x : String × CW => .inl (x.1, ccells g ad x.2)) (fun r : (Int32 × CW) => .inr ((some (.int r.1)), (ccells g ad r.2))) rr) 2 12) g 3 (ccells g ad s52.1) 1 6 52 [(0, .ref (ad 0)), (1, .int r28), (2, .int s52.2)] []) (fun z52_q : (CW) ⊕ (CW) => Sum.elim (fun z52_0 : CW => V p l e (x_rm 7 2 110) s m args below meth c (inW (ccells g ad w)) (EX below args s g (ccells g ad w) (Sum.elim (fun x : String × CW => .inl (x.1, ccells g ad x.2)) (fun r : (Int32 × CW) => .inr ((some (.int r.1)), (ccells g ad r.2))) rr) 2 12) g 3 (ccells g ad z52_0) 1 6 74 [] []) (fun z52_r0 : (CW) => V p l e (x_rm 7 2 110) s m args below meth c (inW (ccells g ad w)) (EX below args s g (ccells g ad w) (Sum.elim (fun x : String × CW => .inl (x.1, ccells g ad x.2)) (fun r : (Int32 × CW) => .inr ((some (.int r.1)), (ccells g ad r.2))) rr) 2 12) g 3 (ccells g ad z52_r0) 1 6 89 [] []) z52_q) ?_ 5000 (r47, 0) z52 hlz52 ?_
        · intro s52 rL hf hin hout
          unfold X8_certified_L52 at hf
          refine v_iload_n hG 2 rfl rfl dX8_certified_52 ?_
          refine v_iload_n hG 1 rfl rfl dX8_certified_53 ?_
          refine v_icmp_ge hG 89 dX8_certified_54 rfl hf (fun hf => ?_) (fun hf => ?_)
          · refine v_sub [] [] rfl ?_
            exact hout _ (Option.some.inj hf).symm
          · refine v_aload_n hG 0 rfl rfl dX8_certified_57 ?_
            refine c_g_0_4 hG wk_365 dX8_certified_58 ?_
            refine v_aload_n hG 0 rfl rfl dX8_certified_61 ?_
            refine c_g_0_1 hG wk_362 dX8_certified_62 ?_
            refine c_g_21_6 hG wk_241 dX8_certified_65 ?_
            obtain ⟨r68, hr68, hf⟩ := bd_some hf
            refine v_callV hG (st := []) 67 7 (ct_X7_holdsAll_w l g ad s52.1 (gC_certificate s52.1) r68 hr68) iw_X7_holdsAll wk_887 rfl rfl ⟨rfl, rfl, Nat.le_of_ble_eq_true rfl, Nat.le_of_ble_eq_true rfl⟩ ⟨Nat.le_of_ble_eq_true rfl, Nat.le_of_ble_eq_true rfl⟩ rfl rfl (Nat.le_of_ble_eq_true rfl) (ccells_fst _ _ _ _) dX8_certified_68 ?_
            refine (show V p l e (x_rm 7 2 110) s m args below meth c (inW (ccells g ad w)) (EX below args s g (ccells g ad w) (Sum.elim (fun x : String × CW => .inl (x.1, ccells g ad x.2)) (fun r : (Int32 × CW) => .inr ((some (.int r.1)), (ccells g ad r.2))) rr) 2 12) g 3 (ccells g ad s52.1) 1 6 71 [(0, .ref (ad 0)), (1, .int r28), (2, .int s52.2)] [.int r68] from ?_)
            refine v_if_eq hG 76 dX8_certified_71 rfl hf (fun hf => ?_) (fun hf => ?_)
            · refine v_aload_n hG 0 rfl rfl dX8_certified_76 ?_
              refine c_g_0_4 hG wk_365 dX8_certified_77 ?_
              obtain ⟨r80, hr80, hf⟩ := bd_some hf
              refine v_callV hG (st := []) 67 7 (ct_X7_goOn_w l g ad s52.1  r80 hr80) iw_X7_goOn wk_892 rfl rfl ⟨rfl, rfl, Nat.le_of_ble_eq_true rfl, Nat.le_of_ble_eq_true rfl⟩ ⟨Nat.le_of_ble_eq_true rfl, Nat.le_of_ble_eq_true rfl⟩ rfl rfl (Nat.le_of_ble_eq_true rfl) (ccells_fst _ _ _ _) dX8_certified_80 ?_
              refine (show V p l e (x_rm 7 2 110) s m args below meth c (inW (ccells g ad w)) (EX below args s g (ccells g ad w) (Sum.elim (fun x : String × CW => .inl (x.1, ccells g ad x.2)) (fun r : (Int32 × CW) => .inr ((some (.int r.1)), (ccells g ad r.2))) rr) 2 12) g 3 (ccells g ad r80) 1 6 83 [(0, .ref (ad 0)), (1, .int r28), (2, .int s52.2)] [] from ?_)
              refine v_iinc hG 2 (v := s52.2 + 1) [(2, _), (0, _), (1, _)] dX8_certified_83 rfl rfl (by decide) rfl ?_
              refine v_goto hG 52 dX8_certified_86 rfl ?_
              refine v_sub [(0, _), (1, _), (2, _)] [1, 2, 0] rfl ?_
              exact hin _ (Option.some.inj hf).symm
            · refine v_sub [] [] rfl ?_
              exact hout _ (Option.some.inj hf).symm
        · rcases z52 with z52_x0 | z52_x0
          · simp only [Sum.elim_inl] at hf
            show V p l e (x_rm 7 2 110) s m args below meth c (inW (ccells g ad w)) (EX below args s g (ccells g ad w) (Sum.elim (fun x : String × CW => .inl (x.1, ccells g ad x.2)) (fun r : (Int32 × CW) => .inr ((some (.int r.1)), (ccells g ad r.2))) rr) 2 12) g 3 (ccells g ad z52_x0) 1 6 74 [] []
            refine v_iconst hG (v := 0) (by decide) dX8_certified_74 ?_
            cases hf
            exact x_iret hG hr ⟨Nat.le_of_ble_eq_true rfl, Nat.le_of_ble_eq_true rfl⟩ dX8_certified_75
          · simp only [Sum.elim_inr] at hf
            show V p l e (x_rm 7 2 110) s m args below meth c (inW (ccells g ad w)) (EX below args s g (ccells g ad w) (Sum.elim (fun x : String × CW => .inl (x.1, ccells g ad x.2)) (fun r : (Int32 × CW) => .inr ((some (.int r.1)), (ccells g ad r.2))) rr) 2 12) g 3 (ccells g ad z52_x0) 1 6 89 [] []
            refine v_iconst hG (v := 1) (by decide) dX8_certified_89 ?_
            cases hf
            exact x_iret hG hr ⟨Nat.le_of_ble_eq_true rfl, Nat.le_of_ble_eq_true rfl⟩ dX8_certified_90
      · refine v_iconst hG (v := -1) (by decide) dX8_certified_37 ?_
        cases hf
        exact x_iret hG hr ⟨Nat.le_of_ble_eq_true rfl, Nat.le_of_ble_eq_true rfl⟩ dX8_certified_38
    · cases hf
      exact x_throw hG rfl hX "the small is not impossible" "java/lang/IllegalStateException" thr_62 (by decide +kernel) dX8_certified_14 dX8_certified_17 dX8_certified_18 dX8_certified_20 dX8_certified_23 ⟨Nat.le_of_ble_eq_true rfl, Nat.le_of_ble_eq_true rfl, Nat.le_of_ble_eq_true rfl, Nat.le_of_ble_eq_true rfl⟩ ⟨Nat.le_of_ble_eq_true rfl, Nat.le_of_ble_eq_true rfl⟩
def X8_acts (w : CW) : Option ((String × CW) ⊕ (Int32)) := ((X8_needSmall w).bind (fun r1 : (String × CW) ⊕ (Unit) => Sum.elim (fun x1 : String × CW => some (.inl x1)) (fun r1 : Unit => (some (.inr (gC_count w)))) r1))
set_option maxRecDepth 100000 in
set_option maxHeartbeats 4000000 in
theorem ct_X8_acts (l : Launch) (hl : l.stackTraces = false) (g : wG) (ad : Nat → Nat) (w : CW)  (rr : (String × CW) ⊕ (Int32)) (hf : X8_acts w = some rr) : MetX l g yX8_acts cX8_acts 1 (some .int) (x_rm 7 1 110) [.ref (ad 0)] (ccells g ad w) (Sum.elim (fun x : String × CW => .inl (x.1, ccells g ad x.2)) (fun r : (Int32) => .inr ((some (.int r)), (ccells g ad w))) rr) 1 6 := by
  refine MetX.of2 hl [(0, .ref (ad 0))] rfl (by decide +kernel) (Nat.le_of_ble_eq_true rfl) ?_
  intro p e s m args below meth c hG hr hX
  unfold X8_acts at hf
  refine v_aload_n hG 0 rfl rfl dX8_acts_0 ?_
  obtain ⟨r1, hr1, hf⟩ := bd_some hf
  rcases r1 with x1 | r1
  · simp only [Sum.elim_inl] at hf
    cases hf
    exact x_callT hG hX (st := []) 0 8 (ct_X8_needSmall l hl g ad w  (.inl x1) hr1) iw_X8_needSmall wk_796 rfl rfl ⟨rfl, rfl, Nat.le_of_ble_eq_true rfl, Nat.le_of_ble_eq_true rfl⟩ ⟨Nat.le_of_ble_eq_true rfl, Nat.le_of_ble_eq_true rfl⟩ rfl rfl (Nat.le_of_ble_eq_true rfl) dX8_acts_1 ⟨Nat.le_of_ble_eq_true rfl, Nat.le_of_ble_eq_true rfl⟩
  · simp only [Sum.elim_inr] at hf
    refine x_callR hG hX (st := []) 0 8 (ct_X8_needSmall l hl g ad w  (.inr r1) hr1) iw_X8_needSmall wk_796 rfl rfl ⟨rfl, rfl, Nat.le_of_ble_eq_true rfl, Nat.le_of_ble_eq_true rfl⟩ ⟨Nat.le_of_ble_eq_true rfl, Nat.le_of_ble_eq_true rfl⟩ rfl rfl (Nat.le_of_ble_eq_true rfl) (ccells_fst _ _ _ _) dX8_acts_1 ?_
    refine (show V p l e (x_rm 7 1 110) s m args below meth c (inW (ccells g ad w)) (EX below args s g (ccells g ad w) (Sum.elim (fun x : String × CW => .inl (x.1, ccells g ad x.2)) (fun r : (Int32) => .inr ((some (.int r)), (ccells g ad w))) rr) 1 6) g 1 (ccells g ad w) 1 6 4 [(0, .ref (ad 0))] [] from ?_)
    refine v_aload_n hG 0 rfl rfl dX8_acts_4 ?_
    refine c_g_0_1 hG wk_362 dX8_acts_5 ?_
    refine c_g_21_4 hG wk_236 dX8_acts_8 ?_
    refine c_g_45_1 hG wk_209 dX8_acts_11 ?_
    cases hf
    exact x_iret hG hr ⟨Nat.le_of_ble_eq_true rfl, Nat.le_of_ble_eq_true rfl⟩ dX8_acts_14
def X8_act_J22 (w : CW)  : Option ((String × CW) ⊕ (Int64)) := (some (.inl ("java/lang/IndexOutOfBoundsException", w)))
def X8_act_J41 (w : CW)  : Option ((String × CW) ⊕ (Int64)) := (some (.inl ("java/lang/IllegalArgumentException", w)))
def X8_act (w : CW) (a0 : Int32) (a1 : Int32) : Option ((String × CW) ⊕ (Int64)) := ((X8_needSmall w).bind (fun r1 : (String × CW) ⊕ (Unit) => Sum.elim (fun x1 : String × CW => some (.inl x1)) (fun r1 : Unit => (if a0 < 0 then (X8_act_J22 w) else ((X0_countKept w).bind (fun r16 : Int32 => (if a0 < r16 then (if a1 < 0 then (X8_act_J41 w) else (if a1 < 5 then (if inR ((a0 * 5) + a1) 2000 = true then (some (.inr ((gC_numbers w) ((a0 * 5) + a1).toNatClampNeg))) else none) else (X8_act_J41 w))) else (X8_act_J22 w)))))) r1))
set_option maxRecDepth 100000 in
set_option maxHeartbeats 4000000 in
theorem ct_X8_act (l : Launch) (hl : l.stackTraces = false) (g : wG) (ad : Nat → Nat) (w : CW) (a0 : Int32) (a1 : Int32) (rr : (String × CW) ⊕ (Int64)) (hf : X8_act w a0 a1 = some rr) : MetX l g yX8_act cX8_act 3 (some .long) (x_rm 7 2 110) [.ref (ad 0), .int a0, .int a1] (ccells g ad w) (Sum.elim (fun x : String × CW => .inl (x.1, ccells g ad x.2)) (fun r : (Int64) => .inr ((some (.long r)), (ccells g ad w))) rr) 2 12 := by
  refine MetX.of2 hl [(0, .ref (ad 0)), (1, .int a0), (2, .int a1)] rfl (by decide +kernel) (Nat.le_of_ble_eq_true rfl) ?_
  intro p e s m args below meth c hG hr hX
  unfold X8_act at hf
  have j22 : X8_act_J22 w = some rr → V p l e (x_rm 7 2 110) s m args below meth c (inW (ccells g ad w)) (EX below args s g (ccells g ad w) (Sum.elim (fun x : String × CW => .inl (x.1, ccells g ad x.2)) (fun r : (Int64) => .inr ((some (.long r)), (ccells g ad w))) rr) 2 12) g 3 (ccells g ad w) 1 6 22 [] [] := by
    intro hf
    unfold X8_act_J22 at hf
    cases hf
    exact x_throw hG rfl hX "no such act is kept" "java/lang/IndexOutOfBoundsException" thr_206 (by decide +kernel) dX8_act_22 dX8_act_25 dX8_act_26 dX8_act_28 dX8_act_31 ⟨Nat.le_of_ble_eq_true rfl, Nat.le_of_ble_eq_true rfl, Nat.le_of_ble_eq_true rfl, Nat.le_of_ble_eq_true rfl⟩ ⟨Nat.le_of_ble_eq_true rfl, Nat.le_of_ble_eq_true rfl⟩
  have j41 : X8_act_J41 w = some rr → V p l e (x_rm 7 2 110) s m args below meth c (inW (ccells g ad w)) (EX below args s g (ccells g ad w) (Sum.elim (fun x : String × CW => .inl (x.1, ccells g ad x.2)) (fun r : (Int64) => .inr ((some (.long r)), (ccells g ad w))) rr) 2 12) g 3 (ccells g ad w) 1 6 41 [] [] := by
    intro hf
    unfold X8_act_J41 at hf
    cases hf
    exact x_throw hG rfl hX "what is not 0 .. 4" "java/lang/IllegalArgumentException" thr_77 (by decide +kernel) dX8_act_41 dX8_act_44 dX8_act_45 dX8_act_47 dX8_act_50 ⟨Nat.le_of_ble_eq_true rfl, Nat.le_of_ble_eq_true rfl, Nat.le_of_ble_eq_true rfl, Nat.le_of_ble_eq_true rfl⟩ ⟨Nat.le_of_ble_eq_true rfl, Nat.le_of_ble_eq_true rfl⟩
  refine v_aload_n hG 0 rfl rfl dX8_act_0 ?_
  obtain ⟨r1, hr1, hf⟩ := bd_some hf
  rcases r1 with x1 | r1
  · simp only [Sum.elim_inl] at hf
    cases hf
    exact x_callT hG hX (st := []) 0 8 (ct_X8_needSmall l hl g ad w  (.inl x1) hr1) iw_X8_needSmall wk_796 rfl rfl ⟨rfl, rfl, Nat.le_of_ble_eq_true rfl, Nat.le_of_ble_eq_true rfl⟩ ⟨Nat.le_of_ble_eq_true rfl, Nat.le_of_ble_eq_true rfl⟩ rfl rfl (Nat.le_of_ble_eq_true rfl) dX8_act_1 ⟨Nat.le_of_ble_eq_true rfl, Nat.le_of_ble_eq_true rfl⟩
  · simp only [Sum.elim_inr] at hf
    refine x_callR hG hX (st := []) 0 8 (ct_X8_needSmall l hl g ad w  (.inr r1) hr1) iw_X8_needSmall wk_796 rfl rfl ⟨rfl, rfl, Nat.le_of_ble_eq_true rfl, Nat.le_of_ble_eq_true rfl⟩ ⟨Nat.le_of_ble_eq_true rfl, Nat.le_of_ble_eq_true rfl⟩ rfl rfl (Nat.le_of_ble_eq_true rfl) (ccells_fst _ _ _ _) dX8_act_1 ?_
    refine (show V p l e (x_rm 7 2 110) s m args below meth c (inW (ccells g ad w)) (EX below args s g (ccells g ad w) (Sum.elim (fun x : String × CW => .inl (x.1, ccells g ad x.2)) (fun r : (Int64) => .inr ((some (.long r)), (ccells g ad w))) rr) 2 12) g 3 (ccells g ad w) 1 6 4 [(0, .ref (ad 0)), (1, .int a0), (2, .int a1)] [] from ?_)
    refine v_iload_n hG 1 rfl rfl dX8_act_4 ?_
    refine v_if_lt hG 22 dX8_act_5 rfl hf (fun hf => ?_) (fun hf => ?_)
    · refine v_sub [] [] rfl ?_
      exact j22  hf
    · refine v_iload_n hG 1 rfl rfl dX8_act_8 ?_
      refine v_aload_n hG 0 rfl rfl dX8_act_9 ?_
      refine c_g_0_1 hG wk_362 dX8_act_10 ?_
      refine c_g_21_4 hG wk_236 dX8_act_13 ?_
      obtain ⟨r16, hr16, hf⟩ := bd_some hf
      refine v_callV hG (st := [.int a0]) 45 0 (ct_X0_countKept l g ad w  r16 hr16) iw_X0_countKept wk_910 rfl rfl ⟨rfl, rfl, Nat.le_of_ble_eq_true rfl, Nat.le_of_ble_eq_true rfl⟩ ⟨Nat.le_of_ble_eq_true rfl, Nat.le_of_ble_eq_true rfl⟩ rfl rfl (Nat.le_of_ble_eq_true rfl) (ccells_fst _ _ _ _) dX8_act_16 ?_
      refine (show V p l e (x_rm 7 2 110) s m args below meth c (inW (ccells g ad w)) (EX below args s g (ccells g ad w) (Sum.elim (fun x : String × CW => .inl (x.1, ccells g ad x.2)) (fun r : (Int64) => .inr ((some (.long r)), (ccells g ad w))) rr) 2 12) g 3 (ccells g ad w) 1 6 19 [(0, .ref (ad 0)), (1, .int a0), (2, .int a1)] [.int r16, .int a0] from ?_)
      refine v_icmp_lt hG 32 dX8_act_19 rfl hf (fun hf => ?_) (fun hf => ?_)
      · refine v_iload_n hG 2 rfl rfl dX8_act_32 ?_
        refine v_if_lt hG 41 dX8_act_33 rfl hf (fun hf => ?_) (fun hf => ?_)
        · refine v_sub [] [] rfl ?_
          exact j41  hf
        · refine v_iload_n hG 2 rfl rfl dX8_act_36 ?_
          refine v_iconst hG (v := 5) (by decide) dX8_act_37 ?_
          refine v_icmp_lt hG 51 dX8_act_38 rfl hf (fun hf => ?_) (fun hf => ?_)
          · refine v_aload_n hG 0 rfl rfl dX8_act_51 ?_
            refine c_g_0_1 hG wk_362 dX8_act_52 ?_
            refine c_g_21_4 hG wk_236 dX8_act_55 ?_
            refine c_g_45_0 hG wk_206 dX8_act_58 ?_
            refine v_iload_n hG 1 rfl rfl dX8_act_61 ?_
            refine v_iconst hG (v := 5) (by decide) dX8_act_62 ?_
            refine v_imul hG dX8_act_63 ?_
            refine v_iload_n hG 2 rfl rfl dX8_act_64 ?_
            refine v_iadd hG dX8_act_65 ?_
            refine c_l_46 hG dX8_act_66 hf (fun hf => ?_)
            cases hf
            exact x_lret hG hr ⟨Nat.le_of_ble_eq_true rfl, Nat.le_of_ble_eq_true rfl⟩ dX8_act_67
          · refine v_sub [] [] rfl ?_
            exact j41  hf
      · refine v_sub [] [] rfl ?_
        exact j22  hf
def X8_parts (w : CW) : Option ((String × CW) ⊕ (Int32)) := ((X8_needSmall w).bind (fun r1 : (String × CW) ⊕ (Unit) => Sum.elim (fun x1 : String × CW => some (.inl x1)) (fun r1 : Unit => ((X2_countParts w).bind (fun r8 : Int32 => (some (.inr r8))))) r1))
set_option maxRecDepth 100000 in
set_option maxHeartbeats 4000000 in
theorem ct_X8_parts (l : Launch) (hl : l.stackTraces = false) (g : wG) (ad : Nat → Nat) (w : CW)  (rr : (String × CW) ⊕ (Int32)) (hf : X8_parts w = some rr) : MetX l g yX8_parts cX8_parts 1 (some .int) (x_rm 7 1 110) [.ref (ad 0)] (ccells g ad w) (Sum.elim (fun x : String × CW => .inl (x.1, ccells g ad x.2)) (fun r : (Int32) => .inr ((some (.int r)), (ccells g ad w))) rr) 1 6 := by
  refine MetX.of2 hl [(0, .ref (ad 0))] rfl (by decide +kernel) (Nat.le_of_ble_eq_true rfl) ?_
  intro p e s m args below meth c hG hr hX
  unfold X8_parts at hf
  refine v_aload_n hG 0 rfl rfl dX8_parts_0 ?_
  obtain ⟨r1, hr1, hf⟩ := bd_some hf
  rcases r1 with x1 | r1
  · simp only [Sum.elim_inl] at hf
    cases hf
    exact x_callT hG hX (st := []) 0 8 (ct_X8_needSmall l hl g ad w  (.inl x1) hr1) iw_X8_needSmall wk_796 rfl rfl ⟨rfl, rfl, Nat.le_of_ble_eq_true rfl, Nat.le_of_ble_eq_true rfl⟩ ⟨Nat.le_of_ble_eq_true rfl, Nat.le_of_ble_eq_true rfl⟩ rfl rfl (Nat.le_of_ble_eq_true rfl) dX8_parts_1 ⟨Nat.le_of_ble_eq_true rfl, Nat.le_of_ble_eq_true rfl⟩
  · simp only [Sum.elim_inr] at hf
    refine x_callR hG hX (st := []) 0 8 (ct_X8_needSmall l hl g ad w  (.inr r1) hr1) iw_X8_needSmall wk_796 rfl rfl ⟨rfl, rfl, Nat.le_of_ble_eq_true rfl, Nat.le_of_ble_eq_true rfl⟩ ⟨Nat.le_of_ble_eq_true rfl, Nat.le_of_ble_eq_true rfl⟩ rfl rfl (Nat.le_of_ble_eq_true rfl) (ccells_fst _ _ _ _) dX8_parts_1 ?_
    refine (show V p l e (x_rm 7 1 110) s m args below meth c (inW (ccells g ad w)) (EX below args s g (ccells g ad w) (Sum.elim (fun x : String × CW => .inl (x.1, ccells g ad x.2)) (fun r : (Int32) => .inr ((some (.int r)), (ccells g ad w))) rr) 1 6) g 1 (ccells g ad w) 1 6 4 [(0, .ref (ad 0))] [] from ?_)
    refine v_aload_n hG 0 rfl rfl dX8_parts_4 ?_
    refine c_g_0_3 hG wk_364 dX8_parts_5 ?_
    obtain ⟨r8, hr8, hf⟩ := bd_some hf
    refine v_callV hG (st := []) 65 2 (ct_X2_countParts l g ad w  r8 hr8) iw_X2_countParts wk_923 rfl rfl ⟨rfl, rfl, Nat.le_of_ble_eq_true rfl, Nat.le_of_ble_eq_true rfl⟩ ⟨Nat.le_of_ble_eq_true rfl, Nat.le_of_ble_eq_true rfl⟩ rfl rfl (Nat.le_of_ble_eq_true rfl) (ccells_fst _ _ _ _) dX8_parts_8 ?_
    refine (show V p l e (x_rm 7 1 110) s m args below meth c (inW (ccells g ad w)) (EX below args s g (ccells g ad w) (Sum.elim (fun x : String × CW => .inl (x.1, ccells g ad x.2)) (fun r : (Int32) => .inr ((some (.int r)), (ccells g ad w))) rr) 1 6) g 1 (ccells g ad w) 1 6 11 [(0, .ref (ad 0))] [.int r8] from ?_)
    cases hf
    exact x_iret hG hr ⟨Nat.le_of_ble_eq_true rfl, Nat.le_of_ble_eq_true rfl⟩ dX8_parts_11
def X8_clique (w : CW) (a0 : Int32) : Option ((String × CW) ⊕ (Int32 × CW)) := ((X8_needSmall w).bind (fun r1 : (String × CW) ⊕ (Unit) => Sum.elim (fun x1 : String × CW => some (.inl x1)) (fun r1 : Unit => ((X8_needRow w a0).bind (fun r6 : (String × CW) ⊕ (Unit) => Sum.elim (fun x6 : String × CW => some (.inl x6)) (fun r6 : Unit => ((X2_findClique w a0).bind (fun r14 : Int32 × CW => (some (.inr (r14.1, r14.2)))))) r6))) r1))
set_option maxRecDepth 100000 in
set_option maxHeartbeats 4000000 in
theorem ct_X8_clique (l : Launch) (hl : l.stackTraces = false) (g : wG) (ad : Nat → Nat) (w : CW) (a0 : Int32) (rr : (String × CW) ⊕ (Int32 × CW)) (hf : X8_clique w a0 = some rr) : MetX l g yX8_clique cX8_clique 2 (some .int) (x_rm 7 2 111) [.ref (ad 0), .int a0] (ccells g ad w) (Sum.elim (fun x : String × CW => .inl (x.1, ccells g ad x.2)) (fun r : (Int32 × CW) => .inr ((some (.int r.1)), (ccells g ad r.2))) rr) 2 12 := by
  refine MetX.of2 hl [(0, .ref (ad 0)), (1, .int a0)] rfl (by decide +kernel) (Nat.le_of_ble_eq_true rfl) ?_
  intro p e s m args below meth c hG hr hX
  unfold X8_clique at hf
  refine v_aload_n hG 0 rfl rfl dX8_clique_0 ?_
  obtain ⟨r1, hr1, hf⟩ := bd_some hf
  rcases r1 with x1 | r1
  · simp only [Sum.elim_inl] at hf
    cases hf
    exact x_callT hG hX (st := []) 0 8 (ct_X8_needSmall l hl g ad w  (.inl x1) hr1) iw_X8_needSmall wk_796 rfl rfl ⟨rfl, rfl, Nat.le_of_ble_eq_true rfl, Nat.le_of_ble_eq_true rfl⟩ ⟨Nat.le_of_ble_eq_true rfl, Nat.le_of_ble_eq_true rfl⟩ rfl rfl (Nat.le_of_ble_eq_true rfl) dX8_clique_1 ⟨Nat.le_of_ble_eq_true rfl, Nat.le_of_ble_eq_true rfl⟩
  · simp only [Sum.elim_inr] at hf
    refine x_callR hG hX (st := []) 0 8 (ct_X8_needSmall l hl g ad w  (.inr r1) hr1) iw_X8_needSmall wk_796 rfl rfl ⟨rfl, rfl, Nat.le_of_ble_eq_true rfl, Nat.le_of_ble_eq_true rfl⟩ ⟨Nat.le_of_ble_eq_true rfl, Nat.le_of_ble_eq_true rfl⟩ rfl rfl (Nat.le_of_ble_eq_true rfl) (ccells_fst _ _ _ _) dX8_clique_1 ?_
    refine (show V p l e (x_rm 7 2 111) s m args below meth c (inW (ccells g ad w)) (EX below args s g (ccells g ad w) (Sum.elim (fun x : String × CW => .inl (x.1, ccells g ad x.2)) (fun r : (Int32 × CW) => .inr ((some (.int r.1)), (ccells g ad r.2))) rr) 2 12) g 2 (ccells g ad w) 1 6 4 [(0, .ref (ad 0)), (1, .int a0)] [] from ?_)
    refine v_aload_n hG 0 rfl rfl dX8_clique_4 ?_
    refine v_iload_n hG 1 rfl rfl dX8_clique_5 ?_
    obtain ⟨r6, hr6, hf⟩ := bd_some hf
    rcases r6 with x6 | r6
    · simp only [Sum.elim_inl] at hf
      cases hf
      exact x_callT hG hX (st := []) 0 8 (ct_X8_needRow l hl g ad w a0 (.inl x6) hr6) iw_X8_needRow wk_533 rfl rfl ⟨rfl, rfl, Nat.le_of_ble_eq_true rfl, Nat.le_of_ble_eq_true rfl⟩ ⟨Nat.le_of_ble_eq_true rfl, Nat.le_of_ble_eq_true rfl⟩ rfl rfl (Nat.le_of_ble_eq_true rfl) dX8_clique_6 ⟨Nat.le_of_ble_eq_true rfl, Nat.le_of_ble_eq_true rfl⟩
    · simp only [Sum.elim_inr] at hf
      refine x_callR hG hX (st := []) 0 8 (ct_X8_needRow l hl g ad w a0 (.inr r6) hr6) iw_X8_needRow wk_533 rfl rfl ⟨rfl, rfl, Nat.le_of_ble_eq_true rfl, Nat.le_of_ble_eq_true rfl⟩ ⟨Nat.le_of_ble_eq_true rfl, Nat.le_of_ble_eq_true rfl⟩ rfl rfl (Nat.le_of_ble_eq_true rfl) (ccells_fst _ _ _ _) dX8_clique_6 ?_
      refine (show V p l e (x_rm 7 2 111) s m args below meth c (inW (ccells g ad w)) (EX below args s g (ccells g ad w) (Sum.elim (fun x : String × CW => .inl (x.1, ccells g ad x.2)) (fun r : (Int32 × CW) => .inr ((some (.int r.1)), (ccells g ad r.2))) rr) 2 12) g 2 (ccells g ad w) 2 12 9 [(0, .ref (ad 0)), (1, .int a0)] [] from ?_)
      refine v_aload_n hG 0 rfl rfl dX8_clique_9 ?_
      refine c_g_0_3 hG wk_364 dX8_clique_10 ?_
      refine v_iload_n hG 1 rfl rfl dX8_clique_13 ?_
      obtain ⟨r14, hr14, hf⟩ := bd_some hf
      refine v_callV hG (st := []) 65 2 (ct_X2_findClique l g ad w a0 r14 hr14) iw_X2_findClique wk_944 rfl rfl ⟨rfl, rfl, Nat.le_of_ble_eq_true rfl, Nat.le_of_ble_eq_true rfl⟩ ⟨Nat.le_of_ble_eq_true rfl, Nat.le_of_ble_eq_true rfl⟩ rfl rfl (Nat.le_of_ble_eq_true rfl) (ccells_fst _ _ _ _) dX8_clique_14 ?_
      refine (show V p l e (x_rm 7 2 111) s m args below meth c (inW (ccells g ad w)) (EX below args s g (ccells g ad w) (Sum.elim (fun x : String × CW => .inl (x.1, ccells g ad x.2)) (fun r : (Int32 × CW) => .inr ((some (.int r.1)), (ccells g ad r.2))) rr) 2 12) g 2 (ccells g ad r14.2) 2 12 17 [(0, .ref (ad 0)), (1, .int a0)] [.int r14.1] from ?_)
      cases hf
      exact x_iret hG hr ⟨Nat.le_of_ble_eq_true rfl, Nat.le_of_ble_eq_true rfl⟩ dX8_clique_17
def X8_cliqueAt_J25  (j25_0 : CW) : Option ((String × CW) ⊕ (Int32 × CW)) := (some (.inl ("java/lang/IndexOutOfBoundsException", j25_0)))
def X8_cliqueAt_J72  (j72_0 : CW) (j72_1 : Int32) (j72_2 : Int32) : Option ((String × CW) ⊕ (Int32 × CW)) := (some (.inr ((j72_1 + j72_2), j72_0)))
def X8_cliqueAt (w : CW) (a0 : Int32) (a1 : Int32) : Option ((String × CW) ⊕ (Int32 × CW)) := ((X8_needSmall w).bind (fun r1 : (String × CW) ⊕ (Unit) => Sum.elim (fun x1 : String × CW => some (.inl x1)) (fun r1 : Unit => ((X8_needRow w a0).bind (fun r6 : (String × CW) ⊕ (Unit) => Sum.elim (fun x6 : String × CW => some (.inl x6)) (fun r6 : Unit => (if a1 < 0 then (X8_cliqueAt_J25 w) else ((X2_findClique w a0).bind (fun r19 : Int32 × CW => (if a1 < r19.1 then (if inR a1 12 = true then (if inR a0 12 = true then (if inR ((gC_order r19.2) a1.toNatClampNeg) 12 = true then (if ((gT_a (gC_tab r19.2)) a0.toNatClampNeg ((gC_order r19.2) a1.toNatClampNeg).toNatClampNeg) ≤ 0 then (X8_cliqueAt_J72 r19.2 (((gC_order r19.2) a1.toNatClampNeg) * 2) 0) else (X8_cliqueAt_J72 r19.2 (((gC_order r19.2) a1.toNatClampNeg) * 2) 1)) else none) else none) else none) else (X8_cliqueAt_J25 r19.2)))))) r6))) r1))
set_option maxRecDepth 100000 in
set_option maxHeartbeats 4000000 in
theorem ct_X8_cliqueAt (l : Launch) (hl : l.stackTraces = false) (g : wG) (ad : Nat → Nat) (w : CW) (a0 : Int32) (a1 : Int32) (rr : (String × CW) ⊕ (Int32 × CW)) (hf : X8_cliqueAt w a0 a1 = some rr) : MetX l g yX8_cliqueAt cX8_cliqueAt 4 (some .int) (x_rm 7 3 111) [.ref (ad 0), .int a0, .int a1] (ccells g ad w) (Sum.elim (fun x : String × CW => .inl (x.1, ccells g ad x.2)) (fun r : (Int32 × CW) => .inr ((some (.int r.1)), (ccells g ad r.2))) rr) 3 18 := by
  refine MetX.of2 hl [(0, .ref (ad 0)), (1, .int a0), (2, .int a1)] rfl (by decide +kernel) (Nat.le_of_ble_eq_true rfl) ?_
  intro p e s m args below meth c hG hr hX
  unfold X8_cliqueAt at hf
  have j25 : ∀ (j25_0 : CW), X8_cliqueAt_J25 j25_0 = some rr → V p l e (x_rm 7 3 111) s m args below meth c (inW (ccells g ad w)) (EX below args s g (ccells g ad w) (Sum.elim (fun x : String × CW => .inl (x.1, ccells g ad x.2)) (fun r : (Int32 × CW) => .inr ((some (.int r.1)), (ccells g ad r.2))) rr) 3 18) g 4 (ccells g ad j25_0) 2 12 25 [] [] := by
    intro j25_0 hf
    unfold X8_cliqueAt_J25 at hf
    cases hf
    exact x_throw hG rfl hX "no such place in the clique" "java/lang/IndexOutOfBoundsException" thr_206 (by decide +kernel) dX8_cliqueAt_25 dX8_cliqueAt_28 dX8_cliqueAt_29 dX8_cliqueAt_31 dX8_cliqueAt_34 ⟨Nat.le_of_ble_eq_true rfl, Nat.le_of_ble_eq_true rfl, Nat.le_of_ble_eq_true rfl, Nat.le_of_ble_eq_true rfl⟩ ⟨Nat.le_of_ble_eq_true rfl, Nat.le_of_ble_eq_true rfl⟩
  have j72 : ∀ (j72_0 : CW) (j72_1 : Int32) (j72_2 : Int32), X8_cliqueAt_J72 j72_0 j72_1 j72_2 = some rr → V p l e (x_rm 7 3 111) s m args below meth c (inW (ccells g ad w)) (EX below args s g (ccells g ad w) (Sum.elim (fun x : String × CW => .inl (x.1, ccells g ad x.2)) (fun r : (Int32 × CW) => .inr ((some (.int r.1)), (ccells g ad r.2))) rr) 3 18) g 4 (ccells g ad j72_0) 2 12 72 [] [.int j72_2, .int j72_1] := by
    intro j72_0 j72_1 j72_2 hf
    unfold X8_cliqueAt_J72 at hf
    refine v_iadd hG dX8_cliqueAt_72 ?_
    cases hf
    exact x_iret hG hr ⟨Nat.le_of_ble_eq_true rfl, Nat.le_of_ble_eq_true rfl⟩ dX8_cliqueAt_73
  refine v_aload_n hG 0 rfl rfl dX8_cliqueAt_0 ?_
  obtain ⟨r1, hr1, hf⟩ := bd_some hf
  rcases r1 with x1 | r1
  · simp only [Sum.elim_inl] at hf
    cases hf
    exact x_callT hG hX (st := []) 0 8 (ct_X8_needSmall l hl g ad w  (.inl x1) hr1) iw_X8_needSmall wk_796 rfl rfl ⟨rfl, rfl, Nat.le_of_ble_eq_true rfl, Nat.le_of_ble_eq_true rfl⟩ ⟨Nat.le_of_ble_eq_true rfl, Nat.le_of_ble_eq_true rfl⟩ rfl rfl (Nat.le_of_ble_eq_true rfl) dX8_cliqueAt_1 ⟨Nat.le_of_ble_eq_true rfl, Nat.le_of_ble_eq_true rfl⟩
  · simp only [Sum.elim_inr] at hf
    refine x_callR hG hX (st := []) 0 8 (ct_X8_needSmall l hl g ad w  (.inr r1) hr1) iw_X8_needSmall wk_796 rfl rfl ⟨rfl, rfl, Nat.le_of_ble_eq_true rfl, Nat.le_of_ble_eq_true rfl⟩ ⟨Nat.le_of_ble_eq_true rfl, Nat.le_of_ble_eq_true rfl⟩ rfl rfl (Nat.le_of_ble_eq_true rfl) (ccells_fst _ _ _ _) dX8_cliqueAt_1 ?_
    refine (show V p l e (x_rm 7 3 111) s m args below meth c (inW (ccells g ad w)) (EX below args s g (ccells g ad w) (Sum.elim (fun x : String × CW => .inl (x.1, ccells g ad x.2)) (fun r : (Int32 × CW) => .inr ((some (.int r.1)), (ccells g ad r.2))) rr) 3 18) g 4 (ccells g ad w) 1 6 4 [(0, .ref (ad 0)), (1, .int a0), (2, .int a1)] [] from ?_)
    refine v_aload_n hG 0 rfl rfl dX8_cliqueAt_4 ?_
    refine v_iload_n hG 1 rfl rfl dX8_cliqueAt_5 ?_
    obtain ⟨r6, hr6, hf⟩ := bd_some hf
    rcases r6 with x6 | r6
    · simp only [Sum.elim_inl] at hf
      cases hf
      exact x_callT hG hX (st := []) 0 8 (ct_X8_needRow l hl g ad w a0 (.inl x6) hr6) iw_X8_needRow wk_533 rfl rfl ⟨rfl, rfl, Nat.le_of_ble_eq_true rfl, Nat.le_of_ble_eq_true rfl⟩ ⟨Nat.le_of_ble_eq_true rfl, Nat.le_of_ble_eq_true rfl⟩ rfl rfl (Nat.le_of_ble_eq_true rfl) dX8_cliqueAt_6 ⟨Nat.le_of_ble_eq_true rfl, Nat.le_of_ble_eq_true rfl⟩
    · simp only [Sum.elim_inr] at hf
      refine x_callR hG hX (st := []) 0 8 (ct_X8_needRow l hl g ad w a0 (.inr r6) hr6) iw_X8_needRow wk_533 rfl rfl ⟨rfl, rfl, Nat.le_of_ble_eq_true rfl, Nat.le_of_ble_eq_true rfl⟩ ⟨Nat.le_of_ble_eq_true rfl, Nat.le_of_ble_eq_true rfl⟩ rfl rfl (Nat.le_of_ble_eq_true rfl) (ccells_fst _ _ _ _) dX8_cliqueAt_6 ?_
      refine (show V p l e (x_rm 7 3 111) s m args below meth c (inW (ccells g ad w)) (EX below args s g (ccells g ad w) (Sum.elim (fun x : String × CW => .inl (x.1, ccells g ad x.2)) (fun r : (Int32 × CW) => .inr ((some (.int r.1)), (ccells g ad r.2))) rr) 3 18) g 4 (ccells g ad w) 2 12 9 [(0, .ref (ad 0)), (1, .int a0), (2, .int a1)] [] from ?_)
      refine v_iload_n hG 2 rfl rfl dX8_cliqueAt_9 ?_
      refine v_if_lt hG 25 dX8_cliqueAt_10 rfl hf (fun hf => ?_) (fun hf => ?_)
      · refine v_sub [] [] rfl ?_
        exact j25 w hf
      · refine v_iload_n hG 2 rfl rfl dX8_cliqueAt_13 ?_
        refine v_aload_n hG 0 rfl rfl dX8_cliqueAt_14 ?_
        refine c_g_0_3 hG wk_364 dX8_cliqueAt_15 ?_
        refine v_iload_n hG 1 rfl rfl dX8_cliqueAt_18 ?_
        obtain ⟨r19, hr19, hf⟩ := bd_some hf
        refine v_callV hG (st := [.int a1]) 65 2 (ct_X2_findClique l g ad w a0 r19 hr19) iw_X2_findClique wk_944 rfl rfl ⟨rfl, rfl, Nat.le_of_ble_eq_true rfl, Nat.le_of_ble_eq_true rfl⟩ ⟨Nat.le_of_ble_eq_true rfl, Nat.le_of_ble_eq_true rfl⟩ rfl rfl (Nat.le_of_ble_eq_true rfl) (ccells_fst _ _ _ _) dX8_cliqueAt_19 ?_
        refine (show V p l e (x_rm 7 3 111) s m args below meth c (inW (ccells g ad w)) (EX below args s g (ccells g ad w) (Sum.elim (fun x : String × CW => .inl (x.1, ccells g ad x.2)) (fun r : (Int32 × CW) => .inr ((some (.int r.1)), (ccells g ad r.2))) rr) 3 18) g 4 (ccells g ad r19.2) 2 12 22 [(0, .ref (ad 0)), (1, .int a0), (2, .int a1)] [.int r19.1, .int a1] from ?_)
        refine v_icmp_lt hG 35 dX8_cliqueAt_22 rfl hf (fun hf => ?_) (fun hf => ?_)
        · refine v_aload_n hG 0 rfl rfl dX8_cliqueAt_35 ?_
          refine c_g_0_3 hG wk_364 dX8_cliqueAt_36 ?_
          refine c_g_65_2 hG wk_332 dX8_cliqueAt_39 ?_
          refine v_iload_n hG 2 rfl rfl dX8_cliqueAt_42 ?_
          refine c_l_66 hG dX8_cliqueAt_43 hf (fun hf => ?_)
          refine v_istore_n hG [(3, _), (0, _), (1, _), (2, _)] dX8_cliqueAt_44 rfl (by decide) rfl ?_
          refine v_iload_n hG 0 rfl rfl dX8_cliqueAt_45 ?_
          refine v_iconst hG (v := 2) (by decide) dX8_cliqueAt_46 ?_
          refine v_imul hG dX8_cliqueAt_47 ?_
          refine v_aload_n hG 1 rfl rfl dX8_cliqueAt_48 ?_
          refine c_g_0_1 hG wk_362 dX8_cliqueAt_49 ?_
          refine c_g_21_0 hG wk_221 dX8_cliqueAt_52 ?_
          refine c_g_22_6 hG wk_152 dX8_cliqueAt_55 ?_
          refine v_iload_n hG 2 rfl rfl dX8_cliqueAt_58 ?_
          refine c_o_29 hG dX8_cliqueAt_59 hf (fun hi59 hf => ?_)
          refine v_iload_n hG 0 rfl rfl dX8_cliqueAt_60 ?_
          refine c_rl_29 hG hi59 dX8_cliqueAt_61 hf (fun hf => ?_)
          refine v_lconst hG (v := 0) (by decide) dX8_cliqueAt_62 ?_
          refine v_lcmp_le hG 71 dX8_cliqueAt_63 dX8_cliqueAt_64 rfl hf (fun hf => ?_) (fun hf => ?_)
          · refine v_iconst hG (v := 0) (by decide) dX8_cliqueAt_71 ?_
            refine v_sub [] [] rfl ?_
            exact j72 r19.2 (((gC_order r19.2) a1.toNatClampNeg) * 2) 0 hf
          · refine v_iconst hG (v := 1) (by decide) dX8_cliqueAt_67 ?_
            refine v_goto hG 72 dX8_cliqueAt_68 rfl ?_
            refine v_sub [] [] rfl ?_
            exact j72 r19.2 (((gC_order r19.2) a1.toNatClampNeg) * 2) 1 hf
        · refine v_sub [] [] rfl ?_
          exact j25 r19.2 hf
def X8_same (w : CW) (a0 : Int32) (a1 : Int32) : Option ((String × CW) ⊕ (Int32)) := ((X8_needSmall w).bind (fun r1 : (String × CW) ⊕ (Unit) => Sum.elim (fun x1 : String × CW => some (.inl x1)) (fun r1 : Unit => ((X8_needColumn w a0).bind (fun r6 : (String × CW) ⊕ (Unit) => Sum.elim (fun x6 : String × CW => some (.inl x6)) (fun r6 : Unit => ((X8_needColumn w a1).bind (fun r11 : (String × CW) ⊕ (Unit) => Sum.elim (fun x11 : String × CW => some (.inl x11)) (fun r11 : Unit => ((X2_areSame w a0 a1).bind (fun r20 : Int32 => (if isB r20 = true then some (.inr r20) else none)))) r11))) r6))) r1))
set_option maxRecDepth 100000 in
set_option maxHeartbeats 4000000 in
theorem ct_X8_same (l : Launch) (hl : l.stackTraces = false) (g : wG) (ad : Nat → Nat) (w : CW) (a0 : Int32) (a1 : Int32) (rr : (String × CW) ⊕ (Int32)) (hf : X8_same w a0 a1 = some rr) : MetX l g yX8_same cX8_same 3 (some .boolean) (x_rm 7 3 111) [.ref (ad 0), .int a0, .int a1] (ccells g ad w) (Sum.elim (fun x : String × CW => .inl (x.1, ccells g ad x.2)) (fun r : (Int32) => .inr ((some (.int r)), (ccells g ad w))) rr) 3 18 := by
  refine MetX.of2 hl [(0, .ref (ad 0)), (1, .int a0), (2, .int a1)] rfl (by decide +kernel) (Nat.le_of_ble_eq_true rfl) ?_
  intro p e s m args below meth c hG hr hX
  unfold X8_same at hf
  refine v_aload_n hG 0 rfl rfl dX8_same_0 ?_
  obtain ⟨r1, hr1, hf⟩ := bd_some hf
  rcases r1 with x1 | r1
  · simp only [Sum.elim_inl] at hf
    cases hf
    exact x_callT hG hX (st := []) 0 8 (ct_X8_needSmall l hl g ad w  (.inl x1) hr1) iw_X8_needSmall wk_796 rfl rfl ⟨rfl, rfl, Nat.le_of_ble_eq_true rfl, Nat.le_of_ble_eq_true rfl⟩ ⟨Nat.le_of_ble_eq_true rfl, Nat.le_of_ble_eq_true rfl⟩ rfl rfl (Nat.le_of_ble_eq_true rfl) dX8_same_1 ⟨Nat.le_of_ble_eq_true rfl, Nat.le_of_ble_eq_true rfl⟩
  · simp only [Sum.elim_inr] at hf
    refine x_callR hG hX (st := []) 0 8 (ct_X8_needSmall l hl g ad w  (.inr r1) hr1) iw_X8_needSmall wk_796 rfl rfl ⟨rfl, rfl, Nat.le_of_ble_eq_true rfl, Nat.le_of_ble_eq_true rfl⟩ ⟨Nat.le_of_ble_eq_true rfl, Nat.le_of_ble_eq_true rfl⟩ rfl rfl (Nat.le_of_ble_eq_true rfl) (ccells_fst _ _ _ _) dX8_same_1 ?_
    refine (show V p l e (x_rm 7 3 111) s m args below meth c (inW (ccells g ad w)) (EX below args s g (ccells g ad w) (Sum.elim (fun x : String × CW => .inl (x.1, ccells g ad x.2)) (fun r : (Int32) => .inr ((some (.int r)), (ccells g ad w))) rr) 3 18) g 3 (ccells g ad w) 1 6 4 [(0, .ref (ad 0)), (1, .int a0), (2, .int a1)] [] from ?_)
    refine v_aload_n hG 0 rfl rfl dX8_same_4 ?_
    refine v_iload_n hG 1 rfl rfl dX8_same_5 ?_
    obtain ⟨r6, hr6, hf⟩ := bd_some hf
    rcases r6 with x6 | r6
    · simp only [Sum.elim_inl] at hf
      cases hf
      exact x_callT hG hX (st := []) 0 8 (ct_X8_needColumn l hl g ad w a0 (.inl x6) hr6) iw_X8_needColumn wk_553 rfl rfl ⟨rfl, rfl, Nat.le_of_ble_eq_true rfl, Nat.le_of_ble_eq_true rfl⟩ ⟨Nat.le_of_ble_eq_true rfl, Nat.le_of_ble_eq_true rfl⟩ rfl rfl (Nat.le_of_ble_eq_true rfl) dX8_same_6 ⟨Nat.le_of_ble_eq_true rfl, Nat.le_of_ble_eq_true rfl⟩
    · simp only [Sum.elim_inr] at hf
      refine x_callR hG hX (st := []) 0 8 (ct_X8_needColumn l hl g ad w a0 (.inr r6) hr6) iw_X8_needColumn wk_553 rfl rfl ⟨rfl, rfl, Nat.le_of_ble_eq_true rfl, Nat.le_of_ble_eq_true rfl⟩ ⟨Nat.le_of_ble_eq_true rfl, Nat.le_of_ble_eq_true rfl⟩ rfl rfl (Nat.le_of_ble_eq_true rfl) (ccells_fst _ _ _ _) dX8_same_6 ?_
      refine (show V p l e (x_rm 7 3 111) s m args below meth c (inW (ccells g ad w)) (EX below args s g (ccells g ad w) (Sum.elim (fun x : String × CW => .inl (x.1, ccells g ad x.2)) (fun r : (Int32) => .inr ((some (.int r)), (ccells g ad w))) rr) 3 18) g 3 (ccells g ad w) 2 12 9 [(0, .ref (ad 0)), (1, .int a0), (2, .int a1)] [] from ?_)
      refine v_aload_n hG 0 rfl rfl dX8_same_9 ?_
      refine v_iload_n hG 2 rfl rfl dX8_same_10 ?_
      obtain ⟨r11, hr11, hf⟩ := bd_some hf
      rcases r11 with x11 | r11
      · simp only [Sum.elim_inl] at hf
        cases hf
        exact x_callT hG hX (st := []) 0 8 (ct_X8_needColumn l hl g ad w a1 (.inl x11) hr11) iw_X8_needColumn wk_553 rfl rfl ⟨rfl, rfl, Nat.le_of_ble_eq_true rfl, Nat.le_of_ble_eq_true rfl⟩ ⟨Nat.le_of_ble_eq_true rfl, Nat.le_of_ble_eq_true rfl⟩ rfl rfl (Nat.le_of_ble_eq_true rfl) dX8_same_11 ⟨Nat.le_of_ble_eq_true rfl, Nat.le_of_ble_eq_true rfl⟩
      · simp only [Sum.elim_inr] at hf
        refine x_callR hG hX (st := []) 0 8 (ct_X8_needColumn l hl g ad w a1 (.inr r11) hr11) iw_X8_needColumn wk_553 rfl rfl ⟨rfl, rfl, Nat.le_of_ble_eq_true rfl, Nat.le_of_ble_eq_true rfl⟩ ⟨Nat.le_of_ble_eq_true rfl, Nat.le_of_ble_eq_true rfl⟩ rfl rfl (Nat.le_of_ble_eq_true rfl) (ccells_fst _ _ _ _) dX8_same_11 ?_
        refine (show V p l e (x_rm 7 3 111) s m args below meth c (inW (ccells g ad w)) (EX below args s g (ccells g ad w) (Sum.elim (fun x : String × CW => .inl (x.1, ccells g ad x.2)) (fun r : (Int32) => .inr ((some (.int r)), (ccells g ad w))) rr) 3 18) g 3 (ccells g ad w) 3 18 14 [(0, .ref (ad 0)), (1, .int a0), (2, .int a1)] [] from ?_)
        refine v_aload_n hG 0 rfl rfl dX8_same_14 ?_
        refine c_g_0_3 hG wk_364 dX8_same_15 ?_
        refine v_iload_n hG 1 rfl rfl dX8_same_18 ?_
        refine v_iload_n hG 2 rfl rfl dX8_same_19 ?_
        obtain ⟨r20, hr20, hf⟩ := bd_some hf
        refine v_callV hG (st := []) 65 2 (ct_X2_areSame l g ad w a0 a1 r20 hr20) iw_X2_areSame wk_974 rfl rfl ⟨rfl, rfl, Nat.le_of_ble_eq_true rfl, Nat.le_of_ble_eq_true rfl⟩ ⟨Nat.le_of_ble_eq_true rfl, Nat.le_of_ble_eq_true rfl⟩ rfl rfl (Nat.le_of_ble_eq_true rfl) (ccells_fst _ _ _ _) dX8_same_20 ?_
        refine (show V p l e (x_rm 7 3 111) s m args below meth c (inW (ccells g ad w)) (EX below args s g (ccells g ad w) (Sum.elim (fun x : String × CW => .inl (x.1, ccells g ad x.2)) (fun r : (Int32) => .inr ((some (.int r)), (ccells g ad w))) rr) 3 18) g 3 (ccells g ad w) 3 18 23 [(0, .ref (ad 0)), (1, .int a0), (2, .int a1)] [.int r20] from ?_)
        obtain ⟨hb, hf⟩ := gd_some hf
        cases hf
        exact x_zret hG hr (isB_nar hb) ⟨Nat.le_of_ble_eq_true rfl, Nat.le_of_ble_eq_true rfl⟩ dX8_same_23
def X8_needPossibleSmall_J17 (w : CW)  : Option ((String × CW) ⊕ (Unit)) := (some (.inl ("java/lang/IllegalStateException", w)))
def X8_needPossibleSmall (w : CW) : Option ((String × CW) ⊕ (Unit)) := (if (gC_hasSmall w) = 0 then (X8_needPossibleSmall_J17 w) else ((X5_isImpossible w).bind (fun r11 : Int32 => (if r11 = 0 then (some (.inr ())) else (X8_needPossibleSmall_J17 w)))))
set_option maxRecDepth 100000 in
set_option maxHeartbeats 4000000 in
theorem ct_X8_needPossibleSmall (l : Launch) (hl : l.stackTraces = false) (g : wG) (ad : Nat → Nat) (w : CW)  (rr : (String × CW) ⊕ (Unit)) (hf : X8_needPossibleSmall w = some rr) : MetX l g yX8_needPossibleSmall cX8_needPossibleSmall 1 none (x_rm 6 1 90) [.ref (ad 0)] (ccells g ad w) (Sum.elim (fun x : String × CW => .inl (x.1, ccells g ad x.2)) (fun r : (Unit) => .inr (none, (ccells g ad w))) rr) 1 6 := by
  refine MetX.of2 hl [(0, .ref (ad 0))] rfl (by decide +kernel) (Nat.le_of_ble_eq_true rfl) ?_
  intro p e s m args below meth c hG hr hX
  unfold X8_needPossibleSmall at hf
  have j17 : X8_needPossibleSmall_J17 w = some rr → V p l e (x_rm 6 1 90) s m args below meth c (inW (ccells g ad w)) (EX below args s g (ccells g ad w) (Sum.elim (fun x : String × CW => .inl (x.1, ccells g ad x.2)) (fun r : (Unit) => .inr (none, (ccells g ad w))) rr) 1 6) g 1 (ccells g ad w) 0 0 17 [] [] := by
    intro hf
    unfold X8_needPossibleSmall_J17 at hf
    cases hf
    exact x_throwW hG rfl hX "there is no small, or it is impossible" "java/lang/IllegalStateException" thr_62 (by decide +kernel) dX8_needPossibleSmall_17 dX8_needPossibleSmall_20 dX8_needPossibleSmall_21 dX8_needPossibleSmall_24 dX8_needPossibleSmall_27 ⟨Nat.le_of_ble_eq_true rfl, Nat.le_of_ble_eq_true rfl, Nat.le_of_ble_eq_true rfl, Nat.le_of_ble_eq_true rfl⟩ ⟨Nat.le_of_ble_eq_true rfl, Nat.le_of_ble_eq_true rfl⟩
  refine v_aload_n hG 0 rfl rfl dX8_needPossibleSmall_0 ?_
  refine c_g_0_5 hG wk_366 dX8_needPossibleSmall_1 ?_
  refine v_if_eq hG 17 dX8_needPossibleSmall_4 rfl hf (fun hf => ?_) (fun hf => ?_)
  · refine v_sub [] [] rfl ?_
    exact j17  hf
  · refine v_aload_n hG 0 rfl rfl dX8_needPossibleSmall_7 ?_
    refine c_g_0_1 hG wk_362 dX8_needPossibleSmall_8 ?_
    obtain ⟨r11, hr11, hf⟩ := bd_some hf
    refine v_callV hG (st := []) 21 5 (ct_X5_isImpossible l g ad w  r11 hr11) iw_X5_isImpossible wk_867 rfl rfl ⟨rfl, rfl, Nat.le_of_ble_eq_true rfl, Nat.le_of_ble_eq_true rfl⟩ ⟨Nat.le_of_ble_eq_true rfl, Nat.le_of_ble_eq_true rfl⟩ rfl rfl (Nat.le_of_ble_eq_true rfl) (ccells_fst _ _ _ _) dX8_needPossibleSmall_11 ?_
    refine (show V p l e (x_rm 6 1 90) s m args below meth c (inW (ccells g ad w)) (EX below args s g (ccells g ad w) (Sum.elim (fun x : String × CW => .inl (x.1, ccells g ad x.2)) (fun r : (Unit) => .inr (none, (ccells g ad w))) rr) 1 6) g 1 (ccells g ad w) 0 0 14 [(0, .ref (ad 0))] [.int r11] from ?_)
    refine v_if_eq hG 28 dX8_needPossibleSmall_14 rfl hf (fun hf => ?_) (fun hf => ?_)
    · cases hf
      exact x_vret hG hr ⟨Nat.le_of_ble_eq_true rfl, Nat.le_of_ble_eq_true rfl⟩ dX8_needPossibleSmall_28
    · refine v_sub [] [] rfl ?_
      exact j17  hf
def X8_put_J49  (j49_0 : CW) : Option ((String × CW) ⊕ (CW)) := (some (.inl ("java/lang/IllegalArgumentException", j49_0)))
def X8_put (w : CW) (a0 : Int32) (a1 : Int32) : Option ((String × CW) ⊕ (CW)) := ((X8_needPossibleSmall w).bind (fun r1 : (String × CW) ⊕ (Unit) => Sum.elim (fun x1 : String × CW => some (.inl x1)) (fun r1 : Unit => ((X8_needColumn w a0).bind (fun r6 : (String × CW) ⊕ (Unit) => Sum.elim (fun x6 : String × CW => some (.inl x6)) (fun r6 : Unit => ((X6_isThere (gC_tab w) a0).bind (fun r19 : Int32 => (if r19 = 0 then (X8_put_J49 w) else (if inR a0 12 = true then (if a1.toInt64 < ((gT_low (gC_tab w)) a0.toNatClampNeg) then (X8_put_J49 w) else (if inR a0 12 = true then (if a1.toInt64 ≤ ((gT_high (gC_tab w)) a0.toNatClampNeg) then (if inR a0 12 = true then (bnd (sC_putNumbers w (vp_updL (gC_putNumbers w) a0.toNatClampNeg a1.toInt64)) (fun w66 : CW => (bnd (sC_putColumns w66 ((gC_putColumns w66) ||| (1 <<< (a0 &&& 31)))) (fun w76 : CW => (some (.inr w76)))))) else none) else (X8_put_J49 w)) else none)) else none))))) r6))) r1))
set_option maxRecDepth 100000 in
set_option maxHeartbeats 4000000 in
theorem ct_X8_put (l : Launch) (hl : l.stackTraces = false) (g : wG) (ad : Nat → Nat) (w : CW) (a0 : Int32) (a1 : Int32) (rr : (String × CW) ⊕ (CW)) (hf : X8_put w a0 a1 = some rr) : MetX l g yX8_put cX8_put 4 none (x_rm 7 3 111) [.ref (ad 0), .int a0, .int a1] (ccells g ad w) (Sum.elim (fun x : String × CW => .inl (x.1, ccells g ad x.2)) (fun r : (CW) => .inr (none, (ccells g ad r))) rr) 3 18 := by
  refine MetX.of2 hl [(0, .ref (ad 0)), (1, .int a0), (2, .int a1)] rfl (by decide +kernel) (Nat.le_of_ble_eq_true rfl) ?_
  intro p e s m args below meth c hG hr hX
  unfold X8_put at hf
  have j49 : ∀ (j49_0 : CW), X8_put_J49 j49_0 = some rr → V p l e (x_rm 7 3 111) s m args below meth c (inW (ccells g ad w)) (EX below args s g (ccells g ad w) (Sum.elim (fun x : String × CW => .inl (x.1, ccells g ad x.2)) (fun r : (CW) => .inr (none, (ccells g ad r))) rr) 3 18) g 4 (ccells g ad j49_0) 2 12 49 [] [] := by
    intro j49_0 hf
    unfold X8_put_J49 at hf
    cases hf
    exact x_throw hG rfl hX "the column is not there, or the number not within its bounds" "java/lang/IllegalArgumentException" thr_77 (by decide +kernel) dX8_put_49 dX8_put_52 dX8_put_53 dX8_put_55 dX8_put_58 ⟨Nat.le_of_ble_eq_true rfl, Nat.le_of_ble_eq_true rfl, Nat.le_of_ble_eq_true rfl, Nat.le_of_ble_eq_true rfl⟩ ⟨Nat.le_of_ble_eq_true rfl, Nat.le_of_ble_eq_true rfl⟩
  refine v_aload_n hG 0 rfl rfl dX8_put_0 ?_
  obtain ⟨r1, hr1, hf⟩ := bd_some hf
  rcases r1 with x1 | r1
  · simp only [Sum.elim_inl] at hf
    cases hf
    exact x_callT hG hX (st := []) 0 8 (ct_X8_needPossibleSmall l hl g ad w  (.inl x1) hr1) iw_X8_needPossibleSmall wk_985 rfl rfl ⟨rfl, rfl, Nat.le_of_ble_eq_true rfl, Nat.le_of_ble_eq_true rfl⟩ ⟨Nat.le_of_ble_eq_true rfl, Nat.le_of_ble_eq_true rfl⟩ rfl rfl (Nat.le_of_ble_eq_true rfl) dX8_put_1 ⟨Nat.le_of_ble_eq_true rfl, Nat.le_of_ble_eq_true rfl⟩
  · simp only [Sum.elim_inr] at hf
    refine x_callR hG hX (st := []) 0 8 (ct_X8_needPossibleSmall l hl g ad w  (.inr r1) hr1) iw_X8_needPossibleSmall wk_985 rfl rfl ⟨rfl, rfl, Nat.le_of_ble_eq_true rfl, Nat.le_of_ble_eq_true rfl⟩ ⟨Nat.le_of_ble_eq_true rfl, Nat.le_of_ble_eq_true rfl⟩ rfl rfl (Nat.le_of_ble_eq_true rfl) (ccells_fst _ _ _ _) dX8_put_1 ?_
    refine (show V p l e (x_rm 7 3 111) s m args below meth c (inW (ccells g ad w)) (EX below args s g (ccells g ad w) (Sum.elim (fun x : String × CW => .inl (x.1, ccells g ad x.2)) (fun r : (CW) => .inr (none, (ccells g ad r))) rr) 3 18) g 4 (ccells g ad w) 1 6 4 [(0, .ref (ad 0)), (1, .int a0), (2, .int a1)] [] from ?_)
    refine v_aload_n hG 0 rfl rfl dX8_put_4 ?_
    refine v_iload_n hG 1 rfl rfl dX8_put_5 ?_
    obtain ⟨r6, hr6, hf⟩ := bd_some hf
    rcases r6 with x6 | r6
    · simp only [Sum.elim_inl] at hf
      cases hf
      exact x_callT hG hX (st := []) 0 8 (ct_X8_needColumn l hl g ad w a0 (.inl x6) hr6) iw_X8_needColumn wk_553 rfl rfl ⟨rfl, rfl, Nat.le_of_ble_eq_true rfl, Nat.le_of_ble_eq_true rfl⟩ ⟨Nat.le_of_ble_eq_true rfl, Nat.le_of_ble_eq_true rfl⟩ rfl rfl (Nat.le_of_ble_eq_true rfl) dX8_put_6 ⟨Nat.le_of_ble_eq_true rfl, Nat.le_of_ble_eq_true rfl⟩
    · simp only [Sum.elim_inr] at hf
      refine x_callR hG hX (st := []) 0 8 (ct_X8_needColumn l hl g ad w a0 (.inr r6) hr6) iw_X8_needColumn wk_553 rfl rfl ⟨rfl, rfl, Nat.le_of_ble_eq_true rfl, Nat.le_of_ble_eq_true rfl⟩ ⟨Nat.le_of_ble_eq_true rfl, Nat.le_of_ble_eq_true rfl⟩ rfl rfl (Nat.le_of_ble_eq_true rfl) (ccells_fst _ _ _ _) dX8_put_6 ?_
      refine (show V p l e (x_rm 7 3 111) s m args below meth c (inW (ccells g ad w)) (EX below args s g (ccells g ad w) (Sum.elim (fun x : String × CW => .inl (x.1, ccells g ad x.2)) (fun r : (CW) => .inr (none, (ccells g ad r))) rr) 3 18) g 4 (ccells g ad w) 2 12 9 [(0, .ref (ad 0)), (1, .int a0), (2, .int a1)] [] from ?_)
      refine v_aload_n hG 0 rfl rfl dX8_put_9 ?_
      refine c_g_0_1 hG wk_362 dX8_put_10 ?_
      refine c_g_21_0 hG wk_221 dX8_put_13 ?_
      refine v_astore_n hG [(3, _), (0, _), (1, _), (2, _)] dX8_put_16 rfl (by decide) rfl ?_
      refine v_aload_n hG 0 rfl rfl dX8_put_17 ?_
      refine v_iload_n hG 2 rfl rfl dX8_put_18 ?_
      obtain ⟨r19, hr19, hf⟩ := bd_some hf
      refine v_callV hG (st := []) 22 6 (ct_X6_isThere_s l g ad w a0 r19 hr19) iw_X6_isThere wk_815 rfl rfl ⟨rfl, rfl, Nat.le_of_ble_eq_true rfl, Nat.le_of_ble_eq_true rfl⟩ ⟨Nat.le_of_ble_eq_true rfl, Nat.le_of_ble_eq_true rfl⟩ rfl rfl (Nat.le_of_ble_eq_true rfl) (ccells_fst _ _ _ _) dX8_put_19 ?_
      refine (show V p l e (x_rm 7 3 111) s m args below meth c (inW (ccells g ad w)) (EX below args s g (ccells g ad w) (Sum.elim (fun x : String × CW => .inl (x.1, ccells g ad x.2)) (fun r : (CW) => .inr (none, (ccells g ad r))) rr) 3 18) g 4 (ccells g ad w) 2 12 22 [(3, .ref (ad 22)), (0, .ref (ad 0)), (1, .int a0), (2, .int a1)] [.int r19] from ?_)
      refine v_if_eq hG 49 dX8_put_22 rfl hf (fun hf => ?_) (fun hf => ?_)
      · refine v_sub [] [] rfl ?_
        exact j49 w hf
      · refine v_iload_n hG 3 rfl rfl dX8_put_25 ?_
        refine v_i2l hG dX8_put_26 ?_
        refine v_aload_n hG 0 rfl rfl dX8_put_27 ?_
        refine c_g_22_0 hG wk_118 dX8_put_28 ?_
        refine v_iload_n hG 2 rfl rfl dX8_put_31 ?_
        refine c_l_23 hG dX8_put_32 hf (fun hf => ?_)
        refine v_lcmp_lt hG 49 dX8_put_33 dX8_put_34 rfl hf (fun hf => ?_) (fun hf => ?_)
        · refine v_sub [] [] rfl ?_
          exact j49 w hf
        · refine v_iload_n hG 3 rfl rfl dX8_put_37 ?_
          refine v_i2l hG dX8_put_38 ?_
          refine v_aload_n hG 0 rfl rfl dX8_put_39 ?_
          refine c_g_22_1 hG wk_124 dX8_put_40 ?_
          refine v_iload_n hG 2 rfl rfl dX8_put_43 ?_
          refine c_l_24 hG dX8_put_44 hf (fun hf => ?_)
          refine v_lcmp_le hG 59 dX8_put_45 dX8_put_46 rfl hf (fun hf => ?_) (fun hf => ?_)
          · refine v_aload_n hG 1 rfl rfl dX8_put_59 ?_
            refine c_g_0_6 hG wk_367 dX8_put_60 ?_
            refine v_iload_n hG 2 rfl rfl dX8_put_63 ?_
            refine v_iload_n hG 3 rfl rfl dX8_put_64 ?_
            refine v_i2l hG dX8_put_65 ?_
            refine c_s_70 hG dX8_put_66 hf (fun w66 hf => ?_)
            refine v_aload_n hG 1 rfl rfl dX8_put_67 ?_
            refine v_dup hG rfl dX8_put_68 ?_
            refine c_g_0_7 hG wk_368 dX8_put_69 ?_
            refine v_iconst hG (v := 1) (by decide) dX8_put_72 ?_
            refine v_iload_n hG 2 rfl rfl dX8_put_73 ?_
            refine v_ishl hG dX8_put_74 ?_
            refine v_ior hG dX8_put_75 ?_
            refine c_p_0_7 hG wk_368 dX8_put_76 hf (fun w76 hf => ?_)
            cases hf
            exact x_vret hG hr ⟨Nat.le_of_ble_eq_true rfl, Nat.le_of_ble_eq_true rfl⟩ dX8_put_79
          · refine v_sub [] [] rfl ?_
            exact j49 w hf
def X8_back_J52  (j52_0 : Int32) : Option ((Int32) ⊕ ((Unit) ⊕ (Unit))) := (some (.inl (j52_0 + 1)))
def X8_back_L6 (w : CW) (s6 : Int32) : Option ((Int32) ⊕ ((Unit) ⊕ (Unit))) := (if (gT_columns (gC_whole w)) ≤ s6 then (some (.inr (.inr ()))) else ((X6_isThere (gC_tab w) s6).bind (fun r25 : Int32 => (if r25 = 0 then (X8_back_J52 s6) else (if (((gC_putColumns w) >>> (s6 &&& 31)) &&& 1) = 0 then (some (.inr (.inl ()))) else (X8_back_J52 s6))))))
def X8_back (w : CW) : Option ((String × CW) ⊕ (Int32 × CW)) := ((X8_needPossibleSmall w).bind (fun r1 : (String × CW) ⊕ (Unit) => Sum.elim (fun x1 : String × CW => some (.inl x1)) (fun r1 : Unit => ((iter (X8_back_L6 w) 5000 0).bind (fun z6 : (Unit) ⊕ (Unit) => (Sum.elim (fun z6_0 : Unit => (some (.inl ("java/lang/IllegalStateException", w)))) (fun z6_r0 : (Unit) => ((X5_turnBack w).bind (fun r70 : CW => (bnd (sC_hasTurned r70 1) (fun w75 : CW => ((X6_isFitting (gC_whole w75) (gC_turned w75)).bind (fun r86 : Int32 => (if r86 = 0 then (some (.inr (0, w75))) else (some (.inr (1, w75))))))))))) z6)))) r1))
set_option maxRecDepth 100000 in
set_option maxHeartbeats 4000000 in
theorem ct_X8_back (l : Launch) (hl : l.stackTraces = false) (g : wG) (ad : Nat → Nat) (w : CW)  (rr : (String × CW) ⊕ (Int32 × CW)) (hf : X8_back w = some rr) : MetX l g yX8_back cX8_back 2 (some .int) (x_rm 7 2 110) [.ref (ad 0)] (ccells g ad w) (Sum.elim (fun x : String × CW => .inl (x.1, ccells g ad x.2)) (fun r : (Int32 × CW) => .inr ((some (.int r.1)), (ccells g ad r.2))) rr) 2 12 := by
  refine MetX.of2 hl [(0, .ref (ad 0))] rfl (by decide +kernel) (Nat.le_of_ble_eq_true rfl) ?_
  intro p e s m args below meth c hG hr hX
  unfold X8_back at hf
  refine v_aload_n hG 0 rfl rfl dX8_back_0 ?_
  obtain ⟨r1, hr1, hf⟩ := bd_some hf
  rcases r1 with x1 | r1
  · simp only [Sum.elim_inl] at hf
    cases hf
    exact x_callT hG hX (st := []) 0 8 (ct_X8_needPossibleSmall l hl g ad w  (.inl x1) hr1) iw_X8_needPossibleSmall wk_985 rfl rfl ⟨rfl, rfl, Nat.le_of_ble_eq_true rfl, Nat.le_of_ble_eq_true rfl⟩ ⟨Nat.le_of_ble_eq_true rfl, Nat.le_of_ble_eq_true rfl⟩ rfl rfl (Nat.le_of_ble_eq_true rfl) dX8_back_1 ⟨Nat.le_of_ble_eq_true rfl, Nat.le_of_ble_eq_true rfl⟩
  · simp only [Sum.elim_inr] at hf
    refine x_callR hG hX (st := []) 0 8 (ct_X8_needPossibleSmall l hl g ad w  (.inr r1) hr1) iw_X8_needPossibleSmall wk_985 rfl rfl ⟨rfl, rfl, Nat.le_of_ble_eq_true rfl, Nat.le_of_ble_eq_true rfl⟩ ⟨Nat.le_of_ble_eq_true rfl, Nat.le_of_ble_eq_true rfl⟩ rfl rfl (Nat.le_of_ble_eq_true rfl) (ccells_fst _ _ _ _) dX8_back_1 ?_
    refine (show V p l e (x_rm 7 2 110) s m args below meth c (inW (ccells g ad w)) (EX below args s g (ccells g ad w) (Sum.elim (fun x : String × CW => .inl (x.1, ccells g ad x.2)) (fun r : (Int32 × CW) => .inr ((some (.int r.1)), (ccells g ad r.2))) rr) 2 12) g 2 (ccells g ad w) 1 6 4 [(0, .ref (ad 0))] [] from ?_)
    refine v_iconst hG (v := 0) (by decide) dX8_back_4 ?_
    refine v_istore_n hG [(1, _), (0, _)] dX8_back_5 rfl (by decide) rfl ?_
    refine v_sub [(0, _), (1, _)] [1, 0] rfl ?_
    obtain ⟨z6, hlz6, hf⟩ := bd_some hf
    refine loop_v (step := X8_back_L6 w) (fun s6 : Int32 => V p l e (x_rm 7 2 110) s m args below meth c (inW (ccells g ad w)) (EX below args s g (ccells g ad w) (Sum.elim (fun x : String × CW => .inl (x.1, ccells g ad x.2)) (fun r : (Int32 × CW) => .inr ((some (.int r.1)), (ccells g ad r.2))) rr) 2 12) g 2 (ccells g ad w) 1 6 6 [(0, .ref (ad 0)), (1, .int s6)] []) (fun z6_q : (Unit) ⊕ (Unit) => Sum.elim (fun z6_0 : Unit => V p l e (x_rm 7 2 110) s m args below meth c (inW (ccells g ad w)) (EX below args s g (ccells g ad w) (Sum.elim (fun x : String × CW => .inl (x.1, ccells g ad x.2)) (fun r : (Int32 × CW) => .inr ((some (.int r.1)), (ccells g ad r.2))) rr) 2 12) g 2 (ccells g ad w) 1 6 42 [] []) (fun z6_r0 : (Unit) => V p l e (x_rm 7 2 110) s m args below meth c (inW (ccells g ad w)) (EX below args s g (ccells g ad w) (Sum.elim (fun x : String × CW => .inl (x.1, ccells g ad x.2)) (fun r : (Int32 × CW) => .inr ((some (.int r.1)), (ccells g ad r.2))) rr) 2 12) g 2 (ccells g ad w) 1 6 58 [(0, .ref (ad 0))] []) z6_q) ?_ 5000 0 z6 hlz6 ?_
    · intro s6 rL hf hin hout
      unfold X8_back_L6 at hf
      have j52 : ∀ (j52_0 : Int32), X8_back_J52 j52_0 = some rL → V p l e (x_rm 7 2 110) s m args below meth c (inW (ccells g ad w)) (EX below args s g (ccells g ad w) (Sum.elim (fun x : String × CW => .inl (x.1, ccells g ad x.2)) (fun r : (Int32 × CW) => .inr ((some (.int r.1)), (ccells g ad r.2))) rr) 2 12) g 2 (ccells g ad w) 1 6 52 [(0, .ref (ad 0)), (1, .int j52_0)] [] := by
        intro j52_0 hf
        unfold X8_back_J52 at hf
        refine v_iinc hG 1 (v := j52_0 + 1) [(1, _), (0, _)] dX8_back_52 rfl rfl (by decide) rfl ?_
        refine v_goto hG 6 dX8_back_55 rfl ?_
        refine v_sub [(0, _), (1, _)] [1, 0] rfl ?_
        exact hin _ (Option.some.inj hf).symm
      refine v_iload_n hG 1 rfl rfl dX8_back_6 ?_
      refine v_aload_n hG 0 rfl rfl dX8_back_7 ?_
      refine c_g_0_0 hG wk_361 dX8_back_8 ?_
      refine c_g_1_7 hG wk_155 dX8_back_11 ?_
      refine v_icmp_ge hG 58 dX8_back_14 rfl hf (fun hf => ?_) (fun hf => ?_)
      · refine v_sub [(0, _)] [0] rfl ?_
        exact hout _ (Option.some.inj hf).symm
      · refine v_aload_n hG 0 rfl rfl dX8_back_17 ?_
        refine c_g_0_1 hG wk_362 dX8_back_18 ?_
        refine c_g_21_0 hG wk_221 dX8_back_21 ?_
        refine v_iload_n hG 1 rfl rfl dX8_back_24 ?_
        obtain ⟨r25, hr25, hf⟩ := bd_some hf
        refine v_callV hG (st := []) 22 6 (ct_X6_isThere_s l g ad w s6 r25 hr25) iw_X6_isThere wk_815 rfl rfl ⟨rfl, rfl, Nat.le_of_ble_eq_true rfl, Nat.le_of_ble_eq_true rfl⟩ ⟨Nat.le_of_ble_eq_true rfl, Nat.le_of_ble_eq_true rfl⟩ rfl rfl (Nat.le_of_ble_eq_true rfl) (ccells_fst _ _ _ _) dX8_back_25 ?_
        refine (show V p l e (x_rm 7 2 110) s m args below meth c (inW (ccells g ad w)) (EX below args s g (ccells g ad w) (Sum.elim (fun x : String × CW => .inl (x.1, ccells g ad x.2)) (fun r : (Int32 × CW) => .inr ((some (.int r.1)), (ccells g ad r.2))) rr) 2 12) g 2 (ccells g ad w) 1 6 28 [(0, .ref (ad 0)), (1, .int s6)] [.int r25] from ?_)
        refine v_if_eq hG 52 dX8_back_28 rfl hf (fun hf => ?_) (fun hf => ?_)
        · exact j52 s6 hf
        · refine v_aload_n hG 0 rfl rfl dX8_back_31 ?_
          refine c_g_0_7 hG wk_368 dX8_back_32 ?_
          refine v_iload_n hG 1 rfl rfl dX8_back_35 ?_
          refine v_ishr hG dX8_back_36 ?_
          refine v_iconst hG (v := 1) (by decide) dX8_back_37 ?_
          refine v_iand hG dX8_back_38 ?_
          refine v_if_ne hG 52 dX8_back_39 rfl hf (fun hf => ?_) (fun hf => ?_)
          · exact j52 s6 hf
          · refine v_sub [] [] rfl ?_
            exact hout _ (Option.some.inj hf).symm
    · rcases z6 with z6_x0 | z6_x0
      · simp only [Sum.elim_inl] at hf
        show V p l e (x_rm 7 2 110) s m args below meth c (inW (ccells g ad w)) (EX below args s g (ccells g ad w) (Sum.elim (fun x : String × CW => .inl (x.1, ccells g ad x.2)) (fun r : (Int32 × CW) => .inr ((some (.int r.1)), (ccells g ad r.2))) rr) 2 12) g 2 (ccells g ad w) 1 6 42 [] []
        cases hf
        exact x_throw hG rfl hX "a column that is there was not put" "java/lang/IllegalStateException" thr_62 (by decide +kernel) dX8_back_42 dX8_back_45 dX8_back_46 dX8_back_48 dX8_back_51 ⟨Nat.le_of_ble_eq_true rfl, Nat.le_of_ble_eq_true rfl, Nat.le_of_ble_eq_true rfl, Nat.le_of_ble_eq_true rfl⟩ ⟨Nat.le_of_ble_eq_true rfl, Nat.le_of_ble_eq_true rfl⟩
      · simp only [Sum.elim_inr] at hf
        show V p l e (x_rm 7 2 110) s m args below meth c (inW (ccells g ad w)) (EX below args s g (ccells g ad w) (Sum.elim (fun x : String × CW => .inl (x.1, ccells g ad x.2)) (fun r : (Int32 × CW) => .inr ((some (.int r.1)), (ccells g ad r.2))) rr) 2 12) g 2 (ccells g ad w) 1 6 58 [(0, .ref (ad 0))] []
        refine v_aload_n hG 0 rfl rfl dX8_back_58 ?_
        refine c_g_0_1 hG wk_362 dX8_back_59 ?_
        refine v_aload_n hG 0 rfl rfl dX8_back_62 ?_
        refine c_g_0_6 hG wk_367 dX8_back_63 ?_
        refine v_aload_n hG 0 rfl rfl dX8_back_66 ?_
        refine c_g_0_8 hG wk_369 dX8_back_67 ?_
        obtain ⟨r70, hr70, hf⟩ := bd_some hf
        refine v_callV hG (st := []) 21 5 (ct_X5_turnBack l g ad w  r70 hr70) iw_X5_turnBack wk_999 rfl rfl ⟨rfl, rfl, Nat.le_of_ble_eq_true rfl, Nat.le_of_ble_eq_true rfl⟩ ⟨Nat.le_of_ble_eq_true rfl, Nat.le_of_ble_eq_true rfl⟩ rfl rfl (Nat.le_of_ble_eq_true rfl) (ccells_fst _ _ _ _) dX8_back_70 ?_
        refine (show V p l e (x_rm 7 2 110) s m args below meth c (inW (ccells g ad w)) (EX below args s g (ccells g ad w) (Sum.elim (fun x : String × CW => .inl (x.1, ccells g ad x.2)) (fun r : (Int32 × CW) => .inr ((some (.int r.1)), (ccells g ad r.2))) rr) 2 12) g 2 (ccells g ad r70) 1 6 73 [(0, .ref (ad 0))] [] from ?_)
        refine v_aload_n hG 0 rfl rfl dX8_back_73 ?_
        refine v_iconst hG (v := 1) (by decide) dX8_back_74 ?_
        refine c_p_0_9 hG wk_370 dX8_back_75 rfl rfl hf (fun w75 hf => ?_)
        refine v_aload_n hG 0 rfl rfl dX8_back_78 ?_
        refine c_g_0_0 hG wk_361 dX8_back_79 ?_
        refine v_aload_n hG 0 rfl rfl dX8_back_82 ?_
        refine c_g_0_8 hG wk_369 dX8_back_83 ?_
        obtain ⟨r86, hr86, hf⟩ := bd_some hf
        refine v_callV hG (st := []) 1 6 (ct_X6_isFitting_w l g ad w75  r86 hr86) iw_X6_isFitting wk_1004 rfl rfl ⟨rfl, rfl, Nat.le_of_ble_eq_true rfl, Nat.le_of_ble_eq_true rfl⟩ ⟨Nat.le_of_ble_eq_true rfl, Nat.le_of_ble_eq_true rfl⟩ rfl rfl (Nat.le_of_ble_eq_true rfl) (ccells_fst _ _ _ _) dX8_back_86 ?_
        refine (show V p l e (x_rm 7 2 110) s m args below meth c (inW (ccells g ad w)) (EX below args s g (ccells g ad w) (Sum.elim (fun x : String × CW => .inl (x.1, ccells g ad x.2)) (fun r : (Int32 × CW) => .inr ((some (.int r.1)), (ccells g ad r.2))) rr) 2 12) g 2 (ccells g ad w75) 1 6 89 [(0, .ref (ad 0))] [.int r86] from ?_)
        refine v_if_eq hG 96 dX8_back_89 rfl hf (fun hf => ?_) (fun hf => ?_)
        · refine v_iconst hG (v := 0) (by decide) dX8_back_96 ?_
          cases hf
          exact x_iret hG hr ⟨Nat.le_of_ble_eq_true rfl, Nat.le_of_ble_eq_true rfl⟩ dX8_back_97
        · refine v_iconst hG (v := 1) (by decide) dX8_back_92 ?_
          refine v_goto hG 97 dX8_back_93 rfl ?_
          cases hf
          exact x_iret hG hr ⟨Nat.le_of_ble_eq_true rfl, Nat.le_of_ble_eq_true rfl⟩ dX8_back_97
def X8_needTurned (w : CW) : Option ((String × CW) ⊕ (Unit)) := (if (gC_hasTurned w) = 0 then (some (.inl ("java/lang/IllegalStateException", w))) else (some (.inr ())))
set_option maxRecDepth 100000 in
set_option maxHeartbeats 4000000 in
theorem ct_X8_needTurned (l : Launch) (hl : l.stackTraces = false) (g : wG) (ad : Nat → Nat) (w : CW)  (rr : (String × CW) ⊕ (Unit)) (hf : X8_needTurned w = some rr) : MetX l g yX8_needTurned cX8_needTurned 1 none (x_rm 6 1 90) [.ref (ad 0)] (ccells g ad w) (Sum.elim (fun x : String × CW => .inl (x.1, ccells g ad x.2)) (fun r : (Unit) => .inr (none, (ccells g ad w))) rr) 1 6 := by
  refine MetX.of2 hl [(0, .ref (ad 0))] rfl (by decide +kernel) (Nat.le_of_ble_eq_true rfl) ?_
  intro p e s m args below meth c hG hr hX
  unfold X8_needTurned at hf
  refine v_aload_n hG 0 rfl rfl dX8_needTurned_0 ?_
  refine c_g_0_9 hG wk_370 dX8_needTurned_1 ?_
  refine v_if_ne hG 18 dX8_needTurned_4 rfl hf (fun hf => ?_) (fun hf => ?_)
  · cases hf
    exact x_vret hG hr ⟨Nat.le_of_ble_eq_true rfl, Nat.le_of_ble_eq_true rfl⟩ dX8_needTurned_18
  · cases hf
    exact x_throwW hG rfl hX "no point was turned back" "java/lang/IllegalStateException" thr_62 (by decide +kernel) dX8_needTurned_7 dX8_needTurned_10 dX8_needTurned_11 dX8_needTurned_14 dX8_needTurned_17 ⟨Nat.le_of_ble_eq_true rfl, Nat.le_of_ble_eq_true rfl, Nat.le_of_ble_eq_true rfl, Nat.le_of_ble_eq_true rfl⟩ ⟨Nat.le_of_ble_eq_true rfl, Nat.le_of_ble_eq_true rfl⟩
def X8_at (w : CW) (a0 : Int32) : Option ((String × CW) ⊕ (Int32)) := ((X8_needTurned w).bind (fun r1 : (String × CW) ⊕ (Unit) => Sum.elim (fun x1 : String × CW => some (.inl x1)) (fun r1 : Unit => ((X8_needColumn w a0).bind (fun r6 : (String × CW) ⊕ (Unit) => Sum.elim (fun x6 : String × CW => some (.inl x6)) (fun r6 : Unit => (if inR a0 12 = true then (some (.inr (((gC_turned w) a0.toNatClampNeg).toInt32))) else none)) r6))) r1))
set_option maxRecDepth 100000 in
set_option maxHeartbeats 4000000 in
theorem ct_X8_at (l : Launch) (hl : l.stackTraces = false) (g : wG) (ad : Nat → Nat) (w : CW) (a0 : Int32) (rr : (String × CW) ⊕ (Int32)) (hf : X8_at w a0 = some rr) : MetX l g yX8_at cX8_at 2 (some .int) (x_rm 7 2 111) [.ref (ad 0), .int a0] (ccells g ad w) (Sum.elim (fun x : String × CW => .inl (x.1, ccells g ad x.2)) (fun r : (Int32) => .inr ((some (.int r)), (ccells g ad w))) rr) 2 12 := by
  refine MetX.of2 hl [(0, .ref (ad 0)), (1, .int a0)] rfl (by decide +kernel) (Nat.le_of_ble_eq_true rfl) ?_
  intro p e s m args below meth c hG hr hX
  unfold X8_at at hf
  refine v_aload_n hG 0 rfl rfl dX8_at_0 ?_
  obtain ⟨r1, hr1, hf⟩ := bd_some hf
  rcases r1 with x1 | r1
  · simp only [Sum.elim_inl] at hf
    cases hf
    exact x_callT hG hX (st := []) 0 8 (ct_X8_needTurned l hl g ad w  (.inl x1) hr1) iw_X8_needTurned wk_1016 rfl rfl ⟨rfl, rfl, Nat.le_of_ble_eq_true rfl, Nat.le_of_ble_eq_true rfl⟩ ⟨Nat.le_of_ble_eq_true rfl, Nat.le_of_ble_eq_true rfl⟩ rfl rfl (Nat.le_of_ble_eq_true rfl) dX8_at_1 ⟨Nat.le_of_ble_eq_true rfl, Nat.le_of_ble_eq_true rfl⟩
  · simp only [Sum.elim_inr] at hf
    refine x_callR hG hX (st := []) 0 8 (ct_X8_needTurned l hl g ad w  (.inr r1) hr1) iw_X8_needTurned wk_1016 rfl rfl ⟨rfl, rfl, Nat.le_of_ble_eq_true rfl, Nat.le_of_ble_eq_true rfl⟩ ⟨Nat.le_of_ble_eq_true rfl, Nat.le_of_ble_eq_true rfl⟩ rfl rfl (Nat.le_of_ble_eq_true rfl) (ccells_fst _ _ _ _) dX8_at_1 ?_
    refine (show V p l e (x_rm 7 2 111) s m args below meth c (inW (ccells g ad w)) (EX below args s g (ccells g ad w) (Sum.elim (fun x : String × CW => .inl (x.1, ccells g ad x.2)) (fun r : (Int32) => .inr ((some (.int r)), (ccells g ad w))) rr) 2 12) g 2 (ccells g ad w) 1 6 4 [(0, .ref (ad 0)), (1, .int a0)] [] from ?_)
    refine v_aload_n hG 0 rfl rfl dX8_at_4 ?_
    refine v_iload_n hG 1 rfl rfl dX8_at_5 ?_
    obtain ⟨r6, hr6, hf⟩ := bd_some hf
    rcases r6 with x6 | r6
    · simp only [Sum.elim_inl] at hf
      cases hf
      exact x_callT hG hX (st := []) 0 8 (ct_X8_needColumn l hl g ad w a0 (.inl x6) hr6) iw_X8_needColumn wk_553 rfl rfl ⟨rfl, rfl, Nat.le_of_ble_eq_true rfl, Nat.le_of_ble_eq_true rfl⟩ ⟨Nat.le_of_ble_eq_true rfl, Nat.le_of_ble_eq_true rfl⟩ rfl rfl (Nat.le_of_ble_eq_true rfl) dX8_at_6 ⟨Nat.le_of_ble_eq_true rfl, Nat.le_of_ble_eq_true rfl⟩
    · simp only [Sum.elim_inr] at hf
      refine x_callR hG hX (st := []) 0 8 (ct_X8_needColumn l hl g ad w a0 (.inr r6) hr6) iw_X8_needColumn wk_553 rfl rfl ⟨rfl, rfl, Nat.le_of_ble_eq_true rfl, Nat.le_of_ble_eq_true rfl⟩ ⟨Nat.le_of_ble_eq_true rfl, Nat.le_of_ble_eq_true rfl⟩ rfl rfl (Nat.le_of_ble_eq_true rfl) (ccells_fst _ _ _ _) dX8_at_6 ?_
      refine (show V p l e (x_rm 7 2 111) s m args below meth c (inW (ccells g ad w)) (EX below args s g (ccells g ad w) (Sum.elim (fun x : String × CW => .inl (x.1, ccells g ad x.2)) (fun r : (Int32) => .inr ((some (.int r)), (ccells g ad w))) rr) 2 12) g 2 (ccells g ad w) 2 12 9 [(0, .ref (ad 0)), (1, .int a0)] [] from ?_)
      refine v_aload_n hG 0 rfl rfl dX8_at_9 ?_
      refine c_g_0_8 hG wk_369 dX8_at_10 ?_
      refine v_iload_n hG 1 rfl rfl dX8_at_13 ?_
      refine c_l_71 hG dX8_at_14 hf (fun hf => ?_)
      refine v_l2i hG dX8_at_15 ?_
      cases hf
      exact x_iret hG hr ⟨Nat.le_of_ble_eq_true rfl, Nat.le_of_ble_eq_true rfl⟩ dX8_at_16
def X8_value_L8 (w : CW) (s8 : Int64 × Int32) : Option ((Int64 × Int32) ⊕ ((Int64))) := (if (gT_columns (gC_whole w)) ≤ s8.2 then (some (.inr s8.1)) else (if inR s8.2 12 = true then (if inR s8.2 12 = true then (some (.inl ((s8.1 + (((gC_turned w) s8.2.toNatClampNeg) * ((gT_cost (gC_whole w)) s8.2.toNatClampNeg))), (s8.2 + 1)))) else none) else none))
def X8_value (w : CW) : Option ((String × CW) ⊕ (Int64)) := ((X8_needTurned w).bind (fun r1 : (String × CW) ⊕ (Unit) => Sum.elim (fun x1 : String × CW => some (.inl x1)) (fun r1 : Unit => ((iter (X8_value_L8 w) 5000 (0, 0)).bind (fun z8 : (Int64) => (some (.inr z8))))) r1))
set_option maxRecDepth 100000 in
set_option maxHeartbeats 4000000 in
theorem ct_X8_value (l : Launch) (hl : l.stackTraces = false) (g : wG) (ad : Nat → Nat) (w : CW)  (rr : (String × CW) ⊕ (Int64)) (hf : X8_value w = some rr) : MetX l g yX8_value cX8_value 4 (some .long) (x_rm 7 1 110) [.ref (ad 0)] (ccells g ad w) (Sum.elim (fun x : String × CW => .inl (x.1, ccells g ad x.2)) (fun r : (Int64) => .inr ((some (.long r)), (ccells g ad w))) rr) 1 6 := by
  refine MetX.of2 hl [(0, .ref (ad 0))] rfl (by decide +kernel) (Nat.le_of_ble_eq_true rfl) ?_
  intro p e s m args below meth c hG hr hX
  unfold X8_value at hf
  refine v_aload_n hG 0 rfl rfl dX8_value_0 ?_
  obtain ⟨r1, hr1, hf⟩ := bd_some hf
  rcases r1 with x1 | r1
  · simp only [Sum.elim_inl] at hf
    cases hf
    exact x_callT hG hX (st := []) 0 8 (ct_X8_needTurned l hl g ad w  (.inl x1) hr1) iw_X8_needTurned wk_1016 rfl rfl ⟨rfl, rfl, Nat.le_of_ble_eq_true rfl, Nat.le_of_ble_eq_true rfl⟩ ⟨Nat.le_of_ble_eq_true rfl, Nat.le_of_ble_eq_true rfl⟩ rfl rfl (Nat.le_of_ble_eq_true rfl) dX8_value_1 ⟨Nat.le_of_ble_eq_true rfl, Nat.le_of_ble_eq_true rfl⟩
  · simp only [Sum.elim_inr] at hf
    refine x_callR hG hX (st := []) 0 8 (ct_X8_needTurned l hl g ad w  (.inr r1) hr1) iw_X8_needTurned wk_1016 rfl rfl ⟨rfl, rfl, Nat.le_of_ble_eq_true rfl, Nat.le_of_ble_eq_true rfl⟩ ⟨Nat.le_of_ble_eq_true rfl, Nat.le_of_ble_eq_true rfl⟩ rfl rfl (Nat.le_of_ble_eq_true rfl) (ccells_fst _ _ _ _) dX8_value_1 ?_
    refine (show V p l e (x_rm 7 1 110) s m args below meth c (inW (ccells g ad w)) (EX below args s g (ccells g ad w) (Sum.elim (fun x : String × CW => .inl (x.1, ccells g ad x.2)) (fun r : (Int64) => .inr ((some (.long r)), (ccells g ad w))) rr) 1 6) g 4 (ccells g ad w) 1 6 4 [(0, .ref (ad 0))] [] from ?_)
    refine v_lconst hG (v := 0) (by decide) dX8_value_4 ?_
    refine v_lstore_n hG [(1, _), (0, _)] dX8_value_5 rfl (by decide) rfl ?_
    refine v_iconst hG (v := 0) (by decide) dX8_value_6 ?_
    refine v_istore_n hG [(3, _), (1, _), (0, _)] dX8_value_7 rfl (by decide) rfl ?_
    refine v_sub [(0, _), (1, _), (3, _)] [2, 1, 0] rfl ?_
    obtain ⟨z8, hlz8, hf⟩ := bd_some hf
    refine loop_v (step := X8_value_L8 w) (fun s8 : Int64 × Int32 => V p l e (x_rm 7 1 110) s m args below meth c (inW (ccells g ad w)) (EX below args s g (ccells g ad w) (Sum.elim (fun x : String × CW => .inl (x.1, ccells g ad x.2)) (fun r : (Int64) => .inr ((some (.long r)), (ccells g ad w))) rr) 1 6) g 4 (ccells g ad w) 1 6 8 [(0, .ref (ad 0)), (1, .long s8.1), (3, .int s8.2)] []) (fun z8_q : (Int64) => V p l e (x_rm 7 1 110) s m args below meth c (inW (ccells g ad w)) (EX below args s g (ccells g ad w) (Sum.elim (fun x : String × CW => .inl (x.1, ccells g ad x.2)) (fun r : (Int64) => .inr ((some (.long r)), (ccells g ad w))) rr) 1 6) g 4 (ccells g ad w) 1 6 44 [(1, .long z8_q)] []) ?_ 5000 (0, 0) z8 hlz8 ?_
    · intro s8 rL hf hin hout
      unfold X8_value_L8 at hf
      refine v_iload_n hG 2 rfl rfl dX8_value_8 ?_
      refine v_aload_n hG 0 rfl rfl dX8_value_9 ?_
      refine c_g_0_0 hG wk_361 dX8_value_10 ?_
      refine c_g_1_7 hG wk_155 dX8_value_13 ?_
      refine v_icmp_ge hG 44 dX8_value_16 rfl hf (fun hf => ?_) (fun hf => ?_)
      · refine v_sub [(1, _)] [1] rfl ?_
        exact hout _ (Option.some.inj hf).symm
      · refine v_lload_n hG 1 rfl rfl dX8_value_19 ?_
        refine v_aload_n hG 0 rfl rfl dX8_value_20 ?_
        refine c_g_0_8 hG wk_369 dX8_value_21 ?_
        refine v_iload_n hG 2 rfl rfl dX8_value_24 ?_
        refine c_l_71 hG dX8_value_25 hf (fun hf => ?_)
        refine v_aload_n hG 0 rfl rfl dX8_value_26 ?_
        refine c_g_0_0 hG wk_361 dX8_value_27 ?_
        refine c_g_1_2 hG wk_130 dX8_value_30 ?_
        refine v_iload_n hG 2 rfl rfl dX8_value_33 ?_
        refine c_l_4 hG dX8_value_34 hf (fun hf => ?_)
        refine v_lmul hG dX8_value_35 ?_
        refine v_ladd hG dX8_value_36 ?_
        refine v_lstore_n hG [(1, _), (0, _), (3, _)] dX8_value_37 rfl (by decide) rfl ?_
        refine v_iinc hG 2 (v := s8.2 + 1) [(3, _), (1, _), (0, _)] dX8_value_38 rfl rfl (by decide) rfl ?_
        refine v_goto hG 8 dX8_value_41 rfl ?_
        refine v_sub [(0, _), (1, _), (3, _)] [2, 1, 0] rfl ?_
        exact hin _ (Option.some.inj hf).symm
    · show V p l e (x_rm 7 1 110) s m args below meth c (inW (ccells g ad w)) (EX below args s g (ccells g ad w) (Sum.elim (fun x : String × CW => .inl (x.1, ccells g ad x.2)) (fun r : (Int64) => .inr ((some (.long r)), (ccells g ad w))) rr) 1 6) g 4 (ccells g ad w) 1 6 44 [(1, .long z8)] []
      refine v_lload_n hG 0 rfl rfl dX8_value_44 ?_
      cases hf
      exact x_lret hG hr ⟨Nat.le_of_ble_eq_true rfl, Nat.le_of_ble_eq_true rfl⟩ dX8_value_45
def X8_best_J29 (a0 : Int32) (j29_0 : CW) : Option ((String × CW) ⊕ (Int32 × CW)) := (if a0 = 0 then ((X6_countPoints (gC_whole j29_0)).bind (fun r49 : Int32 => (if r49 = (-1) then (some (.inr ((-1), j29_0))) else (if a0 = 0 then ((X8_findBest j29_0 false r49 0).bind (fun r78 : CW => (if (gC_hasBest r78) = 0 then (some (.inr (0, r78))) else (some (.inr (1, r78)))))) else ((X8_findBest j29_0 false r49 (gC_offset j29_0)).bind (fun r78 : CW => (if (gC_hasBest r78) = 0 then (some (.inr (0, r78))) else (some (.inr (1, r78)))))))))) else ((X6_countPoints (gC_tab j29_0)).bind (fun r49 : Int32 => (if r49 = (-1) then (some (.inr ((-1), j29_0))) else (if a0 = 0 then ((X8_findBest j29_0 true r49 0).bind (fun r78 : CW => (if (gC_hasBest r78) = 0 then (some (.inr (0, r78))) else (some (.inr (1, r78)))))) else ((X8_findBest j29_0 true r49 (gC_offset j29_0)).bind (fun r78 : CW => (if (gC_hasBest r78) = 0 then (some (.inr (0, r78))) else (some (.inr (1, r78)))))))))))
def X8_best_J8 (a0 : Int32) (j8_0 : CW) : Option ((String × CW) ⊕ (Int32 × CW)) := (bnd (sC_hasBest j8_0 0) (fun w10 : CW => (if a0 = 0 then (X8_best_J29 a0 w10) else ((X5_isImpossible w10).bind (fun r21 : Int32 => (if r21 = 0 then (X8_best_J29 a0 w10) else (some (.inr (0, w10)))))))))
def X8_best (w : CW) (a0 : Int32) : Option ((String × CW) ⊕ (Int32 × CW)) := (if a0 = 0 then (X8_best_J8 a0 w) else ((X8_needSmall w).bind (fun r5 : (String × CW) ⊕ (Unit) => Sum.elim (fun x5 : String × CW => some (.inl x5)) (fun r5 : Unit => (X8_best_J8 a0 w)) r5)))
set_option maxRecDepth 100000 in
set_option maxHeartbeats 4000000 in
theorem ct_X8_best (l : Launch) (hl : l.stackTraces = false) (g : wG) (ad : Nat → Nat) (w : CW) (a0 : Int32) (rr : (String × CW) ⊕ (Int32 × CW)) (hf : X8_best w a0 = some rr) : MetX l g yX8_best cX8_best 4 (some .int) (x_rm 7 1 110) [.ref (ad 0), .int a0] (ccells g ad w) (Sum.elim (fun x : String × CW => .inl (x.1, ccells g ad x.2)) (fun r : (Int32 × CW) => .inr ((some (.int r.1)), (ccells g ad r.2))) rr) 1 6 := by
  refine MetX.of2 hl [(0, .ref (ad 0)), (1, .int a0)] rfl (by decide +kernel) (Nat.le_of_ble_eq_true rfl) ?_
  intro p e s m args below meth c hG hr hX
  unfold X8_best at hf
  have j29 : ∀ (j29_0 : CW), X8_best_J29 a0 j29_0 = some rr → V p l e (x_rm 7 1 110) s m args below meth c (inW (ccells g ad w)) (EX below args s g (ccells g ad w) (Sum.elim (fun x : String × CW => .inl (x.1, ccells g ad x.2)) (fun r : (Int32 × CW) => .inr ((some (.int r.1)), (ccells g ad r.2))) rr) 1 6) g 4 (ccells g ad j29_0) 1 6 29 [(0, .ref (ad 0)), (1, .int a0)] [] := by
    intro j29_0 hf
    unfold X8_best_J29 at hf
    refine v_iload_n hG 1 rfl rfl dX8_best_29 ?_
    refine v_if_eq hG 43 dX8_best_30 rfl hf (fun hf => ?_) (fun hf => ?_)
    · refine v_aload_n hG 0 rfl rfl dX8_best_43 ?_
      refine c_g_0_0 hG wk_361 dX8_best_44 ?_
      refine v_astore_n hG [(2, _), (0, _), (1, _)] dX8_best_47 rfl (by decide) rfl ?_
      refine v_aload_n hG 0 rfl rfl dX8_best_48 ?_
      obtain ⟨r49, hr49, hf⟩ := bd_some hf
      refine v_callV hG (st := []) 1 6 (ct_X6_countPoints_w l g ad j29_0  r49 hr49) iw_X6_countPoints wk_872 rfl rfl ⟨rfl, rfl, Nat.le_of_ble_eq_true rfl, Nat.le_of_ble_eq_true rfl⟩ ⟨Nat.le_of_ble_eq_true rfl, Nat.le_of_ble_eq_true rfl⟩ rfl rfl (Nat.le_of_ble_eq_true rfl) (ccells_fst _ _ _ _) dX8_best_49 ?_
      refine (show V p l e (x_rm 7 1 110) s m args below meth c (inW (ccells g ad w)) (EX below args s g (ccells g ad w) (Sum.elim (fun x : String × CW => .inl (x.1, ccells g ad x.2)) (fun r : (Int32 × CW) => .inr ((some (.int r.1)), (ccells g ad r.2))) rr) 1 6) g 4 (ccells g ad j29_0) 1 6 52 [(2, .ref (ad 1)), (0, .ref (ad 0)), (1, .int a0)] [.int r49] from ?_)
      refine v_istore_n hG [(3, _), (2, _), (0, _), (1, _)] dX8_best_52 rfl (by decide) rfl ?_
      refine v_iload_n hG 0 rfl rfl dX8_best_53 ?_
      refine v_iconst hG (v := -1) (by decide) dX8_best_54 ?_
      refine v_icmp_ne hG 60 dX8_best_55 rfl hf (fun hf => ?_) (fun hf => ?_)
      · refine v_aload_n hG 2 rfl rfl dX8_best_60 ?_
        refine v_aload_n hG 1 rfl rfl dX8_best_61 ?_
        refine v_iload_n hG 0 rfl rfl dX8_best_62 ?_
        refine v_iload_n hG 3 rfl rfl dX8_best_63 ?_
        refine v_if_eq hG 77 dX8_best_64 rfl hf (fun hf => ?_) (fun hf => ?_)
        · refine v_lconst hG (v := 0) (by decide) dX8_best_77 ?_
          obtain ⟨r78, hr78, hf⟩ := bd_some hf
          refine v_callV hG (st := []) 0 8 (ct_X8_findBest_w l g ad j29_0 r49 0 r78 hr78) iw_X8_findBest wk_1035 rfl rfl ⟨rfl, rfl, Nat.le_of_ble_eq_true rfl, Nat.le_of_ble_eq_true rfl⟩ ⟨Nat.le_of_ble_eq_true rfl, Nat.le_of_ble_eq_true rfl⟩ rfl rfl (Nat.le_of_ble_eq_true rfl) (ccells_fst _ _ _ _) dX8_best_78 ?_
          refine (show V p l e (x_rm 7 1 110) s m args below meth c (inW (ccells g ad w)) (EX below args s g (ccells g ad w) (Sum.elim (fun x : String × CW => .inl (x.1, ccells g ad x.2)) (fun r : (Int32 × CW) => .inr ((some (.int r.1)), (ccells g ad r.2))) rr) 1 6) g 4 (ccells g ad r78) 1 6 81 [(3, .int r49), (2, .ref (ad 1)), (0, .ref (ad 0)), (1, .int a0)] [] from ?_)
          refine v_aload_n hG 2 rfl rfl dX8_best_81 ?_
          refine c_g_0_12 hG wk_373 dX8_best_82 ?_
          refine v_if_eq hG 92 dX8_best_85 rfl hf (fun hf => ?_) (fun hf => ?_)
          · refine v_iconst hG (v := 0) (by decide) dX8_best_92 ?_
            cases hf
            exact x_iret hG hr ⟨Nat.le_of_ble_eq_true rfl, Nat.le_of_ble_eq_true rfl⟩ dX8_best_93
          · refine v_iconst hG (v := 1) (by decide) dX8_best_88 ?_
            refine v_goto hG 93 dX8_best_89 rfl ?_
            cases hf
            exact x_iret hG hr ⟨Nat.le_of_ble_eq_true rfl, Nat.le_of_ble_eq_true rfl⟩ dX8_best_93
        · refine v_aload_n hG 2 rfl rfl dX8_best_67 ?_
          refine c_g_0_1 hG wk_362 dX8_best_68 ?_
          refine c_g_21_5 hG wk_239 dX8_best_71 ?_
          refine v_goto hG 78 dX8_best_74 rfl ?_
          obtain ⟨r78, hr78, hf⟩ := bd_some hf
          refine v_callV hG (st := []) 0 8 (ct_X8_findBest_w l g ad j29_0 r49 (gC_offset j29_0) r78 hr78) iw_X8_findBest wk_1035 rfl rfl ⟨rfl, rfl, Nat.le_of_ble_eq_true rfl, Nat.le_of_ble_eq_true rfl⟩ ⟨Nat.le_of_ble_eq_true rfl, Nat.le_of_ble_eq_true rfl⟩ rfl rfl (Nat.le_of_ble_eq_true rfl) (ccells_fst _ _ _ _) dX8_best_78 ?_
          refine (show V p l e (x_rm 7 1 110) s m args below meth c (inW (ccells g ad w)) (EX below args s g (ccells g ad w) (Sum.elim (fun x : String × CW => .inl (x.1, ccells g ad x.2)) (fun r : (Int32 × CW) => .inr ((some (.int r.1)), (ccells g ad r.2))) rr) 1 6) g 4 (ccells g ad r78) 1 6 81 [(3, .int r49), (2, .ref (ad 1)), (0, .ref (ad 0)), (1, .int a0)] [] from ?_)
          refine v_aload_n hG 2 rfl rfl dX8_best_81 ?_
          refine c_g_0_12 hG wk_373 dX8_best_82 ?_
          refine v_if_eq hG 92 dX8_best_85 rfl hf (fun hf => ?_) (fun hf => ?_)
          · refine v_iconst hG (v := 0) (by decide) dX8_best_92 ?_
            cases hf
            exact x_iret hG hr ⟨Nat.le_of_ble_eq_true rfl, Nat.le_of_ble_eq_true rfl⟩ dX8_best_93
          · refine v_iconst hG (v := 1) (by decide) dX8_best_88 ?_
            refine v_goto hG 93 dX8_best_89 rfl ?_
            cases hf
            exact x_iret hG hr ⟨Nat.le_of_ble_eq_true rfl, Nat.le_of_ble_eq_true rfl⟩ dX8_best_93
      · refine v_iconst hG (v := -1) (by decide) dX8_best_58 ?_
        cases hf
        exact x_iret hG hr ⟨Nat.le_of_ble_eq_true rfl, Nat.le_of_ble_eq_true rfl⟩ dX8_best_59
    · refine v_aload_n hG 0 rfl rfl dX8_best_33 ?_
      refine c_g_0_1 hG wk_362 dX8_best_34 ?_
      refine c_g_21_0 hG wk_221 dX8_best_37 ?_
      refine v_goto hG 47 dX8_best_40 rfl ?_
      refine v_astore_n hG [(2, _), (0, _), (1, _)] dX8_best_47 rfl (by decide) rfl ?_
      refine v_aload_n hG 0 rfl rfl dX8_best_48 ?_
      obtain ⟨r49, hr49, hf⟩ := bd_some hf
      refine v_callV hG (st := []) 22 6 (ct_X6_countPoints_s l g ad j29_0  r49 hr49) iw_X6_countPoints wk_872 rfl rfl ⟨rfl, rfl, Nat.le_of_ble_eq_true rfl, Nat.le_of_ble_eq_true rfl⟩ ⟨Nat.le_of_ble_eq_true rfl, Nat.le_of_ble_eq_true rfl⟩ rfl rfl (Nat.le_of_ble_eq_true rfl) (ccells_fst _ _ _ _) dX8_best_49 ?_
      refine (show V p l e (x_rm 7 1 110) s m args below meth c (inW (ccells g ad w)) (EX below args s g (ccells g ad w) (Sum.elim (fun x : String × CW => .inl (x.1, ccells g ad x.2)) (fun r : (Int32 × CW) => .inr ((some (.int r.1)), (ccells g ad r.2))) rr) 1 6) g 4 (ccells g ad j29_0) 1 6 52 [(2, .ref (ad 22)), (0, .ref (ad 0)), (1, .int a0)] [.int r49] from ?_)
      refine v_istore_n hG [(3, _), (2, _), (0, _), (1, _)] dX8_best_52 rfl (by decide) rfl ?_
      refine v_iload_n hG 0 rfl rfl dX8_best_53 ?_
      refine v_iconst hG (v := -1) (by decide) dX8_best_54 ?_
      refine v_icmp_ne hG 60 dX8_best_55 rfl hf (fun hf => ?_) (fun hf => ?_)
      · refine v_aload_n hG 2 rfl rfl dX8_best_60 ?_
        refine v_aload_n hG 1 rfl rfl dX8_best_61 ?_
        refine v_iload_n hG 0 rfl rfl dX8_best_62 ?_
        refine v_iload_n hG 3 rfl rfl dX8_best_63 ?_
        refine v_if_eq hG 77 dX8_best_64 rfl hf (fun hf => ?_) (fun hf => ?_)
        · refine v_lconst hG (v := 0) (by decide) dX8_best_77 ?_
          obtain ⟨r78, hr78, hf⟩ := bd_some hf
          refine v_callV hG (st := []) 0 8 (ct_X8_findBest_s l g ad j29_0 r49 0 r78 hr78) iw_X8_findBest wk_1035 rfl rfl ⟨rfl, rfl, Nat.le_of_ble_eq_true rfl, Nat.le_of_ble_eq_true rfl⟩ ⟨Nat.le_of_ble_eq_true rfl, Nat.le_of_ble_eq_true rfl⟩ rfl rfl (Nat.le_of_ble_eq_true rfl) (ccells_fst _ _ _ _) dX8_best_78 ?_
          refine (show V p l e (x_rm 7 1 110) s m args below meth c (inW (ccells g ad w)) (EX below args s g (ccells g ad w) (Sum.elim (fun x : String × CW => .inl (x.1, ccells g ad x.2)) (fun r : (Int32 × CW) => .inr ((some (.int r.1)), (ccells g ad r.2))) rr) 1 6) g 4 (ccells g ad r78) 1 6 81 [(3, .int r49), (2, .ref (ad 22)), (0, .ref (ad 0)), (1, .int a0)] [] from ?_)
          refine v_aload_n hG 2 rfl rfl dX8_best_81 ?_
          refine c_g_0_12 hG wk_373 dX8_best_82 ?_
          refine v_if_eq hG 92 dX8_best_85 rfl hf (fun hf => ?_) (fun hf => ?_)
          · refine v_iconst hG (v := 0) (by decide) dX8_best_92 ?_
            cases hf
            exact x_iret hG hr ⟨Nat.le_of_ble_eq_true rfl, Nat.le_of_ble_eq_true rfl⟩ dX8_best_93
          · refine v_iconst hG (v := 1) (by decide) dX8_best_88 ?_
            refine v_goto hG 93 dX8_best_89 rfl ?_
            cases hf
            exact x_iret hG hr ⟨Nat.le_of_ble_eq_true rfl, Nat.le_of_ble_eq_true rfl⟩ dX8_best_93
        · refine v_aload_n hG 2 rfl rfl dX8_best_67 ?_
          refine c_g_0_1 hG wk_362 dX8_best_68 ?_
          refine c_g_21_5 hG wk_239 dX8_best_71 ?_
          refine v_goto hG 78 dX8_best_74 rfl ?_
          obtain ⟨r78, hr78, hf⟩ := bd_some hf
          refine v_callV hG (st := []) 0 8 (ct_X8_findBest_s l g ad j29_0 r49 (gC_offset j29_0) r78 hr78) iw_X8_findBest wk_1035 rfl rfl ⟨rfl, rfl, Nat.le_of_ble_eq_true rfl, Nat.le_of_ble_eq_true rfl⟩ ⟨Nat.le_of_ble_eq_true rfl, Nat.le_of_ble_eq_true rfl⟩ rfl rfl (Nat.le_of_ble_eq_true rfl) (ccells_fst _ _ _ _) dX8_best_78 ?_
          refine (show V p l e (x_rm 7 1 110) s m args below meth c (inW (ccells g ad w)) (EX below args s g (ccells g ad w) (Sum.elim (fun x : String × CW => .inl (x.1, ccells g ad x.2)) (fun r : (Int32 × CW) => .inr ((some (.int r.1)), (ccells g ad r.2))) rr) 1 6) g 4 (ccells g ad r78) 1 6 81 [(3, .int r49), (2, .ref (ad 22)), (0, .ref (ad 0)), (1, .int a0)] [] from ?_)
          refine v_aload_n hG 2 rfl rfl dX8_best_81 ?_
          refine c_g_0_12 hG wk_373 dX8_best_82 ?_
          refine v_if_eq hG 92 dX8_best_85 rfl hf (fun hf => ?_) (fun hf => ?_)
          · refine v_iconst hG (v := 0) (by decide) dX8_best_92 ?_
            cases hf
            exact x_iret hG hr ⟨Nat.le_of_ble_eq_true rfl, Nat.le_of_ble_eq_true rfl⟩ dX8_best_93
          · refine v_iconst hG (v := 1) (by decide) dX8_best_88 ?_
            refine v_goto hG 93 dX8_best_89 rfl ?_
            cases hf
            exact x_iret hG hr ⟨Nat.le_of_ble_eq_true rfl, Nat.le_of_ble_eq_true rfl⟩ dX8_best_93
      · refine v_iconst hG (v := -1) (by decide) dX8_best_58 ?_
        cases hf
        exact x_iret hG hr ⟨Nat.le_of_ble_eq_true rfl, Nat.le_of_ble_eq_true rfl⟩ dX8_best_59
  have j8 : ∀ (j8_0 : CW), X8_best_J8 a0 j8_0 = some rr → V p l e (x_rm 7 1 110) s m args below meth c (inW (ccells g ad w)) (EX below args s g (ccells g ad w) (Sum.elim (fun x : String × CW => .inl (x.1, ccells g ad x.2)) (fun r : (Int32 × CW) => .inr ((some (.int r.1)), (ccells g ad r.2))) rr) 1 6) g 4 (ccells g ad j8_0) 1 6 8 [(0, .ref (ad 0)), (1, .int a0)] [] := by
    intro j8_0 hf
    unfold X8_best_J8 at hf
    refine v_aload_n hG 0 rfl rfl dX8_best_8 ?_
    refine v_iconst hG (v := 0) (by decide) dX8_best_9 ?_
    refine c_p_0_12 hG wk_373 dX8_best_10 rfl rfl hf (fun w10 hf => ?_)
    refine v_iload_n hG 1 rfl rfl dX8_best_13 ?_
    refine v_if_eq hG 29 dX8_best_14 rfl hf (fun hf => ?_) (fun hf => ?_)
    · exact j29 w10 hf
    · refine v_aload_n hG 0 rfl rfl dX8_best_17 ?_
      refine c_g_0_1 hG wk_362 dX8_best_18 ?_
      obtain ⟨r21, hr21, hf⟩ := bd_some hf
      refine v_callV hG (st := []) 21 5 (ct_X5_isImpossible l g ad w10  r21 hr21) iw_X5_isImpossible wk_867 rfl rfl ⟨rfl, rfl, Nat.le_of_ble_eq_true rfl, Nat.le_of_ble_eq_true rfl⟩ ⟨Nat.le_of_ble_eq_true rfl, Nat.le_of_ble_eq_true rfl⟩ rfl rfl (Nat.le_of_ble_eq_true rfl) (ccells_fst _ _ _ _) dX8_best_21 ?_
      refine (show V p l e (x_rm 7 1 110) s m args below meth c (inW (ccells g ad w)) (EX below args s g (ccells g ad w) (Sum.elim (fun x : String × CW => .inl (x.1, ccells g ad x.2)) (fun r : (Int32 × CW) => .inr ((some (.int r.1)), (ccells g ad r.2))) rr) 1 6) g 4 (ccells g ad w10) 1 6 24 [(0, .ref (ad 0)), (1, .int a0)] [.int r21] from ?_)
      refine v_if_eq hG 29 dX8_best_24 rfl hf (fun hf => ?_) (fun hf => ?_)
      · exact j29 w10 hf
      · refine v_iconst hG (v := 0) (by decide) dX8_best_27 ?_
        cases hf
        exact x_iret hG hr ⟨Nat.le_of_ble_eq_true rfl, Nat.le_of_ble_eq_true rfl⟩ dX8_best_28
  refine v_iload_n hG 1 rfl rfl dX8_best_0 ?_
  refine v_if_eq hG 8 dX8_best_1 rfl hf (fun hf => ?_) (fun hf => ?_)
  · refine v_widen (k9 := 1) (n9 := 6) ⟨Nat.le_of_ble_eq_true rfl, Nat.le_of_ble_eq_true rfl⟩ ?_
    exact j8 w hf
  · refine v_aload_n hG 0 rfl rfl dX8_best_4 ?_
    obtain ⟨r5, hr5, hf⟩ := bd_some hf
    rcases r5 with x5 | r5
    · simp only [Sum.elim_inl] at hf
      cases hf
      exact x_callT hG hX (st := []) 0 8 (ct_X8_needSmall l hl g ad w  (.inl x5) hr5) iw_X8_needSmall wk_796 rfl rfl ⟨rfl, rfl, Nat.le_of_ble_eq_true rfl, Nat.le_of_ble_eq_true rfl⟩ ⟨Nat.le_of_ble_eq_true rfl, Nat.le_of_ble_eq_true rfl⟩ rfl rfl (Nat.le_of_ble_eq_true rfl) dX8_best_5 ⟨Nat.le_of_ble_eq_true rfl, Nat.le_of_ble_eq_true rfl⟩
    · simp only [Sum.elim_inr] at hf
      refine x_callR hG hX (st := []) 0 8 (ct_X8_needSmall l hl g ad w  (.inr r5) hr5) iw_X8_needSmall wk_796 rfl rfl ⟨rfl, rfl, Nat.le_of_ble_eq_true rfl, Nat.le_of_ble_eq_true rfl⟩ ⟨Nat.le_of_ble_eq_true rfl, Nat.le_of_ble_eq_true rfl⟩ rfl rfl (Nat.le_of_ble_eq_true rfl) (ccells_fst _ _ _ _) dX8_best_5 ?_
      refine (show V p l e (x_rm 7 1 110) s m args below meth c (inW (ccells g ad w)) (EX below args s g (ccells g ad w) (Sum.elim (fun x : String × CW => .inl (x.1, ccells g ad x.2)) (fun r : (Int32 × CW) => .inr ((some (.int r.1)), (ccells g ad r.2))) rr) 1 6) g 4 (ccells g ad w) 1 6 8 [(0, .ref (ad 0)), (1, .int a0)] [] from ?_)
      exact j8 w hf
def X8_needBest (w : CW) : Option ((String × CW) ⊕ (Unit)) := (if (gC_hasBest w) = 0 then (some (.inl ("java/lang/IllegalStateException", w))) else (some (.inr ())))
set_option maxRecDepth 100000 in
set_option maxHeartbeats 4000000 in
theorem ct_X8_needBest (l : Launch) (hl : l.stackTraces = false) (g : wG) (ad : Nat → Nat) (w : CW)  (rr : (String × CW) ⊕ (Unit)) (hf : X8_needBest w = some rr) : MetX l g yX8_needBest cX8_needBest 1 none (x_rm 6 1 90) [.ref (ad 0)] (ccells g ad w) (Sum.elim (fun x : String × CW => .inl (x.1, ccells g ad x.2)) (fun r : (Unit) => .inr (none, (ccells g ad w))) rr) 1 6 := by
  refine MetX.of2 hl [(0, .ref (ad 0))] rfl (by decide +kernel) (Nat.le_of_ble_eq_true rfl) ?_
  intro p e s m args below meth c hG hr hX
  unfold X8_needBest at hf
  refine v_aload_n hG 0 rfl rfl dX8_needBest_0 ?_
  refine c_g_0_12 hG wk_373 dX8_needBest_1 ?_
  refine v_if_ne hG 18 dX8_needBest_4 rfl hf (fun hf => ?_) (fun hf => ?_)
  · cases hf
    exact x_vret hG hr ⟨Nat.le_of_ble_eq_true rfl, Nat.le_of_ble_eq_true rfl⟩ dX8_needBest_18
  · cases hf
    exact x_throwW hG rfl hX "no best was found" "java/lang/IllegalStateException" thr_62 (by decide +kernel) dX8_needBest_7 dX8_needBest_10 dX8_needBest_11 dX8_needBest_14 dX8_needBest_17 ⟨Nat.le_of_ble_eq_true rfl, Nat.le_of_ble_eq_true rfl, Nat.le_of_ble_eq_true rfl, Nat.le_of_ble_eq_true rfl⟩ ⟨Nat.le_of_ble_eq_true rfl, Nat.le_of_ble_eq_true rfl⟩
def X8_bestValue (w : CW) : Option ((String × CW) ⊕ (Int64)) := ((X8_needBest w).bind (fun r1 : (String × CW) ⊕ (Unit) => Sum.elim (fun x1 : String × CW => some (.inl x1)) (fun r1 : Unit => (some (.inr (gC_leastValue w)))) r1))
set_option maxRecDepth 100000 in
set_option maxHeartbeats 4000000 in
theorem ct_X8_bestValue (l : Launch) (hl : l.stackTraces = false) (g : wG) (ad : Nat → Nat) (w : CW)  (rr : (String × CW) ⊕ (Int64)) (hf : X8_bestValue w = some rr) : MetX l g yX8_bestValue cX8_bestValue 1 (some .long) (x_rm 7 1 110) [.ref (ad 0)] (ccells g ad w) (Sum.elim (fun x : String × CW => .inl (x.1, ccells g ad x.2)) (fun r : (Int64) => .inr ((some (.long r)), (ccells g ad w))) rr) 1 6 := by
  refine MetX.of2 hl [(0, .ref (ad 0))] rfl (by decide +kernel) (Nat.le_of_ble_eq_true rfl) ?_
  intro p e s m args below meth c hG hr hX
  unfold X8_bestValue at hf
  refine v_aload_n hG 0 rfl rfl dX8_bestValue_0 ?_
  obtain ⟨r1, hr1, hf⟩ := bd_some hf
  rcases r1 with x1 | r1
  · simp only [Sum.elim_inl] at hf
    cases hf
    exact x_callT hG hX (st := []) 0 8 (ct_X8_needBest l hl g ad w  (.inl x1) hr1) iw_X8_needBest wk_1048 rfl rfl ⟨rfl, rfl, Nat.le_of_ble_eq_true rfl, Nat.le_of_ble_eq_true rfl⟩ ⟨Nat.le_of_ble_eq_true rfl, Nat.le_of_ble_eq_true rfl⟩ rfl rfl (Nat.le_of_ble_eq_true rfl) dX8_bestValue_1 ⟨Nat.le_of_ble_eq_true rfl, Nat.le_of_ble_eq_true rfl⟩
  · simp only [Sum.elim_inr] at hf
    refine x_callR hG hX (st := []) 0 8 (ct_X8_needBest l hl g ad w  (.inr r1) hr1) iw_X8_needBest wk_1048 rfl rfl ⟨rfl, rfl, Nat.le_of_ble_eq_true rfl, Nat.le_of_ble_eq_true rfl⟩ ⟨Nat.le_of_ble_eq_true rfl, Nat.le_of_ble_eq_true rfl⟩ rfl rfl (Nat.le_of_ble_eq_true rfl) (ccells_fst _ _ _ _) dX8_bestValue_1 ?_
    refine (show V p l e (x_rm 7 1 110) s m args below meth c (inW (ccells g ad w)) (EX below args s g (ccells g ad w) (Sum.elim (fun x : String × CW => .inl (x.1, ccells g ad x.2)) (fun r : (Int64) => .inr ((some (.long r)), (ccells g ad w))) rr) 1 6) g 1 (ccells g ad w) 1 6 4 [(0, .ref (ad 0))] [] from ?_)
    refine v_aload_n hG 0 rfl rfl dX8_bestValue_4 ?_
    refine c_g_0_11 hG wk_372 dX8_bestValue_5 ?_
    cases hf
    exact x_lret hG hr ⟨Nat.le_of_ble_eq_true rfl, Nat.le_of_ble_eq_true rfl⟩ dX8_bestValue_8
def X8_bestAt (w : CW) (a0 : Int32) : Option ((String × CW) ⊕ (Int32)) := ((X8_needBest w).bind (fun r1 : (String × CW) ⊕ (Unit) => Sum.elim (fun x1 : String × CW => some (.inl x1)) (fun r1 : Unit => ((X8_needColumn w a0).bind (fun r6 : (String × CW) ⊕ (Unit) => Sum.elim (fun x6 : String × CW => some (.inl x6)) (fun r6 : Unit => (if inR a0 12 = true then (some (.inr (((gC_bestNumbers w) a0.toNatClampNeg).toInt32))) else none)) r6))) r1))
set_option maxRecDepth 100000 in
set_option maxHeartbeats 4000000 in
theorem ct_X8_bestAt (l : Launch) (hl : l.stackTraces = false) (g : wG) (ad : Nat → Nat) (w : CW) (a0 : Int32) (rr : (String × CW) ⊕ (Int32)) (hf : X8_bestAt w a0 = some rr) : MetX l g yX8_bestAt cX8_bestAt 2 (some .int) (x_rm 7 2 111) [.ref (ad 0), .int a0] (ccells g ad w) (Sum.elim (fun x : String × CW => .inl (x.1, ccells g ad x.2)) (fun r : (Int32) => .inr ((some (.int r)), (ccells g ad w))) rr) 2 12 := by
  refine MetX.of2 hl [(0, .ref (ad 0)), (1, .int a0)] rfl (by decide +kernel) (Nat.le_of_ble_eq_true rfl) ?_
  intro p e s m args below meth c hG hr hX
  unfold X8_bestAt at hf
  refine v_aload_n hG 0 rfl rfl dX8_bestAt_0 ?_
  obtain ⟨r1, hr1, hf⟩ := bd_some hf
  rcases r1 with x1 | r1
  · simp only [Sum.elim_inl] at hf
    cases hf
    exact x_callT hG hX (st := []) 0 8 (ct_X8_needBest l hl g ad w  (.inl x1) hr1) iw_X8_needBest wk_1048 rfl rfl ⟨rfl, rfl, Nat.le_of_ble_eq_true rfl, Nat.le_of_ble_eq_true rfl⟩ ⟨Nat.le_of_ble_eq_true rfl, Nat.le_of_ble_eq_true rfl⟩ rfl rfl (Nat.le_of_ble_eq_true rfl) dX8_bestAt_1 ⟨Nat.le_of_ble_eq_true rfl, Nat.le_of_ble_eq_true rfl⟩
  · simp only [Sum.elim_inr] at hf
    refine x_callR hG hX (st := []) 0 8 (ct_X8_needBest l hl g ad w  (.inr r1) hr1) iw_X8_needBest wk_1048 rfl rfl ⟨rfl, rfl, Nat.le_of_ble_eq_true rfl, Nat.le_of_ble_eq_true rfl⟩ ⟨Nat.le_of_ble_eq_true rfl, Nat.le_of_ble_eq_true rfl⟩ rfl rfl (Nat.le_of_ble_eq_true rfl) (ccells_fst _ _ _ _) dX8_bestAt_1 ?_
    refine (show V p l e (x_rm 7 2 111) s m args below meth c (inW (ccells g ad w)) (EX below args s g (ccells g ad w) (Sum.elim (fun x : String × CW => .inl (x.1, ccells g ad x.2)) (fun r : (Int32) => .inr ((some (.int r)), (ccells g ad w))) rr) 2 12) g 2 (ccells g ad w) 1 6 4 [(0, .ref (ad 0)), (1, .int a0)] [] from ?_)
    refine v_aload_n hG 0 rfl rfl dX8_bestAt_4 ?_
    refine v_iload_n hG 1 rfl rfl dX8_bestAt_5 ?_
    obtain ⟨r6, hr6, hf⟩ := bd_some hf
    rcases r6 with x6 | r6
    · simp only [Sum.elim_inl] at hf
      cases hf
      exact x_callT hG hX (st := []) 0 8 (ct_X8_needColumn l hl g ad w a0 (.inl x6) hr6) iw_X8_needColumn wk_553 rfl rfl ⟨rfl, rfl, Nat.le_of_ble_eq_true rfl, Nat.le_of_ble_eq_true rfl⟩ ⟨Nat.le_of_ble_eq_true rfl, Nat.le_of_ble_eq_true rfl⟩ rfl rfl (Nat.le_of_ble_eq_true rfl) dX8_bestAt_6 ⟨Nat.le_of_ble_eq_true rfl, Nat.le_of_ble_eq_true rfl⟩
    · simp only [Sum.elim_inr] at hf
      refine x_callR hG hX (st := []) 0 8 (ct_X8_needColumn l hl g ad w a0 (.inr r6) hr6) iw_X8_needColumn wk_553 rfl rfl ⟨rfl, rfl, Nat.le_of_ble_eq_true rfl, Nat.le_of_ble_eq_true rfl⟩ ⟨Nat.le_of_ble_eq_true rfl, Nat.le_of_ble_eq_true rfl⟩ rfl rfl (Nat.le_of_ble_eq_true rfl) (ccells_fst _ _ _ _) dX8_bestAt_6 ?_
      refine (show V p l e (x_rm 7 2 111) s m args below meth c (inW (ccells g ad w)) (EX below args s g (ccells g ad w) (Sum.elim (fun x : String × CW => .inl (x.1, ccells g ad x.2)) (fun r : (Int32) => .inr ((some (.int r)), (ccells g ad w))) rr) 2 12) g 2 (ccells g ad w) 2 12 9 [(0, .ref (ad 0)), (1, .int a0)] [] from ?_)
      refine v_aload_n hG 0 rfl rfl dX8_bestAt_9 ?_
      refine c_g_0_10 hG wk_371 dX8_bestAt_10 ?_
      refine v_iload_n hG 1 rfl rfl dX8_bestAt_13 ?_
      refine c_l_72 hG dX8_bestAt_14 hf (fun hf => ?_)
      refine v_l2i hG dX8_bestAt_15 ?_
      cases hf
      exact x_iret hG hr ⟨Nat.le_of_ble_eq_true rfl, Nat.le_of_ble_eq_true rfl⟩ dX8_bestAt_16
