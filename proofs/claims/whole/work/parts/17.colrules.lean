def X1_fix_J146  (j146_0 : CW) (j146_1 : Int32) : Option ((CW × Int32) ⊕ ((CW))) := (some (.inl (j146_0, (j146_1 + 1))))
def X1_fix_L50 (w : CW) (a0 : Int32) (s50 : CW × Int32) : Option ((CW × Int32) ⊕ ((CW))) := (if (gT_rows (gC_tab s50.1)) ≤ s50.2 then (some (.inr s50.1)) else ((X6_isGone (gC_tab s50.1) s50.2).bind (fun r68 : Int32 => (if r68 = 0 then (if inR s50.2 12 = true then (if inR a0 12 = true then (if ((gT_a (gC_tab s50.1)) s50.2.toNatClampNeg a0.toNatClampNeg) = 0 then (X1_fix_J146 s50.1 s50.2) else (if inR s50.2 12 = true then (if inR s50.2 12 = true then (if inR a0 12 = true then (if inR s50.2 12 = true then (bnd (sC_tab s50.1 (sT_right (gC_tab s50.1) (vp_updL (gT_right (gC_tab s50.1)) s50.2.toNatClampNeg (((gT_right (gC_tab s50.1)) s50.2.toNatClampNeg) - (((gT_a (gC_tab s50.1)) s50.2.toNatClampNeg a0.toNatClampNeg) * ((gT_low (gC_tab w)) a0.toNatClampNeg)))))) (fun w117 : CW => (if inR s50.2 12 = true then (if inR a0 12 = true then (bnd (sC_tab w117 (sT_a (gC_tab w117) (va_up (gT_a (gC_tab w117)) s50.2.toNatClampNeg (vp_updL ((gT_a (gC_tab w117)) s50.2.toNatClampNeg) a0.toNatClampNeg 0)))) (fun w130 : CW => (if inR s50.2 12 = true then (if inR s50.2 12 = true then (bnd (sC_rowRest w130 (upd (gC_rowRest w130) s50.2.toNatClampNeg (((gC_rowRest w130) s50.2.toNatClampNeg) ||| (((gC_lowRest w) a0.toNatClampNeg) ||| ((gC_highRest w) a0.toNatClampNeg))))) (fun w145 : CW => (X1_fix_J146 w145 s50.2))) else none) else none))) else none) else none))) else none) else none) else none) else none)) else none) else none) else (X1_fix_J146 s50.1 s50.2)))))
def X1_fix (w : CW) (a0 : Int32) : Option (Int32 × CW) := (if inR a0 12 = true then (if inR a0 12 = true then (if ((gT_low (gC_tab w)) a0.toNatClampNeg) = ((gT_high (gC_tab w)) a0.toNatClampNeg) then (if inR a0 12 = true then (if inR a0 12 = true then ((iter (X1_fix_L50 w a0) 5000 (w, 0)).bind (fun z50 : (CW) => (if inR a0 12 = true then (bnd (sC_offset z50 ((gC_offset z50) + (((gT_low (gC_tab w)) a0.toNatClampNeg) * ((gT_cost (gC_tab z50)) a0.toNatClampNeg)))) (fun w172 : CW => (if inR a0 12 = true then (bnd (sC_tab w172 (sT_state (gC_tab w172) (upd (gT_state (gC_tab w172)) a0.toNatClampNeg 1))) (fun w184 : CW => ((X0_note w184 (gC_rule w184) (-1) a0 4 ((gT_low (gC_tab w)) a0.toNatClampNeg)).bind (fun r203 : CW => (some (1, r203)))))) else none))) else none))) else none) else none) else (some (1, w))) else none) else none)
set_option maxRecDepth 100000 in
set_option maxHeartbeats 4000000 in
theorem ct_X1_fix (l : Launch) (g : wG) (ad : Nat → Nat) (w : CW) (a0 : Int32) (rr : Int32 × CW) (hf : X1_fix w a0 = some rr) : MetN l g yX1_fix cX1_fix 6 (some .boolean) (k2_rm 1 27) [.ref (ad 64), .int a0] (ccells g ad w) (ccells g ad rr.2) (some (.int rr.1)) := by
  refine MetN.of2 [(0, .ref (ad 64)), (1, .int a0)] rfl (by decide +kernel) (Nat.le_of_ble_eq_true rfl) ?_
  intro p e s m args below meth c hG hr
  unfold X1_fix at hf
  refine v_aload_n hG 0 rfl rfl dX1_fix_0 ?_
  refine c_g_64_1 hG wk_304 dX1_fix_1 ?_
  refine c_g_22_0 hG wk_116 dX1_fix_4 ?_
  refine v_iload_n hG 1 rfl rfl dX1_fix_7 ?_
  refine c_l_23 hG dX1_fix_8 hf (fun hf => ?_)
  refine v_lstore_n hG [(2, _), (0, _), (1, _)] dX1_fix_9 rfl (by decide) rfl ?_
  refine v_lload_n hG 0 rfl rfl dX1_fix_10 ?_
  refine v_aload_n hG 1 rfl rfl dX1_fix_11 ?_
  refine c_g_64_1 hG wk_304 dX1_fix_12 ?_
  refine c_g_22_1 hG wk_123 dX1_fix_15 ?_
  refine v_iload_n hG 2 rfl rfl dX1_fix_18 ?_
  refine c_l_24 hG dX1_fix_19 hf (fun hf => ?_)
  refine v_lcmp_eq hG 26 dX1_fix_20 dX1_fix_21 rfl hf (fun hf => ?_) (fun hf => ?_)
  · refine v_aload_n hG 1 rfl rfl dX1_fix_26 ?_
    refine c_g_64_0 hG wk_303 dX1_fix_27 ?_
    refine c_g_21_2 hG wk_227 dX1_fix_30 ?_
    refine v_iload_n hG 2 rfl rfl dX1_fix_33 ?_
    refine c_l_43 hG dX1_fix_34 hf (fun hf => ?_)
    refine v_aload_n hG 1 rfl rfl dX1_fix_35 ?_
    refine c_g_64_0 hG wk_303 dX1_fix_36 ?_
    refine c_g_21_3 hG wk_231 dX1_fix_39 ?_
    refine v_iload_n hG 2 rfl rfl dX1_fix_42 ?_
    refine c_l_44 hG dX1_fix_43 hf (fun hf => ?_)
    refine v_ior hG dX1_fix_44 ?_
    refine v_istore hG [(4, _), (2, _), (0, _), (1, _)] dX1_fix_45 (by decide) rfl ?_
    refine v_iconst hG (v := 0) (by decide) dX1_fix_47 ?_
    refine v_istore hG [(5, _), (4, _), (2, _), (0, _), (1, _)] dX1_fix_48 (by decide) rfl ?_
    refine v_sub [(0, _), (1, _), (2, _), (4, _), (5, _)] [3, 4, 2, 1, 0] rfl ?_
    obtain ⟨z50, hlz50, hf⟩ := bd_some hf
    refine loop_v (step := X1_fix_L50 w a0) (fun s50 : CW × Int32 => V p l e (k2_rm 1 27) s m args below meth c (inW (ccells g ad w)) (EN below args s g (ccells g ad w) (ccells g ad rr.2) (some (.int rr.1))) g 6 (ccells g ad s50.1) 0 0 50 [(0, .ref (ad 64)), (1, .int a0), (2, .long ((gT_low (gC_tab w)) a0.toNatClampNeg)), (4, .int (((gC_lowRest w) a0.toNatClampNeg) ||| ((gC_highRest w) a0.toNatClampNeg))), (5, .int s50.2)] []) (fun z50_q : (CW) => V p l e (k2_rm 1 27) s m args below meth c (inW (ccells g ad w)) (EN below args s g (ccells g ad w) (ccells g ad rr.2) (some (.int rr.1))) g 6 (ccells g ad z50_q) 0 0 152 [(0, .ref (ad 64)), (1, .int a0), (2, .long ((gT_low (gC_tab w)) a0.toNatClampNeg))] []) ?_ 5000 (w, 0) z50 hlz50 ?_
    · intro s50 rL hf hin hout
      unfold X1_fix_L50 at hf
      have j146 : ∀ (j146_0 : CW) (j146_1 : Int32), X1_fix_J146 j146_0 j146_1 = some rL → V p l e (k2_rm 1 27) s m args below meth c (inW (ccells g ad w)) (EN below args s g (ccells g ad w) (ccells g ad rr.2) (some (.int rr.1))) g 6 (ccells g ad j146_0) 0 0 146 [(0, .ref (ad 64)), (1, .int a0), (2, .long ((gT_low (gC_tab w)) a0.toNatClampNeg)), (4, .int (((gC_lowRest w) a0.toNatClampNeg) ||| ((gC_highRest w) a0.toNatClampNeg))), (5, .int j146_1)] [] := by
        intro j146_0 j146_1 hf
        unfold X1_fix_J146 at hf
        refine v_iinc hG 4 (v := j146_1 + 1) [(5, _), (0, _), (1, _), (2, _), (4, _)] dX1_fix_146 rfl rfl (by decide) rfl ?_
        refine v_goto hG 50 dX1_fix_149 rfl ?_
        refine v_sub [(0, _), (1, _), (2, _), (4, _), (5, _)] [1, 2, 3, 4, 0] rfl ?_
        exact hin _ (Option.some.inj hf).symm
      refine v_iload hG 4 rfl dX1_fix_50 ?_
      refine v_aload_n hG 0 rfl rfl dX1_fix_52 ?_
      refine c_g_64_1 hG wk_304 dX1_fix_53 ?_
      refine c_g_22_8 hG wk_164 dX1_fix_56 ?_
      refine v_icmp_ge hG 152 dX1_fix_59 rfl hf (fun hf => ?_) (fun hf => ?_)
      · refine v_sub [(0, _), (1, _), (2, _)] [0, 1, 2] rfl ?_
        exact hout _ (Option.some.inj hf).symm
      · refine v_aload_n hG 0 rfl rfl dX1_fix_62 ?_
        refine c_g_64_1 hG wk_304 dX1_fix_63 ?_
        refine v_iload hG 4 rfl dX1_fix_66 ?_
        obtain ⟨r68, hr68, hf⟩ := bd_some hf
        refine v_callV hG (st := []) 22 6 (ct_X6_isGone_s l g ad s50.1 s50.2 r68 hr68) iw_X6_isGone wk_693 rfl rfl ⟨rfl, rfl, Nat.le_of_ble_eq_true rfl, Nat.le_of_ble_eq_true rfl⟩ ⟨Nat.le_of_ble_eq_true rfl, Nat.le_of_ble_eq_true rfl⟩ rfl rfl (Nat.le_of_ble_eq_true rfl) (ccells_fst _ _ _ _) dX1_fix_68 ?_
        refine (show V p l e (k2_rm 1 27) s m args below meth c (inW (ccells g ad w)) (EN below args s g (ccells g ad w) (ccells g ad rr.2) (some (.int rr.1))) g 6 (ccells g ad s50.1) 0 0 71 [(0, .ref (ad 64)), (1, .int a0), (2, .long ((gT_low (gC_tab w)) a0.toNatClampNeg)), (4, .int (((gC_lowRest w) a0.toNatClampNeg) ||| ((gC_highRest w) a0.toNatClampNeg))), (5, .int s50.2)] [.int r68] from ?_)
        refine v_if_ne hG 146 dX1_fix_71 rfl hf (fun hf => ?_) (fun hf => ?_)
        · exact j146 s50.1 s50.2 hf
        · refine v_aload_n hG 0 rfl rfl dX1_fix_74 ?_
          refine c_g_64_1 hG wk_304 dX1_fix_75 ?_
          refine c_g_22_6 hG wk_149 dX1_fix_78 ?_
          refine v_iload hG 4 rfl dX1_fix_81 ?_
          refine c_o_29 hG dX1_fix_83 hf (fun hi83 hf => ?_)
          refine v_iload_n hG 1 rfl rfl dX1_fix_84 ?_
          refine c_rl_29 hG hi83 dX1_fix_85 hf (fun hf => ?_)
          refine v_lconst hG (v := 0) (by decide) dX1_fix_86 ?_
          refine v_lcmp_eq hG 146 dX1_fix_87 dX1_fix_88 rfl hf (fun hf => ?_) (fun hf => ?_)
          · exact j146 s50.1 s50.2 hf
          · refine v_aload_n hG 0 rfl rfl dX1_fix_91 ?_
            refine c_g_64_1 hG wk_304 dX1_fix_92 ?_
            refine c_g_22_5 hG wk_143 dX1_fix_95 ?_
            refine v_iload hG 4 rfl dX1_fix_98 ?_
            refine v_dup2 hG rfl rfl dX1_fix_100 ?_
            refine c_l_28 hG dX1_fix_101 hf (fun hf => ?_)
            refine v_aload_n hG 0 rfl rfl dX1_fix_102 ?_
            refine c_g_64_1 hG wk_304 dX1_fix_103 ?_
            refine c_g_22_6 hG wk_149 dX1_fix_106 ?_
            refine v_iload hG 4 rfl dX1_fix_109 ?_
            refine c_o_29 hG dX1_fix_111 hf (fun hi111 hf => ?_)
            refine v_iload_n hG 1 rfl rfl dX1_fix_112 ?_
            refine c_rl_29 hG hi111 dX1_fix_113 hf (fun hf => ?_)
            refine v_lload_n hG 2 rfl rfl dX1_fix_114 ?_
            refine v_lmul hG dX1_fix_115 ?_
            refine v_lsub hG dX1_fix_116 ?_
            refine c_s_28 hG dX1_fix_117 hf (fun w117 hf => ?_)
            refine v_aload_n hG 0 rfl rfl dX1_fix_118 ?_
            refine c_g_64_1 hG wk_304 dX1_fix_119 ?_
            refine c_g_22_6 hG wk_149 dX1_fix_122 ?_
            refine v_iload hG 4 rfl dX1_fix_125 ?_
            refine c_o_29 hG dX1_fix_127 hf (fun hi127 hf => ?_)
            refine v_iload_n hG 1 rfl rfl dX1_fix_128 ?_
            refine v_lconst hG (v := 0) (by decide) dX1_fix_129 ?_
            refine c_rs_29 hG hi127 dX1_fix_130 hf (fun w130 hf => ?_)
            refine v_aload_n hG 0 rfl rfl dX1_fix_131 ?_
            refine c_g_64_0 hG wk_303 dX1_fix_132 ?_
            refine c_g_21_1 hG wk_224 dX1_fix_135 ?_
            refine v_iload hG 4 rfl dX1_fix_138 ?_
            refine v_dup2 hG rfl rfl dX1_fix_140 ?_
            refine c_l_42 hG dX1_fix_141 hf (fun hf => ?_)
            refine v_iload hG 3 rfl dX1_fix_142 ?_
            refine v_ior hG dX1_fix_144 ?_
            refine c_s_42 hG dX1_fix_145 hf (fun w145 hf => ?_)
            exact j146 w145 s50.2 hf
    · show V p l e (k2_rm 1 27) s m args below meth c (inW (ccells g ad w)) (EN below args s g (ccells g ad w) (ccells g ad rr.2) (some (.int rr.1))) g 6 (ccells g ad z50) 0 0 152 [(0, .ref (ad 64)), (1, .int a0), (2, .long ((gT_low (gC_tab w)) a0.toNatClampNeg))] []
      refine v_aload_n hG 0 rfl rfl dX1_fix_152 ?_
      refine c_g_64_0 hG wk_303 dX1_fix_153 ?_
      refine v_dup hG rfl dX1_fix_156 ?_
      refine c_g_21_5 hG wk_238 dX1_fix_157 ?_
      refine v_lload_n hG 2 rfl rfl dX1_fix_160 ?_
      refine v_aload_n hG 0 rfl rfl dX1_fix_161 ?_
      refine c_g_64_1 hG wk_304 dX1_fix_162 ?_
      refine c_g_22_2 hG wk_131 dX1_fix_165 ?_
      refine v_iload_n hG 1 rfl rfl dX1_fix_168 ?_
      refine c_l_25 hG dX1_fix_169 hf (fun hf => ?_)
      refine v_lmul hG dX1_fix_170 ?_
      refine v_ladd hG dX1_fix_171 ?_
      refine c_p_21_5 hG wk_238 dX1_fix_172 hf (fun w172 hf => ?_)
      refine v_aload_n hG 0 rfl rfl dX1_fix_175 ?_
      refine c_g_64_1 hG wk_304 dX1_fix_176 ?_
      refine c_g_22_3 hG wk_135 dX1_fix_179 ?_
      refine v_iload_n hG 1 rfl rfl dX1_fix_182 ?_
      refine v_iconst hG (v := 1) (by decide) dX1_fix_183 ?_
      refine c_s_26 hG dX1_fix_184 hf (fun w184 hf => ?_)
      refine v_aload_n hG 0 rfl rfl dX1_fix_185 ?_
      refine c_g_64_0 hG wk_303 dX1_fix_186 ?_
      refine c_g_21_4 hG wk_235 dX1_fix_189 ?_
      refine v_aload_n hG 0 rfl rfl dX1_fix_192 ?_
      refine c_g_64_0 hG wk_303 dX1_fix_193 ?_
      refine c_g_21_7 hG wk_243 dX1_fix_196 ?_
      refine v_iconst hG (v := -1) (by decide) dX1_fix_199 ?_
      refine v_iload_n hG 1 rfl rfl dX1_fix_200 ?_
      refine v_iconst hG (v := 4) (by decide) dX1_fix_201 ?_
      refine v_lload_n hG 2 rfl rfl dX1_fix_202 ?_
      obtain ⟨r203, hr203, hf⟩ := bd_some hf
      refine v_callV hG (st := []) 45 0 (ct_X0_note l g ad w184 (gC_rule w184) (-1) a0 4 ((gT_low (gC_tab w)) a0.toNatClampNeg) r203 hr203) iw_X0_note wk_694 rfl rfl ⟨rfl, rfl, Nat.le_of_ble_eq_true rfl, Nat.le_of_ble_eq_true rfl⟩ ⟨Nat.le_of_ble_eq_true rfl, Nat.le_of_ble_eq_true rfl⟩ rfl rfl (Nat.le_of_ble_eq_true rfl) (ccells_fst _ _ _ _) dX1_fix_203 ?_
      refine (show V p l e (k2_rm 1 27) s m args below meth c (inW (ccells g ad w)) (EN below args s g (ccells g ad w) (ccells g ad rr.2) (some (.int rr.1))) g 6 (ccells g ad r203) 0 0 206 [(0, .ref (ad 64)), (1, .int a0), (2, .long ((gT_low (gC_tab w)) a0.toNatClampNeg))] [] from ?_)
      refine v_iconst hG (v := 1) (by decide) dX1_fix_206 ?_
      cases hf
      exact v_zret (x := 1) hG hr rfl dX1_fix_207
  · refine v_iconst hG (v := 1) (by decide) dX1_fix_24 ?_
    cases hf
    exact v_zret (x := 1) hG hr rfl dX1_fix_25
def X1_hasOnlyTerms_J68  (j68_0 : Int32) : Option ((Int32) ⊕ ((Unit) ⊕ (Unit))) := (some (.inl (j68_0 + 1)))
def X1_hasOnlyTerms_L2 (w : CW) (a0 : Int32) (a1 : Int32) (s2 : Int32) : Option ((Int32) ⊕ ((Unit) ⊕ (Unit))) := (if (gT_rows (gC_tab w)) ≤ s2 then (some (.inr (.inr ()))) else (if inR s2 12 = true then (if inR a0 12 = true then ((X6_isGone (gC_tab w) s2).bind (fun r31 : Int32 => (if r31 = 0 then (if ((gT_a (gC_tab w)) s2.toNatClampNeg a0.toNatClampNeg) = 0 then (X1_hasOnlyTerms_J68 s2) else (if (((gT_a (gC_tab w)) s2.toNatClampNeg a0.toNatClampNeg) * a1.toInt64) < 0 then (some (.inr (.inl ()))) else (if inR s2 12 = true then (if ((gT_kind (gC_tab w)) s2.toNatClampNeg) = 0 then (X1_hasOnlyTerms_J68 s2) else (some (.inr (.inl ())))) else none))) else (X1_hasOnlyTerms_J68 s2)))) else none) else none))
def X1_hasOnlyTerms (w : CW) (a0 : Int32) (a1 : Int32) : Option (Int32) := ((iter (X1_hasOnlyTerms_L2 w a0 a1) 5000 0).bind (fun z2 : (Unit) ⊕ (Unit) => (Sum.elim (fun z2_0 : Unit => (some 0)) (fun z2_r0 : (Unit) => (some 1)) z2)))
set_option maxRecDepth 100000 in
set_option maxHeartbeats 4000000 in
theorem ct_X1_hasOnlyTerms (l : Launch) (g : wG) (ad : Nat → Nat) (w : CW) (a0 : Int32) (a1 : Int32) (rr : Int32) (hf : X1_hasOnlyTerms w a0 a1 = some rr) : MetN l g yX1_hasOnlyTerms cX1_hasOnlyTerms 6 (some .boolean) (k2_rm 1 21) [.ref (ad 64), .int a0, .int a1] (ccells g ad w) (ccells g ad w) (some (.int rr)) := by
  refine MetN.of2 [(0, .ref (ad 64)), (1, .int a0), (2, .int a1)] rfl (by decide +kernel) (Nat.le_of_ble_eq_true rfl) ?_
  intro p e s m args below meth c hG hr
  unfold X1_hasOnlyTerms at hf
  refine v_iconst hG (v := 0) (by decide) dX1_hasOnlyTerms_0 ?_
  refine v_istore_n hG [(3, _), (0, _), (1, _), (2, _)] dX1_hasOnlyTerms_1 rfl (by decide) rfl ?_
  refine v_sub [(0, _), (1, _), (2, _), (3, _)] [1, 2, 3, 0] rfl ?_
  obtain ⟨z2, hlz2, hf⟩ := bd_some hf
  refine loop_v (step := X1_hasOnlyTerms_L2 w a0 a1) (fun s2 : Int32 => V p l e (k2_rm 1 21) s m args below meth c (inW (ccells g ad w)) (EN below args s g (ccells g ad w) (ccells g ad w) (some (.int rr))) g 6 (ccells g ad w) 0 0 2 [(0, .ref (ad 64)), (1, .int a0), (2, .int a1), (3, .int s2)] []) (fun z2_q : (Unit) ⊕ (Unit) => Sum.elim (fun z2_0 : Unit => V p l e (k2_rm 1 21) s m args below meth c (inW (ccells g ad w)) (EN below args s g (ccells g ad w) (ccells g ad w) (some (.int rr))) g 6 (ccells g ad w) 0 0 66 [] []) (fun z2_r0 : (Unit) => V p l e (k2_rm 1 21) s m args below meth c (inW (ccells g ad w)) (EN below args s g (ccells g ad w) (ccells g ad w) (some (.int rr))) g 6 (ccells g ad w) 0 0 74 [] []) z2_q) ?_ 5000 0 z2 hlz2 ?_
  · intro s2 rL hf hin hout
    unfold X1_hasOnlyTerms_L2 at hf
    have j68 : ∀ (j68_0 : Int32), X1_hasOnlyTerms_J68 j68_0 = some rL → V p l e (k2_rm 1 21) s m args below meth c (inW (ccells g ad w)) (EN below args s g (ccells g ad w) (ccells g ad w) (some (.int rr))) g 6 (ccells g ad w) 0 0 68 [(0, .ref (ad 64)), (1, .int a0), (2, .int a1), (3, .int j68_0)] [] := by
      intro j68_0 hf
      unfold X1_hasOnlyTerms_J68 at hf
      refine v_iinc hG 3 (v := j68_0 + 1) [(3, _), (0, _), (1, _), (2, _)] dX1_hasOnlyTerms_68 rfl rfl (by decide) rfl ?_
      refine v_goto hG 2 dX1_hasOnlyTerms_71 rfl ?_
      refine v_sub [(0, _), (1, _), (2, _), (3, _)] [1, 2, 3, 0] rfl ?_
      exact hin _ (Option.some.inj hf).symm
    refine v_iload_n hG 3 rfl rfl dX1_hasOnlyTerms_2 ?_
    refine v_aload_n hG 0 rfl rfl dX1_hasOnlyTerms_3 ?_
    refine c_g_64_1 hG wk_304 dX1_hasOnlyTerms_4 ?_
    refine c_g_22_8 hG wk_164 dX1_hasOnlyTerms_7 ?_
    refine v_icmp_ge hG 74 dX1_hasOnlyTerms_10 rfl hf (fun hf => ?_) (fun hf => ?_)
    · refine v_sub [] [] rfl ?_
      exact hout _ (Option.some.inj hf).symm
    · refine v_aload_n hG 0 rfl rfl dX1_hasOnlyTerms_13 ?_
      refine c_g_64_1 hG wk_304 dX1_hasOnlyTerms_14 ?_
      refine c_g_22_6 hG wk_149 dX1_hasOnlyTerms_17 ?_
      refine v_iload_n hG 3 rfl rfl dX1_hasOnlyTerms_20 ?_
      refine c_o_29 hG dX1_hasOnlyTerms_21 hf (fun hi21 hf => ?_)
      refine v_iload_n hG 1 rfl rfl dX1_hasOnlyTerms_22 ?_
      refine c_rl_29 hG hi21 dX1_hasOnlyTerms_23 hf (fun hf => ?_)
      refine v_lstore hG [(4, _), (0, _), (1, _), (2, _), (3, _)] dX1_hasOnlyTerms_24 (by decide) rfl ?_
      refine v_aload_n hG 1 rfl rfl dX1_hasOnlyTerms_26 ?_
      refine c_g_64_1 hG wk_304 dX1_hasOnlyTerms_27 ?_
      refine v_iload_n hG 4 rfl rfl dX1_hasOnlyTerms_30 ?_
      obtain ⟨r31, hr31, hf⟩ := bd_some hf
      refine v_callV hG (st := []) 22 6 (ct_X6_isGone_s l g ad w s2 r31 hr31) iw_X6_isGone wk_693 rfl rfl ⟨rfl, rfl, Nat.le_of_ble_eq_true rfl, Nat.le_of_ble_eq_true rfl⟩ ⟨Nat.le_of_ble_eq_true rfl, Nat.le_of_ble_eq_true rfl⟩ rfl rfl (Nat.le_of_ble_eq_true rfl) (ccells_fst _ _ _ _) dX1_hasOnlyTerms_31 ?_
      refine (show V p l e (k2_rm 1 21) s m args below meth c (inW (ccells g ad w)) (EN below args s g (ccells g ad w) (ccells g ad w) (some (.int rr))) g 6 (ccells g ad w) 0 0 34 [(4, .long ((gT_a (gC_tab w)) s2.toNatClampNeg a0.toNatClampNeg)), (0, .ref (ad 64)), (1, .int a0), (2, .int a1), (3, .int s2)] [.int r31] from ?_)
      refine v_if_ne hG 68 dX1_hasOnlyTerms_34 rfl hf (fun hf => ?_) (fun hf => ?_)
      · refine v_sub [(0, _), (1, _), (2, _), (3, _)] [1, 2, 3, 4] rfl ?_
        exact j68 s2 hf
      · refine v_lload hG 0 rfl dX1_hasOnlyTerms_37 ?_
        refine v_lconst hG (v := 0) (by decide) dX1_hasOnlyTerms_39 ?_
        refine v_lcmp_eq hG 68 dX1_hasOnlyTerms_40 dX1_hasOnlyTerms_41 rfl hf (fun hf => ?_) (fun hf => ?_)
        · refine v_sub [(0, _), (1, _), (2, _), (3, _)] [1, 2, 3, 4] rfl ?_
          exact j68 s2 hf
        · refine v_lload hG 0 rfl dX1_hasOnlyTerms_44 ?_
          refine v_iload_n hG 3 rfl rfl dX1_hasOnlyTerms_46 ?_
          refine v_i2l hG dX1_hasOnlyTerms_47 ?_
          refine v_lmul hG dX1_hasOnlyTerms_48 ?_
          refine v_lconst hG (v := 0) (by decide) dX1_hasOnlyTerms_49 ?_
          refine v_lcmp_lt hG 66 dX1_hasOnlyTerms_50 dX1_hasOnlyTerms_51 rfl hf (fun hf => ?_) (fun hf => ?_)
          · refine v_sub [] [] rfl ?_
            exact hout _ (Option.some.inj hf).symm
          · refine v_aload_n hG 1 rfl rfl dX1_hasOnlyTerms_54 ?_
            refine c_g_64_1 hG wk_304 dX1_hasOnlyTerms_55 ?_
            refine c_g_22_4 hG wk_140 dX1_hasOnlyTerms_58 ?_
            refine v_iload_n hG 4 rfl rfl dX1_hasOnlyTerms_61 ?_
            refine c_l_27 hG dX1_hasOnlyTerms_62 hf (fun hf => ?_)
            refine v_if_eq hG 68 dX1_hasOnlyTerms_63 rfl hf (fun hf => ?_) (fun hf => ?_)
            · refine v_sub [(0, _), (1, _), (2, _), (3, _)] [1, 2, 3, 4] rfl ?_
              exact j68 s2 hf
            · refine v_sub [] [] rfl ?_
              exact hout _ (Option.some.inj hf).symm
  · rcases z2 with z2_x0 | z2_x0
    · simp only [Sum.elim_inl] at hf
      show V p l e (k2_rm 1 21) s m args below meth c (inW (ccells g ad w)) (EN below args s g (ccells g ad w) (ccells g ad w) (some (.int rr))) g 6 (ccells g ad w) 0 0 66 [] []
      refine v_iconst hG (v := 0) (by decide) dX1_hasOnlyTerms_66 ?_
      cases hf
      exact v_zret (x := 0) hG hr rfl dX1_hasOnlyTerms_67
    · simp only [Sum.elim_inr] at hf
      show V p l e (k2_rm 1 21) s m args below meth c (inW (ccells g ad w)) (EN below args s g (ccells g ad w) (ccells g ad w) (some (.int rr))) g 6 (ccells g ad w) 0 0 74 [] []
      refine v_iconst hG (v := 1) (by decide) dX1_hasOnlyTerms_74 ?_
      cases hf
      exact v_zret (x := 1) hG hr rfl dX1_hasOnlyTerms_75
def X1_moveToSide_J73 (a0 : Int32) (j73_0 : CW) (j73_1 : Int64) : Option (Int32 × CW) := (if inR a0 12 = true then (if 0 < ((gT_cost (gC_tab j73_0)) a0.toNatClampNeg) then (some (1, j73_0)) else ((X1_hasOnlyTerms j73_0 a0 (-1)).bind (fun r90 : Int32 => (if r90 = 0 then (some (1, j73_0)) else ((X6_allRows (gC_tab j73_0)).bind (fun r110 : Int32 => ((X5_narrow j73_0 (-1) a0 0 j73_1 1 r110).bind (fun r113 : Int32 × CW => (if isB r113.1 = true then some (r113.1, r113.2) else none))))))))) else none)
def X1_moveToSide (w : CW) (a0 : Int32) : Option (Int32 × CW) := (if inR a0 12 = true then (if inR a0 12 = true then (if ((gT_low (gC_tab w)) a0.toNatClampNeg) = ((gT_high (gC_tab w)) a0.toNatClampNeg) then (some (1, w)) else (if inR a0 12 = true then (if ((gT_cost (gC_tab w)) a0.toNatClampNeg) < 0 then (X1_moveToSide_J73 a0 w ((gT_high (gC_tab w)) a0.toNatClampNeg)) else ((X1_hasOnlyTerms w a0 1).bind (fun r47 : Int32 => (if r47 = 0 then (X1_moveToSide_J73 a0 w ((gT_high (gC_tab w)) a0.toNatClampNeg)) else ((X6_allRows (gC_tab w)).bind (fun r66 : Int32 => ((X5_narrow w (-1) a0 1 ((gT_low (gC_tab w)) a0.toNatClampNeg) 1 r66).bind (fun r69 : Int32 × CW => (if isB r69.1 = true then some (r69.1, r69.2) else none))))))))) else none)) else none) else none)
set_option maxRecDepth 100000 in
set_option maxHeartbeats 4000000 in
theorem ct_X1_moveToSide (l : Launch) (g : wG) (ad : Nat → Nat) (w : CW) (a0 : Int32) (rr : Int32 × CW) (hf : X1_moveToSide w a0 = some rr) : MetN l g yX1_moveToSide cX1_moveToSide 6 (some .boolean) (k2_rm 2 57) [.ref (ad 64), .int a0] (ccells g ad w) (ccells g ad rr.2) (some (.int rr.1)) := by
  refine MetN.of2 [(0, .ref (ad 64)), (1, .int a0)] rfl (by decide +kernel) (Nat.le_of_ble_eq_true rfl) ?_
  intro p e s m args below meth c hG hr
  unfold X1_moveToSide at hf
  have j73 : ∀ (j73_0 : CW) (j73_1 : Int64), X1_moveToSide_J73 a0 j73_0 j73_1 = some rr → V p l e (k2_rm 2 57) s m args below meth c (inW (ccells g ad w)) (EN below args s g (ccells g ad w) (ccells g ad rr.2) (some (.int rr.1))) g 6 (ccells g ad j73_0) 0 0 73 [(0, .ref (ad 64)), (1, .int a0), (4, .long j73_1)] [] := by
    intro j73_0 j73_1 hf
    unfold X1_moveToSide_J73 at hf
    refine v_aload_n hG 0 rfl rfl dX1_moveToSide_73 ?_
    refine c_g_64_1 hG wk_304 dX1_moveToSide_74 ?_
    refine c_g_22_2 hG wk_131 dX1_moveToSide_77 ?_
    refine v_iload_n hG 1 rfl rfl dX1_moveToSide_80 ?_
    refine c_l_25 hG dX1_moveToSide_81 hf (fun hf => ?_)
    refine v_lconst hG (v := 0) (by decide) dX1_moveToSide_82 ?_
    refine v_lcmp_gt hG 117 dX1_moveToSide_83 dX1_moveToSide_84 rfl hf (fun hf => ?_) (fun hf => ?_)
    · refine v_iconst hG (v := 1) (by decide) dX1_moveToSide_117 ?_
      cases hf
      exact v_zret (x := 1) hG hr rfl dX1_moveToSide_118
    · refine v_aload_n hG 0 rfl rfl dX1_moveToSide_87 ?_
      refine v_iload_n hG 1 rfl rfl dX1_moveToSide_88 ?_
      refine v_iconst hG (v := -1) (by decide) dX1_moveToSide_89 ?_
      obtain ⟨r90, hr90, hf⟩ := bd_some hf
      refine v_callV hG (st := []) 64 1 (ct_X1_hasOnlyTerms l g ad j73_0 a0 (-1) r90 hr90) iw_X1_hasOnlyTerms wk_720 rfl rfl ⟨rfl, rfl, Nat.le_of_ble_eq_true rfl, Nat.le_of_ble_eq_true rfl⟩ ⟨Nat.le_of_ble_eq_true rfl, Nat.le_of_ble_eq_true rfl⟩ rfl rfl (Nat.le_of_ble_eq_true rfl) (ccells_fst _ _ _ _) dX1_moveToSide_90 ?_
      refine (show V p l e (k2_rm 2 57) s m args below meth c (inW (ccells g ad w)) (EN below args s g (ccells g ad w) (ccells g ad rr.2) (some (.int rr.1))) g 6 (ccells g ad j73_0) 0 0 93 [(0, .ref (ad 64)), (1, .int a0), (4, .long j73_1)] [.int r90] from ?_)
      refine v_if_eq hG 117 dX1_moveToSide_93 rfl hf (fun hf => ?_) (fun hf => ?_)
      · refine v_iconst hG (v := 1) (by decide) dX1_moveToSide_117 ?_
        cases hf
        exact v_zret (x := 1) hG hr rfl dX1_moveToSide_118
      · refine v_aload_n hG 0 rfl rfl dX1_moveToSide_96 ?_
        refine c_g_64_0 hG wk_303 dX1_moveToSide_97 ?_
        refine v_iconst hG (v := -1) (by decide) dX1_moveToSide_100 ?_
        refine v_iload_n hG 1 rfl rfl dX1_moveToSide_101 ?_
        refine v_iconst hG (v := 0) (by decide) dX1_moveToSide_102 ?_
        refine v_lload hG 2 rfl dX1_moveToSide_103 ?_
        refine v_lconst hG (v := 1) (by decide) dX1_moveToSide_105 ?_
        refine v_aload_n hG 0 rfl rfl dX1_moveToSide_106 ?_
        refine c_g_64_1 hG wk_304 dX1_moveToSide_107 ?_
        obtain ⟨r110, hr110, hf⟩ := bd_some hf
        refine v_callV hG (st := [.long 1, .long j73_1, .int 0, .int a0, .int (-1), .ref (ad 21)]) 22 6 (ct_X6_allRows_s l g ad j73_0  r110 hr110) iw_X6_allRows wk_724 rfl rfl ⟨rfl, rfl, Nat.le_of_ble_eq_true rfl, Nat.le_of_ble_eq_true rfl⟩ ⟨Nat.le_of_ble_eq_true rfl, Nat.le_of_ble_eq_true rfl⟩ rfl rfl (Nat.le_of_ble_eq_true rfl) (ccells_fst _ _ _ _) dX1_moveToSide_110 ?_
        refine (show V p l e (k2_rm 2 57) s m args below meth c (inW (ccells g ad w)) (EN below args s g (ccells g ad w) (ccells g ad rr.2) (some (.int rr.1))) g 6 (ccells g ad j73_0) 0 0 113 [(0, .ref (ad 64)), (1, .int a0), (4, .long j73_1)] [.int r110, .long 1, .long j73_1, .int 0, .int a0, .int (-1), .ref (ad 21)] from ?_)
        obtain ⟨r113, hr113, hf⟩ := bd_some hf
        refine v_callV hG (st := []) 21 5 (ct_X5_narrow l g ad j73_0 (-1) a0 0 j73_1 1 r110 r113 hr113) iw_X5_narrow wk_728 rfl rfl ⟨rfl, rfl, Nat.le_of_ble_eq_true rfl, Nat.le_of_ble_eq_true rfl⟩ ⟨Nat.le_of_ble_eq_true rfl, Nat.le_of_ble_eq_true rfl⟩ rfl rfl (Nat.le_of_ble_eq_true rfl) (ccells_fst _ _ _ _) dX1_moveToSide_113 ?_
        refine (show V p l e (k2_rm 2 57) s m args below meth c (inW (ccells g ad w)) (EN below args s g (ccells g ad w) (ccells g ad rr.2) (some (.int rr.1))) g 6 (ccells g ad r113.2) 0 0 116 [(0, .ref (ad 64)), (1, .int a0), (4, .long j73_1)] [.int r113.1] from ?_)
        obtain ⟨hb, hf⟩ := gd_some hf
        cases hf
        exact v_zret hG hr (isB_nar hb) dX1_moveToSide_116
  refine v_aload_n hG 0 rfl rfl dX1_moveToSide_0 ?_
  refine c_g_64_1 hG wk_304 dX1_moveToSide_1 ?_
  refine c_g_22_0 hG wk_116 dX1_moveToSide_4 ?_
  refine v_iload_n hG 1 rfl rfl dX1_moveToSide_7 ?_
  refine c_l_23 hG dX1_moveToSide_8 hf (fun hf => ?_)
  refine v_lstore_n hG [(2, _), (0, _), (1, _)] dX1_moveToSide_9 rfl (by decide) rfl ?_
  refine v_aload_n hG 1 rfl rfl dX1_moveToSide_10 ?_
  refine c_g_64_1 hG wk_304 dX1_moveToSide_11 ?_
  refine c_g_22_1 hG wk_123 dX1_moveToSide_14 ?_
  refine v_iload_n hG 2 rfl rfl dX1_moveToSide_17 ?_
  refine c_l_24 hG dX1_moveToSide_18 hf (fun hf => ?_)
  refine v_lstore hG [(4, _), (2, _), (0, _), (1, _)] dX1_moveToSide_19 (by decide) rfl ?_
  refine v_lload_n hG 1 rfl rfl dX1_moveToSide_21 ?_
  refine v_lload hG 0 rfl dX1_moveToSide_22 ?_
  refine v_lcmp_ne hG 30 dX1_moveToSide_24 dX1_moveToSide_25 rfl hf (fun hf => ?_) (fun hf => ?_)
  · refine v_aload_n hG 2 rfl rfl dX1_moveToSide_30 ?_
    refine c_g_64_1 hG wk_304 dX1_moveToSide_31 ?_
    refine c_g_22_2 hG wk_131 dX1_moveToSide_34 ?_
    refine v_iload_n hG 3 rfl rfl dX1_moveToSide_37 ?_
    refine c_l_25 hG dX1_moveToSide_38 hf (fun hf => ?_)
    refine v_lconst hG (v := 0) (by decide) dX1_moveToSide_39 ?_
    refine v_lcmp_lt hG 73 dX1_moveToSide_40 dX1_moveToSide_41 rfl hf (fun hf => ?_) (fun hf => ?_)
    · refine v_sub [(0, _), (1, _), (4, _)] [2, 3, 0] rfl ?_
      exact j73 w ((gT_high (gC_tab w)) a0.toNatClampNeg) hf
    · refine v_aload_n hG 2 rfl rfl dX1_moveToSide_44 ?_
      refine v_iload_n hG 3 rfl rfl dX1_moveToSide_45 ?_
      refine v_iconst hG (v := 1) (by decide) dX1_moveToSide_46 ?_
      obtain ⟨r47, hr47, hf⟩ := bd_some hf
      refine v_callV hG (st := []) 64 1 (ct_X1_hasOnlyTerms l g ad w a0 1 r47 hr47) iw_X1_hasOnlyTerms wk_720 rfl rfl ⟨rfl, rfl, Nat.le_of_ble_eq_true rfl, Nat.le_of_ble_eq_true rfl⟩ ⟨Nat.le_of_ble_eq_true rfl, Nat.le_of_ble_eq_true rfl⟩ rfl rfl (Nat.le_of_ble_eq_true rfl) (ccells_fst _ _ _ _) dX1_moveToSide_47 ?_
      refine (show V p l e (k2_rm 2 57) s m args below meth c (inW (ccells g ad w)) (EN below args s g (ccells g ad w) (ccells g ad rr.2) (some (.int rr.1))) g 6 (ccells g ad w) 0 0 50 [(4, .long ((gT_high (gC_tab w)) a0.toNatClampNeg)), (2, .long ((gT_low (gC_tab w)) a0.toNatClampNeg)), (0, .ref (ad 64)), (1, .int a0)] [.int r47] from ?_)
      refine v_if_eq hG 73 dX1_moveToSide_50 rfl hf (fun hf => ?_) (fun hf => ?_)
      · refine v_sub [(0, _), (1, _), (4, _)] [2, 3, 0] rfl ?_
        exact j73 w ((gT_high (gC_tab w)) a0.toNatClampNeg) hf
      · refine v_aload_n hG 2 rfl rfl dX1_moveToSide_53 ?_
        refine c_g_64_0 hG wk_303 dX1_moveToSide_54 ?_
        refine v_iconst hG (v := -1) (by decide) dX1_moveToSide_57 ?_
        refine v_iload_n hG 3 rfl rfl dX1_moveToSide_58 ?_
        refine v_iconst hG (v := 1) (by decide) dX1_moveToSide_59 ?_
        refine v_lload_n hG 1 rfl rfl dX1_moveToSide_60 ?_
        refine v_lconst hG (v := 1) (by decide) dX1_moveToSide_61 ?_
        refine v_aload_n hG 2 rfl rfl dX1_moveToSide_62 ?_
        refine c_g_64_1 hG wk_304 dX1_moveToSide_63 ?_
        obtain ⟨r66, hr66, hf⟩ := bd_some hf
        refine v_callV hG (st := [.long 1, .long ((gT_low (gC_tab w)) a0.toNatClampNeg), .int 1, .int a0, .int (-1), .ref (ad 21)]) 22 6 (ct_X6_allRows_s l g ad w  r66 hr66) iw_X6_allRows wk_724 rfl rfl ⟨rfl, rfl, Nat.le_of_ble_eq_true rfl, Nat.le_of_ble_eq_true rfl⟩ ⟨Nat.le_of_ble_eq_true rfl, Nat.le_of_ble_eq_true rfl⟩ rfl rfl (Nat.le_of_ble_eq_true rfl) (ccells_fst _ _ _ _) dX1_moveToSide_66 ?_
        refine (show V p l e (k2_rm 2 57) s m args below meth c (inW (ccells g ad w)) (EN below args s g (ccells g ad w) (ccells g ad rr.2) (some (.int rr.1))) g 6 (ccells g ad w) 0 0 69 [(4, .long ((gT_high (gC_tab w)) a0.toNatClampNeg)), (2, .long ((gT_low (gC_tab w)) a0.toNatClampNeg)), (0, .ref (ad 64)), (1, .int a0)] [.int r66, .long 1, .long ((gT_low (gC_tab w)) a0.toNatClampNeg), .int 1, .int a0, .int (-1), .ref (ad 21)] from ?_)
        obtain ⟨r69, hr69, hf⟩ := bd_some hf
        refine v_callV hG (st := []) 21 5 (ct_X5_narrow l g ad w (-1) a0 1 ((gT_low (gC_tab w)) a0.toNatClampNeg) 1 r66 r69 hr69) iw_X5_narrow wk_728 rfl rfl ⟨rfl, rfl, Nat.le_of_ble_eq_true rfl, Nat.le_of_ble_eq_true rfl⟩ ⟨Nat.le_of_ble_eq_true rfl, Nat.le_of_ble_eq_true rfl⟩ rfl rfl (Nat.le_of_ble_eq_true rfl) (ccells_fst _ _ _ _) dX1_moveToSide_69 ?_
        refine (show V p l e (k2_rm 2 57) s m args below meth c (inW (ccells g ad w)) (EN below args s g (ccells g ad w) (ccells g ad rr.2) (some (.int rr.1))) g 6 (ccells g ad r69.2) 0 0 72 [(4, .long ((gT_high (gC_tab w)) a0.toNatClampNeg)), (2, .long ((gT_low (gC_tab w)) a0.toNatClampNeg)), (0, .ref (ad 64)), (1, .int a0)] [.int r69.1] from ?_)
        obtain ⟨hb, hf⟩ := gd_some hf
        cases hf
        exact v_zret hG hr (isB_nar hb) dX1_moveToSide_72
  · refine v_iconst hG (v := 1) (by decide) dX1_moveToSide_28 ?_
    cases hf
    exact v_zret (x := 1) hG hr rfl dX1_moveToSide_29
def X8_beyond_J13   : Option (Int32) := (some 1)
def X8_beyond (a0 : Int64) (a1 : Int64) : Option (Int32) := (if a0 < (-a1) then (X8_beyond_J13 ) else (if a0 ≤ a1 then (some 0) else (X8_beyond_J13 )))
set_option maxRecDepth 100000 in
set_option maxHeartbeats 4000000 in
theorem ct_X8_beyond (l : Launch) (g : wG) (a0 : Int64) (a1 : Int64) (rr : Int32) (hf : X8_beyond a0 a1 = some rr) : MetN l g yX8_beyond cX8_beyond 4 (some .boolean) (k2_rm 0 0) [.long a0, .long a1] [] [] (some (.int rr)) := by
  refine MetN.of2 [(0, .long a0), (2, .long a1)] rfl (by decide +kernel) (Nat.le_of_ble_eq_true rfl) ?_
  intro p e s m args below meth c hG hr
  unfold X8_beyond at hf
  have j13 : X8_beyond_J13  = some rr → V p l e (k2_rm 0 0) s m args below meth c (inW []) (EN below args s g [] [] (some (.int rr))) g 4 [] 0 0 13 [] [] := by
    intro hf
    unfold X8_beyond_J13 at hf
    refine v_iconst hG (v := 1) (by decide) dX8_beyond_13 ?_
    refine v_goto hG 18 dX8_beyond_14 rfl ?_
    cases hf
    exact v_zret (x := 1) hG hr rfl dX8_beyond_18
  refine v_lload_n hG 0 rfl rfl dX8_beyond_0 ?_
  refine v_lload_n hG 1 rfl rfl dX8_beyond_1 ?_
  refine v_lneg hG dX8_beyond_2 ?_
  refine v_lcmp_lt hG 13 dX8_beyond_3 dX8_beyond_4 rfl hf (fun hf => ?_) (fun hf => ?_)
  · refine v_sub [] [] rfl ?_
    exact j13  hf
  · refine v_lload_n hG 0 rfl rfl dX8_beyond_7 ?_
    refine v_lload_n hG 1 rfl rfl dX8_beyond_8 ?_
    refine v_lcmp_le hG 17 dX8_beyond_9 dX8_beyond_10 rfl hf (fun hf => ?_) (fun hf => ?_)
    · refine v_iconst hG (v := 0) (by decide) dX8_beyond_17 ?_
      cases hf
      exact v_zret (x := 0) hG hr rfl dX8_beyond_18
    · refine v_sub [] [] rfl ?_
      exact j13  hf
def X1_factorOf (w : CW) (a0 : Int32) (a1 : Int32) (a2 : Int32) : Option (Int64) := (if a2 = a1 then (some 0) else (if inR a0 12 = true then (if inR a1 12 = true then (if inR a0 12 = true then (if inR a2 12 = true then (some ((-((gT_a (gC_tab w)) a0.toNatClampNeg a1.toNatClampNeg)) * ((gT_a (gC_tab w)) a0.toNatClampNeg a2.toNatClampNeg))) else none) else none) else none) else none))
set_option maxRecDepth 100000 in
set_option maxHeartbeats 4000000 in
theorem ct_X1_factorOf (l : Launch) (g : wG) (ad : Nat → Nat) (w : CW) (a0 : Int32) (a1 : Int32) (a2 : Int32) (rr : Int64) (hf : X1_factorOf w a0 a1 a2 = some rr) : MetN l g yX1_factorOf cX1_factorOf 4 (some .long) (k2_rm 0 0) [.ref (ad 64), .int a0, .int a1, .int a2] (ccells g ad w) (ccells g ad w) (some (.long rr)) := by
  refine MetN.of2 [(0, .ref (ad 64)), (1, .int a0), (2, .int a1), (3, .int a2)] rfl (by decide +kernel) (Nat.le_of_ble_eq_true rfl) ?_
  intro p e s m args below meth c hG hr
  unfold X1_factorOf at hf
  refine v_iload_n hG 3 rfl rfl dX1_factorOf_0 ?_
  refine v_iload_n hG 2 rfl rfl dX1_factorOf_1 ?_
  refine v_icmp_ne hG 9 dX1_factorOf_2 rfl hf (fun hf => ?_) (fun hf => ?_)
  · refine v_aload_n hG 0 rfl rfl dX1_factorOf_9 ?_
    refine c_g_64_1 hG wk_304 dX1_factorOf_10 ?_
    refine c_g_22_6 hG wk_149 dX1_factorOf_13 ?_
    refine v_iload_n hG 1 rfl rfl dX1_factorOf_16 ?_
    refine c_o_29 hG dX1_factorOf_17 hf (fun hi17 hf => ?_)
    refine v_iload_n hG 2 rfl rfl dX1_factorOf_18 ?_
    refine c_rl_29 hG hi17 dX1_factorOf_19 hf (fun hf => ?_)
    refine v_lneg hG dX1_factorOf_20 ?_
    refine v_aload_n hG 0 rfl rfl dX1_factorOf_21 ?_
    refine c_g_64_1 hG wk_304 dX1_factorOf_22 ?_
    refine c_g_22_6 hG wk_149 dX1_factorOf_25 ?_
    refine v_iload_n hG 1 rfl rfl dX1_factorOf_28 ?_
    refine c_o_29 hG dX1_factorOf_29 hf (fun hi29 hf => ?_)
    refine v_iload_n hG 3 rfl rfl dX1_factorOf_30 ?_
    refine c_rl_29 hG hi29 dX1_factorOf_31 hf (fun hf => ?_)
    refine v_lmul hG dX1_factorOf_32 ?_
    cases hf
    exact v_lret hG hr dX1_factorOf_33
  · refine v_lconst hG (v := 0) (by decide) dX1_factorOf_5 ?_
    refine v_goto hG 33 dX1_factorOf_6 rfl ?_
    cases hf
    exact v_lret hG hr dX1_factorOf_33
def X1_rowStaysWithin_J127  (j127_0 : Int32) : Option ((Int32) ⊕ ((Unit) ⊕ (Unit))) := (some (.inl (j127_0 + 1)))
def X1_rowStaysWithin_L74 (w : CW) (a0 : Int32) (a1 : Int32) (a2 : Int32) (s74 : Int32) : Option ((Int32) ⊕ ((Unit) ⊕ (Unit))) := (if (gT_columns (gC_tab w)) ≤ s74 then (some (.inr (.inr ()))) else (if s74 = a1 then (X1_rowStaysWithin_J127 s74) else (if inR a2 12 = true then (if inR s74 12 = true then ((X1_factorOf w a0 a1 s74).bind (fun r111 : Int64 => ((X8_beyond (((gT_a (gC_tab w)) a2.toNatClampNeg s74.toNatClampNeg) + (((gT_a (gC_tab w)) a2.toNatClampNeg a1.toNatClampNeg) * r111)) 1000000).bind (fun r119 : Int32 => (if r119 = 0 then (X1_rowStaysWithin_J127 s74) else (some (.inr (.inl ())))))))) else none) else none)))
def X1_rowStaysWithin (w : CW) (a0 : Int32) (a1 : Int32) (a2 : Int32) : Option (Int32) := (if inR a2 12 = true then (if inR a1 12 = true then (if ((gT_a (gC_tab w)) a2.toNatClampNeg a1.toNatClampNeg) = 0 then (some 1) else (if inR a0 12 = true then (if inR a1 12 = true then (if inR a0 12 = true then (if inR a2 12 = true then ((X8_beyond (((gT_right (gC_tab w)) a2.toNatClampNeg) - (((gT_a (gC_tab w)) a2.toNatClampNeg a1.toNatClampNeg) * (((gT_a (gC_tab w)) a0.toNatClampNeg a1.toNatClampNeg) * ((gT_right (gC_tab w)) a0.toNatClampNeg)))) 100000000000).bind (fun r63 : Int32 => (if r63 = 0 then ((iter (X1_rowStaysWithin_L74 w a0 a1 a2) 5000 0).bind (fun z74 : (Unit) ⊕ (Unit) => (Sum.elim (fun z74_0 : Unit => (some 0)) (fun z74_r0 : (Unit) => (some 1)) z74))) else (some 0)))) else none) else none) else none) else none)) else none) else none)
set_option maxRecDepth 100000 in
set_option maxHeartbeats 4000000 in
theorem ct_X1_rowStaysWithin (l : Launch) (g : wG) (ad : Nat → Nat) (w : CW) (a0 : Int32) (a1 : Int32) (a2 : Int32) (rr : Int32) (hf : X1_rowStaysWithin w a0 a1 a2 = some rr) : MetN l g yX1_rowStaysWithin cX1_rowStaysWithin 9 (some .boolean) (k2_rm 1 23) [.ref (ad 64), .int a0, .int a1, .int a2] (ccells g ad w) (ccells g ad w) (some (.int rr)) := by
  refine MetN.of2 [(0, .ref (ad 64)), (1, .int a0), (2, .int a1), (3, .int a2)] rfl (by decide +kernel) (Nat.le_of_ble_eq_true rfl) ?_
  intro p e s m args below meth c hG hr
  unfold X1_rowStaysWithin at hf
  refine v_aload_n hG 0 rfl rfl dX1_rowStaysWithin_0 ?_
  refine c_g_64_1 hG wk_304 dX1_rowStaysWithin_1 ?_
  refine c_g_22_6 hG wk_149 dX1_rowStaysWithin_4 ?_
  refine v_iload_n hG 3 rfl rfl dX1_rowStaysWithin_7 ?_
  refine c_o_29 hG dX1_rowStaysWithin_8 hf (fun hi8 hf => ?_)
  refine v_iload_n hG 2 rfl rfl dX1_rowStaysWithin_9 ?_
  refine c_rl_29 hG hi8 dX1_rowStaysWithin_10 hf (fun hf => ?_)
  refine v_lstore hG [(4, _), (0, _), (1, _), (2, _), (3, _)] dX1_rowStaysWithin_11 (by decide) rfl ?_
  refine v_lload hG 0 rfl dX1_rowStaysWithin_13 ?_
  refine v_lconst hG (v := 0) (by decide) dX1_rowStaysWithin_15 ?_
  refine v_lcmp_ne hG 22 dX1_rowStaysWithin_16 dX1_rowStaysWithin_17 rfl hf (fun hf => ?_) (fun hf => ?_)
  · refine v_aload_n hG 1 rfl rfl dX1_rowStaysWithin_22 ?_
    refine c_g_64_1 hG wk_304 dX1_rowStaysWithin_23 ?_
    refine c_g_22_6 hG wk_149 dX1_rowStaysWithin_26 ?_
    refine v_iload_n hG 2 rfl rfl dX1_rowStaysWithin_29 ?_
    refine c_o_29 hG dX1_rowStaysWithin_30 hf (fun hi30 hf => ?_)
    refine v_iload_n hG 3 rfl rfl dX1_rowStaysWithin_31 ?_
    refine c_rl_29 hG hi30 dX1_rowStaysWithin_32 hf (fun hf => ?_)
    refine v_aload_n hG 1 rfl rfl dX1_rowStaysWithin_33 ?_
    refine c_g_64_1 hG wk_304 dX1_rowStaysWithin_34 ?_
    refine c_g_22_5 hG wk_143 dX1_rowStaysWithin_37 ?_
    refine v_iload_n hG 2 rfl rfl dX1_rowStaysWithin_40 ?_
    refine c_l_28 hG dX1_rowStaysWithin_41 hf (fun hf => ?_)
    refine v_lmul hG dX1_rowStaysWithin_42 ?_
    refine v_lstore hG [(6, _), (4, _), (0, _), (1, _), (2, _), (3, _)] dX1_rowStaysWithin_43 (by decide) rfl ?_
    refine v_aload_n hG 2 rfl rfl dX1_rowStaysWithin_45 ?_
    refine c_g_64_1 hG wk_304 dX1_rowStaysWithin_46 ?_
    refine c_g_22_5 hG wk_143 dX1_rowStaysWithin_49 ?_
    refine v_iload_n hG 5 rfl rfl dX1_rowStaysWithin_52 ?_
    refine c_l_28 hG dX1_rowStaysWithin_53 hf (fun hf => ?_)
    refine v_lload hG 1 rfl dX1_rowStaysWithin_54 ?_
    refine v_lload hG 0 rfl dX1_rowStaysWithin_56 ?_
    refine v_lmul hG dX1_rowStaysWithin_58 ?_
    refine v_lsub hG dX1_rowStaysWithin_59 ?_
    refine v_ldc2 hG wk_754 dX1_rowStaysWithin_60 ?_
    obtain ⟨r63, hr63, hf⟩ := bd_some hf
    refine v_callPN hG (st := []) (ct_X8_beyond l g (((gT_right (gC_tab w)) a2.toNatClampNeg) - (((gT_a (gC_tab w)) a2.toNatClampNeg a1.toNatClampNeg) * (((gT_a (gC_tab w)) a0.toNatClampNeg a1.toNatClampNeg) * ((gT_right (gC_tab w)) a0.toNatClampNeg)))) 100000000000 r63 hr63) sw_X8_beyond (by decide +kernel) ⟨rfl, rfl, Nat.le_of_ble_eq_true rfl, Nat.le_of_ble_eq_true rfl⟩ ⟨Nat.le_of_ble_eq_true rfl, Nat.le_of_ble_eq_true rfl⟩ rfl rfl (Nat.le_of_ble_eq_true rfl) dX1_rowStaysWithin_63 ?_
    refine (show V p l e (k2_rm 1 23) s m args below meth c (inW (ccells g ad w)) (EN below args s g (ccells g ad w) (ccells g ad w) (some (.int rr))) g 9 (ccells g ad w) 0 0 66 [(6, .long (((gT_a (gC_tab w)) a0.toNatClampNeg a1.toNatClampNeg) * ((gT_right (gC_tab w)) a0.toNatClampNeg))), (4, .long ((gT_a (gC_tab w)) a2.toNatClampNeg a1.toNatClampNeg)), (0, .ref (ad 64)), (1, .int a0), (2, .int a1), (3, .int a2)] [.int r63] from ?_)
    refine v_if_eq hG 71 dX1_rowStaysWithin_66 rfl hf (fun hf => ?_) (fun hf => ?_)
    · refine v_iconst hG (v := 0) (by decide) dX1_rowStaysWithin_71 ?_
      refine v_istore hG [(8, _), (6, _), (4, _), (0, _), (1, _), (2, _), (3, _)] dX1_rowStaysWithin_72 (by decide) rfl ?_
      refine v_sub [(0, _), (1, _), (2, _), (3, _), (4, _), (8, _)] [3, 4, 5, 6, 2, 0] rfl ?_
      obtain ⟨z74, hlz74, hf⟩ := bd_some hf
      refine loop_v (step := X1_rowStaysWithin_L74 w a0 a1 a2) (fun s74 : Int32 => V p l e (k2_rm 1 23) s m args below meth c (inW (ccells g ad w)) (EN below args s g (ccells g ad w) (ccells g ad w) (some (.int rr))) g 9 (ccells g ad w) 0 0 74 [(0, .ref (ad 64)), (1, .int a0), (2, .int a1), (3, .int a2), (4, .long ((gT_a (gC_tab w)) a2.toNatClampNeg a1.toNatClampNeg)), (8, .int s74)] []) (fun z74_q : (Unit) ⊕ (Unit) => Sum.elim (fun z74_0 : Unit => V p l e (k2_rm 1 23) s m args below meth c (inW (ccells g ad w)) (EN below args s g (ccells g ad w) (ccells g ad w) (some (.int rr))) g 9 (ccells g ad w) 0 0 125 [] []) (fun z74_r0 : (Unit) => V p l e (k2_rm 1 23) s m args below meth c (inW (ccells g ad w)) (EN below args s g (ccells g ad w) (ccells g ad w) (some (.int rr))) g 9 (ccells g ad w) 0 0 133 [] []) z74_q) ?_ 5000 0 z74 hlz74 ?_
      · intro s74 rL hf hin hout
        unfold X1_rowStaysWithin_L74 at hf
        have j127 : ∀ (j127_0 : Int32), X1_rowStaysWithin_J127 j127_0 = some rL → V p l e (k2_rm 1 23) s m args below meth c (inW (ccells g ad w)) (EN below args s g (ccells g ad w) (ccells g ad w) (some (.int rr))) g 9 (ccells g ad w) 0 0 127 [(0, .ref (ad 64)), (1, .int a0), (2, .int a1), (3, .int a2), (4, .long ((gT_a (gC_tab w)) a2.toNatClampNeg a1.toNatClampNeg)), (8, .int j127_0)] [] := by
          intro j127_0 hf
          unfold X1_rowStaysWithin_J127 at hf
          refine v_iinc hG 5 (v := j127_0 + 1) [(8, _), (0, _), (1, _), (2, _), (3, _), (4, _)] dX1_rowStaysWithin_127 rfl rfl (by decide) rfl ?_
          refine v_goto hG 74 dX1_rowStaysWithin_130 rfl ?_
          refine v_sub [(0, _), (1, _), (2, _), (3, _), (4, _), (8, _)] [1, 2, 3, 4, 5, 0] rfl ?_
          exact hin _ (Option.some.inj hf).symm
        refine v_iload hG 5 rfl dX1_rowStaysWithin_74 ?_
        refine v_aload_n hG 0 rfl rfl dX1_rowStaysWithin_76 ?_
        refine c_g_64_1 hG wk_304 dX1_rowStaysWithin_77 ?_
        refine c_g_22_7 hG wk_162 dX1_rowStaysWithin_80 ?_
        refine v_icmp_ge hG 133 dX1_rowStaysWithin_83 rfl hf (fun hf => ?_) (fun hf => ?_)
        · refine v_sub [] [] rfl ?_
          exact hout _ (Option.some.inj hf).symm
        · refine v_iload hG 5 rfl dX1_rowStaysWithin_86 ?_
          refine v_iload_n hG 2 rfl rfl dX1_rowStaysWithin_88 ?_
          refine v_icmp_eq hG 127 dX1_rowStaysWithin_89 rfl hf (fun hf => ?_) (fun hf => ?_)
          · exact j127 s74 hf
          · refine v_aload_n hG 0 rfl rfl dX1_rowStaysWithin_92 ?_
            refine c_g_64_1 hG wk_304 dX1_rowStaysWithin_93 ?_
            refine c_g_22_6 hG wk_149 dX1_rowStaysWithin_96 ?_
            refine v_iload_n hG 3 rfl rfl dX1_rowStaysWithin_99 ?_
            refine c_o_29 hG dX1_rowStaysWithin_100 hf (fun hi100 hf => ?_)
            refine v_iload hG 5 rfl dX1_rowStaysWithin_101 ?_
            refine c_rl_29 hG hi100 dX1_rowStaysWithin_103 hf (fun hf => ?_)
            refine v_lload hG 4 rfl dX1_rowStaysWithin_104 ?_
            refine v_aload_n hG 0 rfl rfl dX1_rowStaysWithin_106 ?_
            refine v_iload_n hG 1 rfl rfl dX1_rowStaysWithin_107 ?_
            refine v_iload_n hG 2 rfl rfl dX1_rowStaysWithin_108 ?_
            refine v_iload hG 5 rfl dX1_rowStaysWithin_109 ?_
            obtain ⟨r111, hr111, hf⟩ := bd_some hf
            refine v_callV hG (st := [.long ((gT_a (gC_tab w)) a2.toNatClampNeg a1.toNatClampNeg), .long ((gT_a (gC_tab w)) a2.toNatClampNeg s74.toNatClampNeg)]) 64 1 (ct_X1_factorOf l g ad w a0 a1 s74 r111 hr111) iw_X1_factorOf wk_745 rfl rfl ⟨rfl, rfl, Nat.le_of_ble_eq_true rfl, Nat.le_of_ble_eq_true rfl⟩ ⟨Nat.le_of_ble_eq_true rfl, Nat.le_of_ble_eq_true rfl⟩ rfl rfl (Nat.le_of_ble_eq_true rfl) (ccells_fst _ _ _ _) dX1_rowStaysWithin_111 ?_
            refine (show V p l e (k2_rm 1 23) s m args below meth c (inW (ccells g ad w)) (EN below args s g (ccells g ad w) (ccells g ad w) (some (.int rr))) g 9 (ccells g ad w) 0 0 114 [(0, .ref (ad 64)), (1, .int a0), (2, .int a1), (3, .int a2), (4, .long ((gT_a (gC_tab w)) a2.toNatClampNeg a1.toNatClampNeg)), (8, .int s74)] [.long r111, .long ((gT_a (gC_tab w)) a2.toNatClampNeg a1.toNatClampNeg), .long ((gT_a (gC_tab w)) a2.toNatClampNeg s74.toNatClampNeg)] from ?_)
            refine v_lmul hG dX1_rowStaysWithin_114 ?_
            refine v_ladd hG dX1_rowStaysWithin_115 ?_
            refine v_ldc2 hG wk_749 dX1_rowStaysWithin_116 ?_
            obtain ⟨r119, hr119, hf⟩ := bd_some hf
            refine v_callPN hG (st := []) (ct_X8_beyond l g (((gT_a (gC_tab w)) a2.toNatClampNeg s74.toNatClampNeg) + (((gT_a (gC_tab w)) a2.toNatClampNeg a1.toNatClampNeg) * r111)) 1000000 r119 hr119) sw_X8_beyond (by decide +kernel) ⟨rfl, rfl, Nat.le_of_ble_eq_true rfl, Nat.le_of_ble_eq_true rfl⟩ ⟨Nat.le_of_ble_eq_true rfl, Nat.le_of_ble_eq_true rfl⟩ rfl rfl (Nat.le_of_ble_eq_true rfl) dX1_rowStaysWithin_119 ?_
            refine (show V p l e (k2_rm 1 23) s m args below meth c (inW (ccells g ad w)) (EN below args s g (ccells g ad w) (ccells g ad w) (some (.int rr))) g 9 (ccells g ad w) 0 0 122 [(0, .ref (ad 64)), (1, .int a0), (2, .int a1), (3, .int a2), (4, .long ((gT_a (gC_tab w)) a2.toNatClampNeg a1.toNatClampNeg)), (8, .int s74)] [.int r119] from ?_)
            refine v_if_eq hG 127 dX1_rowStaysWithin_122 rfl hf (fun hf => ?_) (fun hf => ?_)
            · exact j127 s74 hf
            · refine v_sub [] [] rfl ?_
              exact hout _ (Option.some.inj hf).symm
      · rcases z74 with z74_x0 | z74_x0
        · simp only [Sum.elim_inl] at hf
          show V p l e (k2_rm 1 23) s m args below meth c (inW (ccells g ad w)) (EN below args s g (ccells g ad w) (ccells g ad w) (some (.int rr))) g 9 (ccells g ad w) 0 0 125 [] []
          refine v_iconst hG (v := 0) (by decide) dX1_rowStaysWithin_125 ?_
          cases hf
          exact v_zret (x := 0) hG hr rfl dX1_rowStaysWithin_126
        · simp only [Sum.elim_inr] at hf
          show V p l e (k2_rm 1 23) s m args below meth c (inW (ccells g ad w)) (EN below args s g (ccells g ad w) (ccells g ad w) (some (.int rr))) g 9 (ccells g ad w) 0 0 133 [] []
          refine v_iconst hG (v := 1) (by decide) dX1_rowStaysWithin_133 ?_
          cases hf
          exact v_zret (x := 1) hG hr rfl dX1_rowStaysWithin_134
    · refine v_iconst hG (v := 0) (by decide) dX1_rowStaysWithin_69 ?_
      cases hf
      exact v_zret (x := 0) hG hr rfl dX1_rowStaysWithin_70
  · refine v_iconst hG (v := 1) (by decide) dX1_rowStaysWithin_20 ?_
    cases hf
    exact v_zret (x := 1) hG hr rfl dX1_rowStaysWithin_21
def X1_staysWithin_L47 (w : CW) (a0 : Int32) (a1 : Int32) (s47 : Int32) : Option ((Int32) ⊕ ((Unit) ⊕ (Unit))) := (if (gT_columns (gC_tab w)) ≤ s47 then (some (.inr (.inr ()))) else (if inR s47 12 = true then ((X1_factorOf w a0 a1 s47).bind (fun r74 : Int64 => (if inR a1 12 = true then ((X8_beyond (((gT_cost (gC_tab w)) s47.toNatClampNeg) + (r74 * ((gT_cost (gC_tab w)) a1.toNatClampNeg))) 1000000).bind (fun r91 : Int32 => (if r91 = 0 then (some (.inl (s47 + 1))) else (some (.inr (.inl ())))))) else none))) else none))
def X1_staysWithin_J151  (j151_0 : Int32) : Option ((Int32) ⊕ ((Unit) ⊕ (Unit))) := (some (.inl (j151_0 + 1)))
def X1_staysWithin_L108 (w : CW) (a0 : Int32) (a1 : Int32) (s108 : Int32) : Option ((Int32) ⊕ ((Unit) ⊕ (Unit))) := (if (gT_rows (gC_tab w)) ≤ s108 then (some (.inr (.inr ()))) else (if s108 = a0 then (X1_staysWithin_J151 s108) else ((X6_isGone (gC_tab w) s108).bind (fun r132 : Int32 => (if r132 = 0 then ((X1_rowStaysWithin w a0 a1 s108).bind (fun r143 : Int32 => (if r143 = 0 then (some (.inr (.inl ()))) else (X1_staysWithin_J151 s108)))) else (X1_staysWithin_J151 s108))))))
def X1_staysWithin (w : CW) (a0 : Int32) (a1 : Int32) : Option (Int32) := (if inR a0 12 = true then (if inR a1 12 = true then (if inR a0 12 = true then (if inR a1 12 = true then ((X8_beyond ((((gT_a (gC_tab w)) a0.toNatClampNeg a1.toNatClampNeg) * ((gT_right (gC_tab w)) a0.toNatClampNeg)) * ((gT_cost (gC_tab w)) a1.toNatClampNeg)) 1000000000000000).bind (fun r36 : Int32 => (if r36 = 0 then ((iter (X1_staysWithin_L47 w a0 a1) 5000 0).bind (fun z47 : (Unit) ⊕ (Unit) => (Sum.elim (fun z47_0 : Unit => (some 0)) (fun z47_r0 : (Unit) => ((iter (X1_staysWithin_L108 w a0 a1) 5000 0).bind (fun z108 : (Unit) ⊕ (Unit) => (Sum.elim (fun z108_0 : Unit => (some 0)) (fun z108_r0 : (Unit) => (some 1)) z108)))) z47))) else (some 0)))) else none) else none) else none) else none)
set_option maxRecDepth 100000 in
set_option maxHeartbeats 4000000 in
theorem ct_X1_staysWithin (l : Launch) (g : wG) (ad : Nat → Nat) (w : CW) (a0 : Int32) (a1 : Int32) (rr : Int32) (hf : X1_staysWithin w a0 a1 = some rr) : MetN l g yX1_staysWithin cX1_staysWithin 6 (some .boolean) (k2_rm 2 51) [.ref (ad 64), .int a0, .int a1] (ccells g ad w) (ccells g ad w) (some (.int rr)) := by
  refine MetN.of2 [(0, .ref (ad 64)), (1, .int a0), (2, .int a1)] rfl (by decide +kernel) (Nat.le_of_ble_eq_true rfl) ?_
  intro p e s m args below meth c hG hr
  unfold X1_staysWithin at hf
  refine v_aload_n hG 0 rfl rfl dX1_staysWithin_0 ?_
  refine c_g_64_1 hG wk_304 dX1_staysWithin_1 ?_
  refine c_g_22_6 hG wk_149 dX1_staysWithin_4 ?_
  refine v_iload_n hG 1 rfl rfl dX1_staysWithin_7 ?_
  refine c_o_29 hG dX1_staysWithin_8 hf (fun hi8 hf => ?_)
  refine v_iload_n hG 2 rfl rfl dX1_staysWithin_9 ?_
  refine c_rl_29 hG hi8 dX1_staysWithin_10 hf (fun hf => ?_)
  refine v_aload_n hG 0 rfl rfl dX1_staysWithin_11 ?_
  refine c_g_64_1 hG wk_304 dX1_staysWithin_12 ?_
  refine c_g_22_5 hG wk_143 dX1_staysWithin_15 ?_
  refine v_iload_n hG 1 rfl rfl dX1_staysWithin_18 ?_
  refine c_l_28 hG dX1_staysWithin_19 hf (fun hf => ?_)
  refine v_lmul hG dX1_staysWithin_20 ?_
  refine v_lstore_n hG [(3, _), (0, _), (1, _), (2, _)] dX1_staysWithin_21 rfl (by decide) rfl ?_
  refine v_lload_n hG 0 rfl rfl dX1_staysWithin_22 ?_
  refine v_aload_n hG 1 rfl rfl dX1_staysWithin_23 ?_
  refine c_g_64_1 hG wk_304 dX1_staysWithin_24 ?_
  refine c_g_22_2 hG wk_131 dX1_staysWithin_27 ?_
  refine v_iload_n hG 3 rfl rfl dX1_staysWithin_30 ?_
  refine c_l_25 hG dX1_staysWithin_31 hf (fun hf => ?_)
  refine v_lmul hG dX1_staysWithin_32 ?_
  refine v_ldc2 hG wk_743 dX1_staysWithin_33 ?_
  obtain ⟨r36, hr36, hf⟩ := bd_some hf
  refine v_callPN hG (st := []) (ct_X8_beyond l g ((((gT_a (gC_tab w)) a0.toNatClampNeg a1.toNatClampNeg) * ((gT_right (gC_tab w)) a0.toNatClampNeg)) * ((gT_cost (gC_tab w)) a1.toNatClampNeg)) 1000000000000000 r36 hr36) sw_X8_beyond (by decide +kernel) ⟨rfl, rfl, Nat.le_of_ble_eq_true rfl, Nat.le_of_ble_eq_true rfl⟩ ⟨Nat.le_of_ble_eq_true rfl, Nat.le_of_ble_eq_true rfl⟩ rfl rfl (Nat.le_of_ble_eq_true rfl) dX1_staysWithin_36 ?_
  refine (show V p l e (k2_rm 2 51) s m args below meth c (inW (ccells g ad w)) (EN below args s g (ccells g ad w) (ccells g ad w) (some (.int rr))) g 6 (ccells g ad w) 0 0 39 [(3, .long (((gT_a (gC_tab w)) a0.toNatClampNeg a1.toNatClampNeg) * ((gT_right (gC_tab w)) a0.toNatClampNeg))), (0, .ref (ad 64)), (1, .int a0), (2, .int a1)] [.int r36] from ?_)
  refine v_if_eq hG 44 dX1_staysWithin_39 rfl hf (fun hf => ?_) (fun hf => ?_)
  · refine v_iconst hG (v := 0) (by decide) dX1_staysWithin_44 ?_
    refine v_istore hG [(5, _), (3, _), (0, _), (1, _), (2, _)] dX1_staysWithin_45 (by decide) rfl ?_
    refine v_sub [(0, _), (1, _), (2, _), (5, _)] [2, 3, 4, 0] rfl ?_
    obtain ⟨z47, hlz47, hf⟩ := bd_some hf
    refine loop_v (step := X1_staysWithin_L47 w a0 a1) (fun s47 : Int32 => V p l e (k2_rm 2 51) s m args below meth c (inW (ccells g ad w)) (EN below args s g (ccells g ad w) (ccells g ad w) (some (.int rr))) g 6 (ccells g ad w) 0 0 47 [(0, .ref (ad 64)), (1, .int a0), (2, .int a1), (5, .int s47)] []) (fun z47_q : (Unit) ⊕ (Unit) => Sum.elim (fun z47_0 : Unit => V p l e (k2_rm 2 51) s m args below meth c (inW (ccells g ad w)) (EN below args s g (ccells g ad w) (ccells g ad w) (some (.int rr))) g 6 (ccells g ad w) 0 0 97 [] []) (fun z47_r0 : (Unit) => V p l e (k2_rm 2 51) s m args below meth c (inW (ccells g ad w)) (EN below args s g (ccells g ad w) (ccells g ad w) (some (.int rr))) g 6 (ccells g ad w) 0 0 105 [(0, .ref (ad 64)), (1, .int a0), (2, .int a1)] []) z47_q) ?_ 5000 0 z47 hlz47 ?_
    · intro s47 rL hf hin hout
      unfold X1_staysWithin_L47 at hf
      refine v_iload hG 3 rfl dX1_staysWithin_47 ?_
      refine v_aload_n hG 0 rfl rfl dX1_staysWithin_49 ?_
      refine c_g_64_1 hG wk_304 dX1_staysWithin_50 ?_
      refine c_g_22_7 hG wk_162 dX1_staysWithin_53 ?_
      refine v_icmp_ge hG 105 dX1_staysWithin_56 rfl hf (fun hf => ?_) (fun hf => ?_)
      · refine v_sub [(0, _), (1, _), (2, _)] [0, 1, 2] rfl ?_
        exact hout _ (Option.some.inj hf).symm
      · refine v_aload_n hG 0 rfl rfl dX1_staysWithin_59 ?_
        refine c_g_64_1 hG wk_304 dX1_staysWithin_60 ?_
        refine c_g_22_2 hG wk_131 dX1_staysWithin_63 ?_
        refine v_iload hG 3 rfl dX1_staysWithin_66 ?_
        refine c_l_25 hG dX1_staysWithin_68 hf (fun hf => ?_)
        refine v_aload_n hG 0 rfl rfl dX1_staysWithin_69 ?_
        refine v_iload_n hG 1 rfl rfl dX1_staysWithin_70 ?_
        refine v_iload_n hG 2 rfl rfl dX1_staysWithin_71 ?_
        refine v_iload hG 3 rfl dX1_staysWithin_72 ?_
        obtain ⟨r74, hr74, hf⟩ := bd_some hf
        refine v_callV hG (st := [.long ((gT_cost (gC_tab w)) s47.toNatClampNeg)]) 64 1 (ct_X1_factorOf l g ad w a0 a1 s47 r74 hr74) iw_X1_factorOf wk_745 rfl rfl ⟨rfl, rfl, Nat.le_of_ble_eq_true rfl, Nat.le_of_ble_eq_true rfl⟩ ⟨Nat.le_of_ble_eq_true rfl, Nat.le_of_ble_eq_true rfl⟩ rfl rfl (Nat.le_of_ble_eq_true rfl) (ccells_fst _ _ _ _) dX1_staysWithin_74 ?_
        refine (show V p l e (k2_rm 2 51) s m args below meth c (inW (ccells g ad w)) (EN below args s g (ccells g ad w) (ccells g ad w) (some (.int rr))) g 6 (ccells g ad w) 0 0 77 [(0, .ref (ad 64)), (1, .int a0), (2, .int a1), (5, .int s47)] [.long r74, .long ((gT_cost (gC_tab w)) s47.toNatClampNeg)] from ?_)
        refine v_aload_n hG 0 rfl rfl dX1_staysWithin_77 ?_
        refine c_g_64_1 hG wk_304 dX1_staysWithin_78 ?_
        refine c_g_22_2 hG wk_131 dX1_staysWithin_81 ?_
        refine v_iload_n hG 2 rfl rfl dX1_staysWithin_84 ?_
        refine c_l_25 hG dX1_staysWithin_85 hf (fun hf => ?_)
        refine v_lmul hG dX1_staysWithin_86 ?_
        refine v_ladd hG dX1_staysWithin_87 ?_
        refine v_ldc2 hG wk_749 dX1_staysWithin_88 ?_
        obtain ⟨r91, hr91, hf⟩ := bd_some hf
        refine v_callPN hG (st := []) (ct_X8_beyond l g (((gT_cost (gC_tab w)) s47.toNatClampNeg) + (r74 * ((gT_cost (gC_tab w)) a1.toNatClampNeg))) 1000000 r91 hr91) sw_X8_beyond (by decide +kernel) ⟨rfl, rfl, Nat.le_of_ble_eq_true rfl, Nat.le_of_ble_eq_true rfl⟩ ⟨Nat.le_of_ble_eq_true rfl, Nat.le_of_ble_eq_true rfl⟩ rfl rfl (Nat.le_of_ble_eq_true rfl) dX1_staysWithin_91 ?_
        refine (show V p l e (k2_rm 2 51) s m args below meth c (inW (ccells g ad w)) (EN below args s g (ccells g ad w) (ccells g ad w) (some (.int rr))) g 6 (ccells g ad w) 0 0 94 [(0, .ref (ad 64)), (1, .int a0), (2, .int a1), (5, .int s47)] [.int r91] from ?_)
        refine v_if_eq hG 99 dX1_staysWithin_94 rfl hf (fun hf => ?_) (fun hf => ?_)
        · refine v_iinc hG 3 (v := s47 + 1) [(5, _), (0, _), (1, _), (2, _)] dX1_staysWithin_99 rfl rfl (by decide) rfl ?_
          refine v_goto hG 47 dX1_staysWithin_102 rfl ?_
          refine v_sub [(0, _), (1, _), (2, _), (5, _)] [1, 2, 3, 0] rfl ?_
          exact hin _ (Option.some.inj hf).symm
        · refine v_sub [] [] rfl ?_
          exact hout _ (Option.some.inj hf).symm
    · rcases z47 with z47_x0 | z47_x0
      · simp only [Sum.elim_inl] at hf
        show V p l e (k2_rm 2 51) s m args below meth c (inW (ccells g ad w)) (EN below args s g (ccells g ad w) (ccells g ad w) (some (.int rr))) g 6 (ccells g ad w) 0 0 97 [] []
        refine v_iconst hG (v := 0) (by decide) dX1_staysWithin_97 ?_
        cases hf
        exact v_zret (x := 0) hG hr rfl dX1_staysWithin_98
      · simp only [Sum.elim_inr] at hf
        show V p l e (k2_rm 2 51) s m args below meth c (inW (ccells g ad w)) (EN below args s g (ccells g ad w) (ccells g ad w) (some (.int rr))) g 6 (ccells g ad w) 0 0 105 [(0, .ref (ad 64)), (1, .int a0), (2, .int a1)] []
        refine v_iconst hG (v := 0) (by decide) dX1_staysWithin_105 ?_
        refine v_istore hG [(5, _), (0, _), (1, _), (2, _)] dX1_staysWithin_106 (by decide) rfl ?_
        refine v_sub [(0, _), (1, _), (2, _), (5, _)] [1, 2, 3, 0] rfl ?_
        obtain ⟨z108, hlz108, hf⟩ := bd_some hf
        refine loop_v (step := X1_staysWithin_L108 w a0 a1) (fun s108 : Int32 => V p l e (k2_rm 2 51) s m args below meth c (inW (ccells g ad w)) (EN below args s g (ccells g ad w) (ccells g ad w) (some (.int rr))) g 6 (ccells g ad w) 0 0 108 [(0, .ref (ad 64)), (1, .int a0), (2, .int a1), (5, .int s108)] []) (fun z108_q : (Unit) ⊕ (Unit) => Sum.elim (fun z108_0 : Unit => V p l e (k2_rm 2 51) s m args below meth c (inW (ccells g ad w)) (EN below args s g (ccells g ad w) (ccells g ad w) (some (.int rr))) g 6 (ccells g ad w) 0 0 149 [] []) (fun z108_r0 : (Unit) => V p l e (k2_rm 2 51) s m args below meth c (inW (ccells g ad w)) (EN below args s g (ccells g ad w) (ccells g ad w) (some (.int rr))) g 6 (ccells g ad w) 0 0 157 [] []) z108_q) ?_ 5000 0 z108 hlz108 ?_
        · intro s108 rL hf hin hout
          unfold X1_staysWithin_L108 at hf
          have j151 : ∀ (j151_0 : Int32), X1_staysWithin_J151 j151_0 = some rL → V p l e (k2_rm 2 51) s m args below meth c (inW (ccells g ad w)) (EN below args s g (ccells g ad w) (ccells g ad w) (some (.int rr))) g 6 (ccells g ad w) 0 0 151 [(0, .ref (ad 64)), (1, .int a0), (2, .int a1), (5, .int j151_0)] [] := by
            intro j151_0 hf
            unfold X1_staysWithin_J151 at hf
            refine v_iinc hG 3 (v := j151_0 + 1) [(5, _), (0, _), (1, _), (2, _)] dX1_staysWithin_151 rfl rfl (by decide) rfl ?_
            refine v_goto hG 108 dX1_staysWithin_154 rfl ?_
            refine v_sub [(0, _), (1, _), (2, _), (5, _)] [1, 2, 3, 0] rfl ?_
            exact hin _ (Option.some.inj hf).symm
          refine v_iload hG 3 rfl dX1_staysWithin_108 ?_
          refine v_aload_n hG 0 rfl rfl dX1_staysWithin_110 ?_
          refine c_g_64_1 hG wk_304 dX1_staysWithin_111 ?_
          refine c_g_22_8 hG wk_164 dX1_staysWithin_114 ?_
          refine v_icmp_ge hG 157 dX1_staysWithin_117 rfl hf (fun hf => ?_) (fun hf => ?_)
          · refine v_sub [] [] rfl ?_
            exact hout _ (Option.some.inj hf).symm
          · refine v_iload hG 3 rfl dX1_staysWithin_120 ?_
            refine v_iload_n hG 1 rfl rfl dX1_staysWithin_122 ?_
            refine v_icmp_eq hG 151 dX1_staysWithin_123 rfl hf (fun hf => ?_) (fun hf => ?_)
            · exact j151 s108 hf
            · refine v_aload_n hG 0 rfl rfl dX1_staysWithin_126 ?_
              refine c_g_64_1 hG wk_304 dX1_staysWithin_127 ?_
              refine v_iload hG 3 rfl dX1_staysWithin_130 ?_
              obtain ⟨r132, hr132, hf⟩ := bd_some hf
              refine v_callV hG (st := []) 22 6 (ct_X6_isGone_s l g ad w s108 r132 hr132) iw_X6_isGone wk_693 rfl rfl ⟨rfl, rfl, Nat.le_of_ble_eq_true rfl, Nat.le_of_ble_eq_true rfl⟩ ⟨Nat.le_of_ble_eq_true rfl, Nat.le_of_ble_eq_true rfl⟩ rfl rfl (Nat.le_of_ble_eq_true rfl) (ccells_fst _ _ _ _) dX1_staysWithin_132 ?_
              refine (show V p l e (k2_rm 2 51) s m args below meth c (inW (ccells g ad w)) (EN below args s g (ccells g ad w) (ccells g ad w) (some (.int rr))) g 6 (ccells g ad w) 0 0 135 [(0, .ref (ad 64)), (1, .int a0), (2, .int a1), (5, .int s108)] [.int r132] from ?_)
              refine v_if_ne hG 151 dX1_staysWithin_135 rfl hf (fun hf => ?_) (fun hf => ?_)
              · exact j151 s108 hf
              · refine v_aload_n hG 0 rfl rfl dX1_staysWithin_138 ?_
                refine v_iload_n hG 1 rfl rfl dX1_staysWithin_139 ?_
                refine v_iload_n hG 2 rfl rfl dX1_staysWithin_140 ?_
                refine v_iload hG 3 rfl dX1_staysWithin_141 ?_
                obtain ⟨r143, hr143, hf⟩ := bd_some hf
                refine v_callV hG (st := []) 64 1 (ct_X1_rowStaysWithin l g ad w a0 a1 s108 r143 hr143) iw_X1_rowStaysWithin wk_750 rfl rfl ⟨rfl, rfl, Nat.le_of_ble_eq_true rfl, Nat.le_of_ble_eq_true rfl⟩ ⟨Nat.le_of_ble_eq_true rfl, Nat.le_of_ble_eq_true rfl⟩ rfl rfl (Nat.le_of_ble_eq_true rfl) (ccells_fst _ _ _ _) dX1_staysWithin_143 ?_
                refine (show V p l e (k2_rm 2 51) s m args below meth c (inW (ccells g ad w)) (EN below args s g (ccells g ad w) (ccells g ad w) (some (.int rr))) g 6 (ccells g ad w) 0 0 146 [(0, .ref (ad 64)), (1, .int a0), (2, .int a1), (5, .int s108)] [.int r143] from ?_)
                refine v_if_ne hG 151 dX1_staysWithin_146 rfl hf (fun hf => ?_) (fun hf => ?_)
                · exact j151 s108 hf
                · refine v_sub [] [] rfl ?_
                  exact hout _ (Option.some.inj hf).symm
        · rcases z108 with z108_x0 | z108_x0
          · simp only [Sum.elim_inl] at hf
            show V p l e (k2_rm 2 51) s m args below meth c (inW (ccells g ad w)) (EN below args s g (ccells g ad w) (ccells g ad w) (some (.int rr))) g 6 (ccells g ad w) 0 0 149 [] []
            refine v_iconst hG (v := 0) (by decide) dX1_staysWithin_149 ?_
            cases hf
            exact v_zret (x := 0) hG hr rfl dX1_staysWithin_150
          · simp only [Sum.elim_inr] at hf
            show V p l e (k2_rm 2 51) s m args below meth c (inW (ccells g ad w)) (EN below args s g (ccells g ad w) (ccells g ad w) (some (.int rr))) g 6 (ccells g ad w) 0 0 157 [] []
            refine v_iconst hG (v := 1) (by decide) dX1_staysWithin_157 ?_
            cases hf
            exact v_zret (x := 1) hG hr rfl dX1_staysWithin_158
  · refine v_iconst hG (v := 0) (by decide) dX1_staysWithin_42 ?_
    cases hf
    exact v_zret (x := 0) hG hr rfl dX1_staysWithin_43
def X1_recordPutIn_L42 (w : CW) (a0 : Int32) (a1 : Int32) (s42 : CW × Int32) : Option ((CW × Int32) ⊕ ((CW))) := (if (gT_columns (gC_tab s42.1)) ≤ s42.2 then (some (.inr s42.1)) else (if inR (gC_putIns w) 12 = true then ((X1_factorOf s42.1 a0 a1 s42.2).bind (fun r71 : Int64 => (if inR s42.2 12 = true then (bnd (sC_putInFactors s42.1 (va_up (gC_putInFactors s42.1) (gC_putIns w).toNatClampNeg (vp_updL ((gC_putInFactors s42.1) (gC_putIns w).toNatClampNeg) s42.2.toNatClampNeg r71))) (fun w74 : CW => (some (.inl (w74, (s42.2 + 1)))))) else none))) else none))
def X1_recordPutIn (w : CW) (a0 : Int32) (a1 : Int32) (a2 : Int64) : Option (CW) := (if (gC_putIns w) < 12 then (if inR (gC_putIns w) 12 = true then (bnd (sC_putInColumn w (upd (gC_putInColumn w) (gC_putIns w).toNatClampNeg a1)) (fun w27 : CW => (if inR (gC_putIns w) 12 = true then (bnd (sC_putInShift w27 (vp_updL (gC_putInShift w27) (gC_putIns w).toNatClampNeg a2)) (fun w38 : CW => ((iter (X1_recordPutIn_L42 w a0 a1) 5000 (w38, 0)).bind (fun z42 : (CW) => (bnd (sC_putIns z42 ((gC_putIns w) + 1)) (fun w89 : CW => (some w89))))))) else none))) else none) else (some w))
set_option maxRecDepth 100000 in
set_option maxHeartbeats 4000000 in
theorem ct_X1_recordPutIn (l : Launch) (g : wG) (ad : Nat → Nat) (w : CW) (a0 : Int32) (a1 : Int32) (a2 : Int64) (rr : CW) (hf : X1_recordPutIn w a0 a1 a2 = some rr) : MetN l g yX1_recordPutIn cX1_recordPutIn 7 none (k2_rm 1 23) [.ref (ad 64), .int a0, .int a1, .long a2] (ccells g ad w) (ccells g ad rr) none := by
  refine MetN.of2 [(0, .ref (ad 64)), (1, .int a0), (2, .int a1), (3, .long a2)] rfl (by decide +kernel) (Nat.le_of_ble_eq_true rfl) ?_
  intro p e s m args below meth c hG hr
  unfold X1_recordPutIn at hf
  refine v_aload_n hG 0 rfl rfl dX1_recordPutIn_0 ?_
  refine c_g_64_0 hG wk_303 dX1_recordPutIn_1 ?_
  refine c_g_21_11 hG wk_252 dX1_recordPutIn_4 ?_
  refine v_istore hG [(5, _), (0, _), (1, _), (2, _), (3, _)] dX1_recordPutIn_7 (by decide) rfl ?_
  refine v_iload hG 0 rfl dX1_recordPutIn_9 ?_
  refine v_bipush hG (v := 12) (by decide) dX1_recordPutIn_11 ?_
  refine v_icmp_lt hG 17 dX1_recordPutIn_13 rfl hf (fun hf => ?_) (fun hf => ?_)
  · refine v_aload_n hG 1 rfl rfl dX1_recordPutIn_17 ?_
    refine c_g_64_0 hG wk_303 dX1_recordPutIn_18 ?_
    refine c_g_21_8 hG wk_246 dX1_recordPutIn_21 ?_
    refine v_iload hG 0 rfl dX1_recordPutIn_24 ?_
    refine v_iload_n hG 3 rfl rfl dX1_recordPutIn_26 ?_
    refine c_s_47 hG dX1_recordPutIn_27 hf (fun w27 hf => ?_)
    refine v_aload_n hG 1 rfl rfl dX1_recordPutIn_28 ?_
    refine c_g_64_0 hG wk_303 dX1_recordPutIn_29 ?_
    refine c_g_21_9 hG wk_248 dX1_recordPutIn_32 ?_
    refine v_iload hG 0 rfl dX1_recordPutIn_35 ?_
    refine v_lload_n hG 4 rfl rfl dX1_recordPutIn_37 ?_
    refine c_s_48 hG dX1_recordPutIn_38 hf (fun w38 hf => ?_)
    refine v_iconst hG (v := 0) (by decide) dX1_recordPutIn_39 ?_
    refine v_istore hG [(6, _), (5, _), (0, _), (1, _), (2, _), (3, _)] dX1_recordPutIn_40 (by decide) rfl ?_
    refine v_sub [(0, _), (1, _), (2, _), (5, _), (6, _)] [2, 3, 4, 1, 0] rfl ?_
    obtain ⟨z42, hlz42, hf⟩ := bd_some hf
    refine loop_v (step := X1_recordPutIn_L42 w a0 a1) (fun s42 : CW × Int32 => V p l e (k2_rm 1 23) s m args below meth c (inW (ccells g ad w)) (EN below args s g (ccells g ad w) (ccells g ad rr) none) g 7 (ccells g ad s42.1) 0 0 42 [(0, .ref (ad 64)), (1, .int a0), (2, .int a1), (5, .int (gC_putIns w)), (6, .int s42.2)] []) (fun z42_q : (CW) => V p l e (k2_rm 1 23) s m args below meth c (inW (ccells g ad w)) (EN below args s g (ccells g ad w) (ccells g ad rr) none) g 7 (ccells g ad z42_q) 0 0 81 [(0, .ref (ad 64)), (5, .int (gC_putIns w))] []) ?_ 5000 (w38, 0) z42 hlz42 ?_
    · intro s42 rL hf hin hout
      unfold X1_recordPutIn_L42 at hf
      refine v_iload hG 4 rfl dX1_recordPutIn_42 ?_
      refine v_aload_n hG 0 rfl rfl dX1_recordPutIn_44 ?_
      refine c_g_64_1 hG wk_304 dX1_recordPutIn_45 ?_
      refine c_g_22_7 hG wk_162 dX1_recordPutIn_48 ?_
      refine v_icmp_ge hG 81 dX1_recordPutIn_51 rfl hf (fun hf => ?_) (fun hf => ?_)
      · refine v_sub [(0, _), (5, _)] [0, 3] rfl ?_
        exact hout _ (Option.some.inj hf).symm
      · refine v_aload_n hG 0 rfl rfl dX1_recordPutIn_54 ?_
        refine c_g_64_0 hG wk_303 dX1_recordPutIn_55 ?_
        refine c_g_21_10 hG wk_250 dX1_recordPutIn_58 ?_
        refine v_iload hG 3 rfl dX1_recordPutIn_61 ?_
        refine c_o_49 hG dX1_recordPutIn_63 hf (fun hi63 hf => ?_)
        refine v_iload hG 4 rfl dX1_recordPutIn_64 ?_
        refine v_aload_n hG 0 rfl rfl dX1_recordPutIn_66 ?_
        refine v_iload_n hG 1 rfl rfl dX1_recordPutIn_67 ?_
        refine v_iload_n hG 2 rfl rfl dX1_recordPutIn_68 ?_
        refine v_iload hG 4 rfl dX1_recordPutIn_69 ?_
        obtain ⟨r71, hr71, hf⟩ := bd_some hf
        refine v_callV hG (st := [.int s42.2, .ref (ad (50 + (gC_putIns w).toNatClampNeg))]) 64 1 (ct_X1_factorOf l g ad s42.1 a0 a1 s42.2 r71 hr71) iw_X1_factorOf wk_745 rfl rfl ⟨rfl, rfl, Nat.le_of_ble_eq_true rfl, Nat.le_of_ble_eq_true rfl⟩ ⟨Nat.le_of_ble_eq_true rfl, Nat.le_of_ble_eq_true rfl⟩ rfl rfl (Nat.le_of_ble_eq_true rfl) (ccells_fst _ _ _ _) dX1_recordPutIn_71 ?_
        refine (show V p l e (k2_rm 1 23) s m args below meth c (inW (ccells g ad w)) (EN below args s g (ccells g ad w) (ccells g ad rr) none) g 7 (ccells g ad s42.1) 0 0 74 [(0, .ref (ad 64)), (1, .int a0), (2, .int a1), (5, .int (gC_putIns w)), (6, .int s42.2)] [.long r71, .int s42.2, .ref (ad (50 + (gC_putIns w).toNatClampNeg))] from ?_)
        refine c_rs_49 hG hi63 dX1_recordPutIn_74 hf (fun w74 hf => ?_)
        refine v_iinc hG 4 (v := s42.2 + 1) [(6, _), (0, _), (1, _), (2, _), (5, _)] dX1_recordPutIn_75 rfl rfl (by decide) rfl ?_
        refine v_goto hG 42 dX1_recordPutIn_78 rfl ?_
        refine v_sub [(0, _), (1, _), (2, _), (5, _), (6, _)] [1, 2, 3, 4, 0] rfl ?_
        exact hin _ (Option.some.inj hf).symm
    · show V p l e (k2_rm 1 23) s m args below meth c (inW (ccells g ad w)) (EN below args s g (ccells g ad w) (ccells g ad rr) none) g 7 (ccells g ad z42) 0 0 81 [(0, .ref (ad 64)), (5, .int (gC_putIns w))] []
      refine v_aload_n hG 0 rfl rfl dX1_recordPutIn_81 ?_
      refine c_g_64_0 hG wk_303 dX1_recordPutIn_82 ?_
      refine v_iload hG 1 rfl dX1_recordPutIn_85 ?_
      refine v_iconst hG (v := 1) (by decide) dX1_recordPutIn_87 ?_
      refine v_iadd hG dX1_recordPutIn_88 ?_
      refine c_p_21_11 hG wk_252 dX1_recordPutIn_89 hf (fun w89 hf => ?_)
      cases hf
      exact v_vret hG hr dX1_recordPutIn_92
  · cases hf
    exact v_vret hG hr dX1_recordPutIn_16
def X1_putInRow_L16 (w : CW) (a0 : Int32) (a1 : Int32) (a2 : Int32) (s16 : CW × Int32) : Option ((CW × Int32) ⊕ ((CW))) := (if (gT_columns (gC_tab s16.1)) ≤ s16.2 then (some (.inr s16.1)) else (if inR a2 12 = true then (if inR s16.2 12 = true then ((X1_factorOf s16.1 a0 a1 s16.2).bind (fun r48 : Int64 => (if inR s16.2 12 = true then (bnd (sC_tab s16.1 (sT_a (gC_tab s16.1) (va_up (gT_a (gC_tab s16.1)) a2.toNatClampNeg (vp_updL ((gT_a (gC_tab s16.1)) a2.toNatClampNeg) s16.2.toNatClampNeg (((gT_a (gC_tab s16.1)) a2.toNatClampNeg s16.2.toNatClampNeg) + (((gT_a (gC_tab w)) a2.toNatClampNeg a1.toNatClampNeg) * r48)))))) (fun w53 : CW => (some (.inl (w53, (s16.2 + 1)))))) else none))) else none) else none))
def X1_putInRow (w : CW) (a0 : Int32) (a1 : Int32) (a2 : Int32) : Option (CW) := (if inR a2 12 = true then (if inR a1 12 = true then ((iter (X1_putInRow_L16 w a0 a1 a2) 5000 (w, 0)).bind (fun z16 : (CW) => (if inR a2 12 = true then (if inR a1 12 = true then (bnd (sC_tab z16 (sT_a (gC_tab z16) (va_up (gT_a (gC_tab z16)) a2.toNatClampNeg (vp_updL ((gT_a (gC_tab z16)) a2.toNatClampNeg) a1.toNatClampNeg 0)))) (fun w71 : CW => (if inR a2 12 = true then (if inR a0 12 = true then (if inR a1 12 = true then (if inR a0 12 = true then (if inR a2 12 = true then (bnd (sC_tab w71 (sT_right (gC_tab w71) (vp_updL (gT_right (gC_tab w71)) a2.toNatClampNeg (((gT_right (gC_tab w71)) a2.toNatClampNeg) - ((((gT_a (gC_tab w)) a2.toNatClampNeg a1.toNatClampNeg) * ((gT_a (gC_tab w71)) a0.toNatClampNeg a1.toNatClampNeg)) * ((gT_right (gC_tab w71)) a0.toNatClampNeg)))))) (fun w107 : CW => (if inR a2 12 = true then (if inR a0 12 = true then (if inR a2 12 = true then (bnd (sC_rowRest w107 (upd (gC_rowRest w107) a2.toNatClampNeg (((gC_rowRest w107) a2.toNatClampNeg) ||| ((gC_rowRest w107) a0.toNatClampNeg)))) (fun w128 : CW => (some w128))) else none) else none) else none))) else none) else none) else none) else none) else none))) else none) else none))) else none) else none)
set_option maxRecDepth 100000 in
set_option maxHeartbeats 4000000 in
theorem ct_X1_putInRow (l : Launch) (g : wG) (ad : Nat → Nat) (w : CW) (a0 : Int32) (a1 : Int32) (a2 : Int32) (rr : CW) (hf : X1_putInRow w a0 a1 a2 = some rr) : MetN l g yX1_putInRow cX1_putInRow 7 none (k2_rm 1 23) [.ref (ad 64), .int a0, .int a1, .int a2] (ccells g ad w) (ccells g ad rr) none := by
  refine MetN.of2 [(0, .ref (ad 64)), (1, .int a0), (2, .int a1), (3, .int a2)] rfl (by decide +kernel) (Nat.le_of_ble_eq_true rfl) ?_
  intro p e s m args below meth c hG hr
  unfold X1_putInRow at hf
  refine v_aload_n hG 0 rfl rfl dX1_putInRow_0 ?_
  refine c_g_64_1 hG wk_304 dX1_putInRow_1 ?_
  refine c_g_22_6 hG wk_149 dX1_putInRow_4 ?_
  refine v_iload_n hG 3 rfl rfl dX1_putInRow_7 ?_
  refine c_o_29 hG dX1_putInRow_8 hf (fun hi8 hf => ?_)
  refine v_iload_n hG 2 rfl rfl dX1_putInRow_9 ?_
  refine c_rl_29 hG hi8 dX1_putInRow_10 hf (fun hf => ?_)
  refine v_lstore hG [(4, _), (0, _), (1, _), (2, _), (3, _)] dX1_putInRow_11 (by decide) rfl ?_
  refine v_iconst hG (v := 0) (by decide) dX1_putInRow_13 ?_
  refine v_istore hG [(6, _), (4, _), (0, _), (1, _), (2, _), (3, _)] dX1_putInRow_14 (by decide) rfl ?_
  refine v_sub [(0, _), (1, _), (2, _), (3, _), (4, _), (6, _)] [2, 3, 4, 5, 1, 0] rfl ?_
  obtain ⟨z16, hlz16, hf⟩ := bd_some hf
  refine loop_v (step := X1_putInRow_L16 w a0 a1 a2) (fun s16 : CW × Int32 => V p l e (k2_rm 1 23) s m args below meth c (inW (ccells g ad w)) (EN below args s g (ccells g ad w) (ccells g ad rr) none) g 7 (ccells g ad s16.1) 0 0 16 [(0, .ref (ad 64)), (1, .int a0), (2, .int a1), (3, .int a2), (4, .long ((gT_a (gC_tab w)) a2.toNatClampNeg a1.toNatClampNeg)), (6, .int s16.2)] []) (fun z16_q : (CW) => V p l e (k2_rm 1 23) s m args below meth c (inW (ccells g ad w)) (EN below args s g (ccells g ad w) (ccells g ad rr) none) g 7 (ccells g ad z16_q) 0 0 60 [(0, .ref (ad 64)), (1, .int a0), (2, .int a1), (3, .int a2), (4, .long ((gT_a (gC_tab w)) a2.toNatClampNeg a1.toNatClampNeg))] []) ?_ 5000 (w, 0) z16 hlz16 ?_
  · intro s16 rL hf hin hout
    unfold X1_putInRow_L16 at hf
    refine v_iload hG 5 rfl dX1_putInRow_16 ?_
    refine v_aload_n hG 0 rfl rfl dX1_putInRow_18 ?_
    refine c_g_64_1 hG wk_304 dX1_putInRow_19 ?_
    refine c_g_22_7 hG wk_162 dX1_putInRow_22 ?_
    refine v_icmp_ge hG 60 dX1_putInRow_25 rfl hf (fun hf => ?_) (fun hf => ?_)
    · refine v_sub [(0, _), (1, _), (2, _), (3, _), (4, _)] [0, 1, 2, 3, 4] rfl ?_
      exact hout _ (Option.some.inj hf).symm
    · refine v_aload_n hG 0 rfl rfl dX1_putInRow_28 ?_
      refine c_g_64_1 hG wk_304 dX1_putInRow_29 ?_
      refine c_g_22_6 hG wk_149 dX1_putInRow_32 ?_
      refine v_iload_n hG 3 rfl rfl dX1_putInRow_35 ?_
      refine c_o_29 hG dX1_putInRow_36 hf (fun hi36 hf => ?_)
      refine v_iload hG 5 rfl dX1_putInRow_37 ?_
      refine v_dup2 hG rfl rfl dX1_putInRow_39 ?_
      refine c_rl_29 hG hi36 dX1_putInRow_40 hf (fun hf => ?_)
      refine v_lload hG 4 rfl dX1_putInRow_41 ?_
      refine v_aload_n hG 0 rfl rfl dX1_putInRow_43 ?_
      refine v_iload_n hG 1 rfl rfl dX1_putInRow_44 ?_
      refine v_iload_n hG 2 rfl rfl dX1_putInRow_45 ?_
      refine v_iload hG 5 rfl dX1_putInRow_46 ?_
      obtain ⟨r48, hr48, hf⟩ := bd_some hf
      refine v_callV hG (st := [.long ((gT_a (gC_tab w)) a2.toNatClampNeg a1.toNatClampNeg), .long ((gT_a (gC_tab s16.1)) a2.toNatClampNeg s16.2.toNatClampNeg), .int s16.2, .ref (ad (30 + a2.toNatClampNeg))]) 64 1 (ct_X1_factorOf l g ad s16.1 a0 a1 s16.2 r48 hr48) iw_X1_factorOf wk_745 rfl rfl ⟨rfl, rfl, Nat.le_of_ble_eq_true rfl, Nat.le_of_ble_eq_true rfl⟩ ⟨Nat.le_of_ble_eq_true rfl, Nat.le_of_ble_eq_true rfl⟩ rfl rfl (Nat.le_of_ble_eq_true rfl) (ccells_fst _ _ _ _) dX1_putInRow_48 ?_
      refine (show V p l e (k2_rm 1 23) s m args below meth c (inW (ccells g ad w)) (EN below args s g (ccells g ad w) (ccells g ad rr) none) g 7 (ccells g ad s16.1) 0 0 51 [(0, .ref (ad 64)), (1, .int a0), (2, .int a1), (3, .int a2), (4, .long ((gT_a (gC_tab w)) a2.toNatClampNeg a1.toNatClampNeg)), (6, .int s16.2)] [.long r48, .long ((gT_a (gC_tab w)) a2.toNatClampNeg a1.toNatClampNeg), .long ((gT_a (gC_tab s16.1)) a2.toNatClampNeg s16.2.toNatClampNeg), .int s16.2, .ref (ad (30 + a2.toNatClampNeg))] from ?_)
      refine v_lmul hG dX1_putInRow_51 ?_
      refine v_ladd hG dX1_putInRow_52 ?_
      refine c_rs_29 hG hi36 dX1_putInRow_53 hf (fun w53 hf => ?_)
      refine v_iinc hG 5 (v := s16.2 + 1) [(6, _), (0, _), (1, _), (2, _), (3, _), (4, _)] dX1_putInRow_54 rfl rfl (by decide) rfl ?_
      refine v_goto hG 16 dX1_putInRow_57 rfl ?_
      refine v_sub [(0, _), (1, _), (2, _), (3, _), (4, _), (6, _)] [1, 2, 3, 4, 5, 0] rfl ?_
      exact hin _ (Option.some.inj hf).symm
  · show V p l e (k2_rm 1 23) s m args below meth c (inW (ccells g ad w)) (EN below args s g (ccells g ad w) (ccells g ad rr) none) g 7 (ccells g ad z16) 0 0 60 [(0, .ref (ad 64)), (1, .int a0), (2, .int a1), (3, .int a2), (4, .long ((gT_a (gC_tab w)) a2.toNatClampNeg a1.toNatClampNeg))] []
    refine v_aload_n hG 0 rfl rfl dX1_putInRow_60 ?_
    refine c_g_64_1 hG wk_304 dX1_putInRow_61 ?_
    refine c_g_22_6 hG wk_149 dX1_putInRow_64 ?_
    refine v_iload_n hG 3 rfl rfl dX1_putInRow_67 ?_
    refine c_o_29 hG dX1_putInRow_68 hf (fun hi68 hf => ?_)
    refine v_iload_n hG 2 rfl rfl dX1_putInRow_69 ?_
    refine v_lconst hG (v := 0) (by decide) dX1_putInRow_70 ?_
    refine c_rs_29 hG hi68 dX1_putInRow_71 hf (fun w71 hf => ?_)
    refine v_aload_n hG 0 rfl rfl dX1_putInRow_72 ?_
    refine c_g_64_1 hG wk_304 dX1_putInRow_73 ?_
    refine c_g_22_5 hG wk_143 dX1_putInRow_76 ?_
    refine v_iload_n hG 3 rfl rfl dX1_putInRow_79 ?_
    refine v_dup2 hG rfl rfl dX1_putInRow_80 ?_
    refine c_l_28 hG dX1_putInRow_81 hf (fun hf => ?_)
    refine v_lload hG 4 rfl dX1_putInRow_82 ?_
    refine v_aload_n hG 0 rfl rfl dX1_putInRow_84 ?_
    refine c_g_64_1 hG wk_304 dX1_putInRow_85 ?_
    refine c_g_22_6 hG wk_149 dX1_putInRow_88 ?_
    refine v_iload_n hG 1 rfl rfl dX1_putInRow_91 ?_
    refine c_o_29 hG dX1_putInRow_92 hf (fun hi92 hf => ?_)
    refine v_iload_n hG 2 rfl rfl dX1_putInRow_93 ?_
    refine c_rl_29 hG hi92 dX1_putInRow_94 hf (fun hf => ?_)
    refine v_lmul hG dX1_putInRow_95 ?_
    refine v_aload_n hG 0 rfl rfl dX1_putInRow_96 ?_
    refine c_g_64_1 hG wk_304 dX1_putInRow_97 ?_
    refine c_g_22_5 hG wk_143 dX1_putInRow_100 ?_
    refine v_iload_n hG 1 rfl rfl dX1_putInRow_103 ?_
    refine c_l_28 hG dX1_putInRow_104 hf (fun hf => ?_)
    refine v_lmul hG dX1_putInRow_105 ?_
    refine v_lsub hG dX1_putInRow_106 ?_
    refine c_s_28 hG dX1_putInRow_107 hf (fun w107 hf => ?_)
    refine v_aload_n hG 0 rfl rfl dX1_putInRow_108 ?_
    refine c_g_64_0 hG wk_303 dX1_putInRow_109 ?_
    refine c_g_21_1 hG wk_224 dX1_putInRow_112 ?_
    refine v_iload_n hG 3 rfl rfl dX1_putInRow_115 ?_
    refine v_dup2 hG rfl rfl dX1_putInRow_116 ?_
    refine c_l_42 hG dX1_putInRow_117 hf (fun hf => ?_)
    refine v_aload_n hG 0 rfl rfl dX1_putInRow_118 ?_
    refine c_g_64_0 hG wk_303 dX1_putInRow_119 ?_
    refine c_g_21_1 hG wk_224 dX1_putInRow_122 ?_
    refine v_iload_n hG 1 rfl rfl dX1_putInRow_125 ?_
    refine c_l_42 hG dX1_putInRow_126 hf (fun hf => ?_)
    refine v_ior hG dX1_putInRow_127 ?_
    refine c_s_42 hG dX1_putInRow_128 hf (fun w128 hf => ?_)
    cases hf
    exact v_vret hG hr dX1_putInRow_129
def X1_putInFor_L32 (a0 : Int32) (a1 : Int32) (s32 : CW × Int32) : Option ((CW × Int32) ⊕ ((CW))) := (if (gT_columns (gC_tab s32.1)) ≤ s32.2 then (some (.inr s32.1)) else (if inR s32.2 12 = true then ((X1_factorOf s32.1 a0 a1 s32.2).bind (fun r60 : Int64 => (if inR a1 12 = true then (if inR s32.2 12 = true then (bnd (sC_tab s32.1 (sT_cost (gC_tab s32.1) (vp_updL (gT_cost (gC_tab s32.1)) s32.2.toNatClampNeg (((gT_cost (gC_tab s32.1)) s32.2.toNatClampNeg) + (r60 * ((gT_cost (gC_tab s32.1)) a1.toNatClampNeg)))))) (fun w74 : CW => (some (.inl (w74, (s32.2 + 1)))))) else none) else none))) else none))
def X1_putInFor_J162  (j162_0 : CW) (j162_1 : Int32) : Option ((CW × Int32) ⊕ ((CW))) := (some (.inl (j162_0, (j162_1 + 1))))
def X1_putInFor_L107 (a0 : Int32) (a1 : Int32) (s107 : CW × Int32) : Option ((CW × Int32) ⊕ ((CW))) := (if (gT_rows (gC_tab s107.1)) ≤ s107.2 then (some (.inr s107.1)) else (if s107.2 = a0 then (X1_putInFor_J162 s107.1 s107.2) else ((X6_isGone (gC_tab s107.1) s107.2).bind (fun r131 : Int32 => (if r131 = 0 then (if inR s107.2 12 = true then (if inR a1 12 = true then (if ((gT_a (gC_tab s107.1)) s107.2.toNatClampNeg a1.toNatClampNeg) = 0 then (X1_putInFor_J162 s107.1 s107.2) else ((X1_putInRow s107.1 a0 a1 s107.2).bind (fun r159 : CW => (X1_putInFor_J162 r159 s107.2)))) else none) else none) else (X1_putInFor_J162 s107.1 s107.2))))))
def X1_putInFor (w : CW) (a0 : Int32) (a1 : Int32) : Option (CW) := (if inR a0 12 = true then (if inR a1 12 = true then (if inR a0 12 = true then ((X1_recordPutIn w a0 a1 (((gT_a (gC_tab w)) a0.toNatClampNeg a1.toNatClampNeg) * ((gT_right (gC_tab w)) a0.toNatClampNeg))).bind (fun r26 : CW => ((iter (X1_putInFor_L32 a0 a1) 5000 (r26, 0)).bind (fun z32 : (CW) => (if inR a1 12 = true then (bnd (sC_offset z32 ((gC_offset z32) + ((((gT_a (gC_tab w)) a0.toNatClampNeg a1.toNatClampNeg) * ((gT_right (gC_tab w)) a0.toNatClampNeg)) * ((gT_cost (gC_tab z32)) a1.toNatClampNeg)))) (fun w101 : CW => ((iter (X1_putInFor_L107 a0 a1) 5000 (w101, 0)).bind (fun z107 : (CW) => (if inR a1 12 = true then (bnd (sC_tab z107 (sT_state (gC_tab z107) (upd (gT_state (gC_tab z107)) a1.toNatClampNeg 2))) (fun w177 : CW => (if inR a0 12 = true then (bnd (sC_tab w177 (sT_kind (gC_tab w177) (upd (gT_kind (gC_tab w177)) a0.toNatClampNeg (-1)))) (fun w187 : CW => ((X0_note w187 (gC_rule w187) a0 a1 5 (((gT_a (gC_tab w)) a0.toNatClampNeg a1.toNatClampNeg) * ((gT_right (gC_tab w)) a0.toNatClampNeg))).bind (fun r206 : CW => (some r206))))) else none))) else none))))) else none))))) else none) else none) else none)
set_option maxRecDepth 100000 in
set_option maxHeartbeats 4000000 in
theorem ct_X1_putInFor (l : Launch) (g : wG) (ad : Nat → Nat) (w : CW) (a0 : Int32) (a1 : Int32) (rr : CW) (hf : X1_putInFor w a0 a1 = some rr) : MetN l g yX1_putInFor cX1_putInFor 6 none (k2_rm 2 49) [.ref (ad 64), .int a0, .int a1] (ccells g ad w) (ccells g ad rr) none := by
  refine MetN.of2 [(0, .ref (ad 64)), (1, .int a0), (2, .int a1)] rfl (by decide +kernel) (Nat.le_of_ble_eq_true rfl) ?_
  intro p e s m args below meth c hG hr
  unfold X1_putInFor at hf
  refine v_aload_n hG 0 rfl rfl dX1_putInFor_0 ?_
  refine c_g_64_1 hG wk_304 dX1_putInFor_1 ?_
  refine c_g_22_6 hG wk_149 dX1_putInFor_4 ?_
  refine v_iload_n hG 1 rfl rfl dX1_putInFor_7 ?_
  refine c_o_29 hG dX1_putInFor_8 hf (fun hi8 hf => ?_)
  refine v_iload_n hG 2 rfl rfl dX1_putInFor_9 ?_
  refine c_rl_29 hG hi8 dX1_putInFor_10 hf (fun hf => ?_)
  refine v_aload_n hG 0 rfl rfl dX1_putInFor_11 ?_
  refine c_g_64_1 hG wk_304 dX1_putInFor_12 ?_
  refine c_g_22_5 hG wk_143 dX1_putInFor_15 ?_
  refine v_iload_n hG 1 rfl rfl dX1_putInFor_18 ?_
  refine c_l_28 hG dX1_putInFor_19 hf (fun hf => ?_)
  refine v_lmul hG dX1_putInFor_20 ?_
  refine v_lstore_n hG [(3, _), (0, _), (1, _), (2, _)] dX1_putInFor_21 rfl (by decide) rfl ?_
  refine v_aload_n hG 1 rfl rfl dX1_putInFor_22 ?_
  refine v_iload_n hG 2 rfl rfl dX1_putInFor_23 ?_
  refine v_iload_n hG 3 rfl rfl dX1_putInFor_24 ?_
  refine v_lload_n hG 0 rfl rfl dX1_putInFor_25 ?_
  obtain ⟨r26, hr26, hf⟩ := bd_some hf
  refine v_callV hG (st := []) 64 1 (ct_X1_recordPutIn l g ad w a0 a1 (((gT_a (gC_tab w)) a0.toNatClampNeg a1.toNatClampNeg) * ((gT_right (gC_tab w)) a0.toNatClampNeg)) r26 hr26) iw_X1_recordPutIn wk_759 rfl rfl ⟨rfl, rfl, Nat.le_of_ble_eq_true rfl, Nat.le_of_ble_eq_true rfl⟩ ⟨Nat.le_of_ble_eq_true rfl, Nat.le_of_ble_eq_true rfl⟩ rfl rfl (Nat.le_of_ble_eq_true rfl) (ccells_fst _ _ _ _) dX1_putInFor_26 ?_
  refine (show V p l e (k2_rm 2 49) s m args below meth c (inW (ccells g ad w)) (EN below args s g (ccells g ad w) (ccells g ad rr) none) g 6 (ccells g ad r26) 0 0 29 [(3, .long (((gT_a (gC_tab w)) a0.toNatClampNeg a1.toNatClampNeg) * ((gT_right (gC_tab w)) a0.toNatClampNeg))), (0, .ref (ad 64)), (1, .int a0), (2, .int a1)] [] from ?_)
  refine v_iconst hG (v := 0) (by decide) dX1_putInFor_29 ?_
  refine v_istore hG [(5, _), (3, _), (0, _), (1, _), (2, _)] dX1_putInFor_30 (by decide) rfl ?_
  refine v_sub [(0, _), (1, _), (2, _), (3, _), (5, _)] [2, 3, 4, 1, 0] rfl ?_
  obtain ⟨z32, hlz32, hf⟩ := bd_some hf
  refine loop_v (step := X1_putInFor_L32 a0 a1) (fun s32 : CW × Int32 => V p l e (k2_rm 2 49) s m args below meth c (inW (ccells g ad w)) (EN below args s g (ccells g ad w) (ccells g ad rr) none) g 6 (ccells g ad s32.1) 0 0 32 [(0, .ref (ad 64)), (1, .int a0), (2, .int a1), (3, .long (((gT_a (gC_tab w)) a0.toNatClampNeg a1.toNatClampNeg) * ((gT_right (gC_tab w)) a0.toNatClampNeg))), (5, .int s32.2)] []) (fun z32_q : (CW) => V p l e (k2_rm 2 49) s m args below meth c (inW (ccells g ad w)) (EN below args s g (ccells g ad w) (ccells g ad rr) none) g 6 (ccells g ad z32_q) 0 0 81 [(0, .ref (ad 64)), (1, .int a0), (2, .int a1), (3, .long (((gT_a (gC_tab w)) a0.toNatClampNeg a1.toNatClampNeg) * ((gT_right (gC_tab w)) a0.toNatClampNeg)))] []) ?_ 5000 (r26, 0) z32 hlz32 ?_
  · intro s32 rL hf hin hout
    unfold X1_putInFor_L32 at hf
    refine v_iload hG 4 rfl dX1_putInFor_32 ?_
    refine v_aload_n hG 0 rfl rfl dX1_putInFor_34 ?_
    refine c_g_64_1 hG wk_304 dX1_putInFor_35 ?_
    refine c_g_22_7 hG wk_162 dX1_putInFor_38 ?_
    refine v_icmp_ge hG 81 dX1_putInFor_41 rfl hf (fun hf => ?_) (fun hf => ?_)
    · refine v_sub [(0, _), (1, _), (2, _), (3, _)] [0, 1, 2, 3] rfl ?_
      exact hout _ (Option.some.inj hf).symm
    · refine v_aload_n hG 0 rfl rfl dX1_putInFor_44 ?_
      refine c_g_64_1 hG wk_304 dX1_putInFor_45 ?_
      refine c_g_22_2 hG wk_131 dX1_putInFor_48 ?_
      refine v_iload hG 4 rfl dX1_putInFor_51 ?_
      refine v_dup2 hG rfl rfl dX1_putInFor_53 ?_
      refine c_l_25 hG dX1_putInFor_54 hf (fun hf => ?_)
      refine v_aload_n hG 0 rfl rfl dX1_putInFor_55 ?_
      refine v_iload_n hG 1 rfl rfl dX1_putInFor_56 ?_
      refine v_iload_n hG 2 rfl rfl dX1_putInFor_57 ?_
      refine v_iload hG 4 rfl dX1_putInFor_58 ?_
      obtain ⟨r60, hr60, hf⟩ := bd_some hf
      refine v_callV hG (st := [.long ((gT_cost (gC_tab s32.1)) s32.2.toNatClampNeg), .int s32.2, .ref (ad 25)]) 64 1 (ct_X1_factorOf l g ad s32.1 a0 a1 s32.2 r60 hr60) iw_X1_factorOf wk_745 rfl rfl ⟨rfl, rfl, Nat.le_of_ble_eq_true rfl, Nat.le_of_ble_eq_true rfl⟩ ⟨Nat.le_of_ble_eq_true rfl, Nat.le_of_ble_eq_true rfl⟩ rfl rfl (Nat.le_of_ble_eq_true rfl) (ccells_fst _ _ _ _) dX1_putInFor_60 ?_
      refine (show V p l e (k2_rm 2 49) s m args below meth c (inW (ccells g ad w)) (EN below args s g (ccells g ad w) (ccells g ad rr) none) g 6 (ccells g ad s32.1) 0 0 63 [(0, .ref (ad 64)), (1, .int a0), (2, .int a1), (3, .long (((gT_a (gC_tab w)) a0.toNatClampNeg a1.toNatClampNeg) * ((gT_right (gC_tab w)) a0.toNatClampNeg))), (5, .int s32.2)] [.long r60, .long ((gT_cost (gC_tab s32.1)) s32.2.toNatClampNeg), .int s32.2, .ref (ad 25)] from ?_)
      refine v_aload_n hG 0 rfl rfl dX1_putInFor_63 ?_
      refine c_g_64_1 hG wk_304 dX1_putInFor_64 ?_
      refine c_g_22_2 hG wk_131 dX1_putInFor_67 ?_
      refine v_iload_n hG 2 rfl rfl dX1_putInFor_70 ?_
      refine c_l_25 hG dX1_putInFor_71 hf (fun hf => ?_)
      refine v_lmul hG dX1_putInFor_72 ?_
      refine v_ladd hG dX1_putInFor_73 ?_
      refine c_s_25 hG dX1_putInFor_74 hf (fun w74 hf => ?_)
      refine v_iinc hG 4 (v := s32.2 + 1) [(5, _), (0, _), (1, _), (2, _), (3, _)] dX1_putInFor_75 rfl rfl (by decide) rfl ?_
      refine v_goto hG 32 dX1_putInFor_78 rfl ?_
      refine v_sub [(0, _), (1, _), (2, _), (3, _), (5, _)] [1, 2, 3, 4, 0] rfl ?_
      exact hin _ (Option.some.inj hf).symm
  · show V p l e (k2_rm 2 49) s m args below meth c (inW (ccells g ad w)) (EN below args s g (ccells g ad w) (ccells g ad rr) none) g 6 (ccells g ad z32) 0 0 81 [(0, .ref (ad 64)), (1, .int a0), (2, .int a1), (3, .long (((gT_a (gC_tab w)) a0.toNatClampNeg a1.toNatClampNeg) * ((gT_right (gC_tab w)) a0.toNatClampNeg)))] []
    refine v_aload_n hG 0 rfl rfl dX1_putInFor_81 ?_
    refine c_g_64_0 hG wk_303 dX1_putInFor_82 ?_
    refine v_dup hG rfl dX1_putInFor_85 ?_
    refine c_g_21_5 hG wk_238 dX1_putInFor_86 ?_
    refine v_lload_n hG 3 rfl rfl dX1_putInFor_89 ?_
    refine v_aload_n hG 0 rfl rfl dX1_putInFor_90 ?_
    refine c_g_64_1 hG wk_304 dX1_putInFor_91 ?_
    refine c_g_22_2 hG wk_131 dX1_putInFor_94 ?_
    refine v_iload_n hG 2 rfl rfl dX1_putInFor_97 ?_
    refine c_l_25 hG dX1_putInFor_98 hf (fun hf => ?_)
    refine v_lmul hG dX1_putInFor_99 ?_
    refine v_ladd hG dX1_putInFor_100 ?_
    refine c_p_21_5 hG wk_238 dX1_putInFor_101 hf (fun w101 hf => ?_)
    refine v_iconst hG (v := 0) (by decide) dX1_putInFor_104 ?_
    refine v_istore hG [(5, _), (0, _), (1, _), (2, _), (3, _)] dX1_putInFor_105 (by decide) rfl ?_
    refine v_sub [(0, _), (1, _), (2, _), (3, _), (5, _)] [1, 2, 3, 4, 0] rfl ?_
    obtain ⟨z107, hlz107, hf⟩ := bd_some hf
    refine loop_v (step := X1_putInFor_L107 a0 a1) (fun s107 : CW × Int32 => V p l e (k2_rm 2 49) s m args below meth c (inW (ccells g ad w)) (EN below args s g (ccells g ad w) (ccells g ad rr) none) g 6 (ccells g ad s107.1) 0 0 107 [(0, .ref (ad 64)), (1, .int a0), (2, .int a1), (3, .long (((gT_a (gC_tab w)) a0.toNatClampNeg a1.toNatClampNeg) * ((gT_right (gC_tab w)) a0.toNatClampNeg))), (5, .int s107.2)] []) (fun z107_q : (CW) => V p l e (k2_rm 2 49) s m args below meth c (inW (ccells g ad w)) (EN below args s g (ccells g ad w) (ccells g ad rr) none) g 6 (ccells g ad z107_q) 0 0 168 [(0, .ref (ad 64)), (1, .int a0), (2, .int a1), (3, .long (((gT_a (gC_tab w)) a0.toNatClampNeg a1.toNatClampNeg) * ((gT_right (gC_tab w)) a0.toNatClampNeg)))] []) ?_ 5000 (w101, 0) z107 hlz107 ?_
    · intro s107 rL hf hin hout
      unfold X1_putInFor_L107 at hf
      have j162 : ∀ (j162_0 : CW) (j162_1 : Int32), X1_putInFor_J162 j162_0 j162_1 = some rL → V p l e (k2_rm 2 49) s m args below meth c (inW (ccells g ad w)) (EN below args s g (ccells g ad w) (ccells g ad rr) none) g 6 (ccells g ad j162_0) 0 0 162 [(0, .ref (ad 64)), (1, .int a0), (2, .int a1), (3, .long (((gT_a (gC_tab w)) a0.toNatClampNeg a1.toNatClampNeg) * ((gT_right (gC_tab w)) a0.toNatClampNeg))), (5, .int j162_1)] [] := by
        intro j162_0 j162_1 hf
        unfold X1_putInFor_J162 at hf
        refine v_iinc hG 4 (v := j162_1 + 1) [(5, _), (0, _), (1, _), (2, _), (3, _)] dX1_putInFor_162 rfl rfl (by decide) rfl ?_
        refine v_goto hG 107 dX1_putInFor_165 rfl ?_
        refine v_sub [(0, _), (1, _), (2, _), (3, _), (5, _)] [1, 2, 3, 4, 0] rfl ?_
        exact hin _ (Option.some.inj hf).symm
      refine v_iload hG 4 rfl dX1_putInFor_107 ?_
      refine v_aload_n hG 0 rfl rfl dX1_putInFor_109 ?_
      refine c_g_64_1 hG wk_304 dX1_putInFor_110 ?_
      refine c_g_22_8 hG wk_164 dX1_putInFor_113 ?_
      refine v_icmp_ge hG 168 dX1_putInFor_116 rfl hf (fun hf => ?_) (fun hf => ?_)
      · refine v_sub [(0, _), (1, _), (2, _), (3, _)] [0, 1, 2, 3] rfl ?_
        exact hout _ (Option.some.inj hf).symm
      · refine v_iload hG 4 rfl dX1_putInFor_119 ?_
        refine v_iload_n hG 1 rfl rfl dX1_putInFor_121 ?_
        refine v_icmp_eq hG 162 dX1_putInFor_122 rfl hf (fun hf => ?_) (fun hf => ?_)
        · exact j162 s107.1 s107.2 hf
        · refine v_aload_n hG 0 rfl rfl dX1_putInFor_125 ?_
          refine c_g_64_1 hG wk_304 dX1_putInFor_126 ?_
          refine v_iload hG 4 rfl dX1_putInFor_129 ?_
          obtain ⟨r131, hr131, hf⟩ := bd_some hf
          refine v_callV hG (st := []) 22 6 (ct_X6_isGone_s l g ad s107.1 s107.2 r131 hr131) iw_X6_isGone wk_693 rfl rfl ⟨rfl, rfl, Nat.le_of_ble_eq_true rfl, Nat.le_of_ble_eq_true rfl⟩ ⟨Nat.le_of_ble_eq_true rfl, Nat.le_of_ble_eq_true rfl⟩ rfl rfl (Nat.le_of_ble_eq_true rfl) (ccells_fst _ _ _ _) dX1_putInFor_131 ?_
          refine (show V p l e (k2_rm 2 49) s m args below meth c (inW (ccells g ad w)) (EN below args s g (ccells g ad w) (ccells g ad rr) none) g 6 (ccells g ad s107.1) 0 0 134 [(0, .ref (ad 64)), (1, .int a0), (2, .int a1), (3, .long (((gT_a (gC_tab w)) a0.toNatClampNeg a1.toNatClampNeg) * ((gT_right (gC_tab w)) a0.toNatClampNeg))), (5, .int s107.2)] [.int r131] from ?_)
          refine v_if_ne hG 162 dX1_putInFor_134 rfl hf (fun hf => ?_) (fun hf => ?_)
          · exact j162 s107.1 s107.2 hf
          · refine v_aload_n hG 0 rfl rfl dX1_putInFor_137 ?_
            refine c_g_64_1 hG wk_304 dX1_putInFor_138 ?_
            refine c_g_22_6 hG wk_149 dX1_putInFor_141 ?_
            refine v_iload hG 4 rfl dX1_putInFor_144 ?_
            refine c_o_29 hG dX1_putInFor_146 hf (fun hi146 hf => ?_)
            refine v_iload_n hG 2 rfl rfl dX1_putInFor_147 ?_
            refine c_rl_29 hG hi146 dX1_putInFor_148 hf (fun hf => ?_)
            refine v_lconst hG (v := 0) (by decide) dX1_putInFor_149 ?_
            refine v_lcmp_eq hG 162 dX1_putInFor_150 dX1_putInFor_151 rfl hf (fun hf => ?_) (fun hf => ?_)
            · exact j162 s107.1 s107.2 hf
            · refine v_aload_n hG 0 rfl rfl dX1_putInFor_154 ?_
              refine v_iload_n hG 1 rfl rfl dX1_putInFor_155 ?_
              refine v_iload_n hG 2 rfl rfl dX1_putInFor_156 ?_
              refine v_iload hG 4 rfl dX1_putInFor_157 ?_
              obtain ⟨r159, hr159, hf⟩ := bd_some hf
              refine v_callV hG (st := []) 64 1 (ct_X1_putInRow l g ad s107.1 a0 a1 s107.2 r159 hr159) iw_X1_putInRow wk_763 rfl rfl ⟨rfl, rfl, Nat.le_of_ble_eq_true rfl, Nat.le_of_ble_eq_true rfl⟩ ⟨Nat.le_of_ble_eq_true rfl, Nat.le_of_ble_eq_true rfl⟩ rfl rfl (Nat.le_of_ble_eq_true rfl) (ccells_fst _ _ _ _) dX1_putInFor_159 ?_
              refine (show V p l e (k2_rm 2 49) s m args below meth c (inW (ccells g ad w)) (EN below args s g (ccells g ad w) (ccells g ad rr) none) g 6 (ccells g ad r159) 0 0 162 [(0, .ref (ad 64)), (1, .int a0), (2, .int a1), (3, .long (((gT_a (gC_tab w)) a0.toNatClampNeg a1.toNatClampNeg) * ((gT_right (gC_tab w)) a0.toNatClampNeg))), (5, .int s107.2)] [] from ?_)
              exact j162 r159 s107.2 hf
    · show V p l e (k2_rm 2 49) s m args below meth c (inW (ccells g ad w)) (EN below args s g (ccells g ad w) (ccells g ad rr) none) g 6 (ccells g ad z107) 0 0 168 [(0, .ref (ad 64)), (1, .int a0), (2, .int a1), (3, .long (((gT_a (gC_tab w)) a0.toNatClampNeg a1.toNatClampNeg) * ((gT_right (gC_tab w)) a0.toNatClampNeg)))] []
      refine v_aload_n hG 0 rfl rfl dX1_putInFor_168 ?_
      refine c_g_64_1 hG wk_304 dX1_putInFor_169 ?_
      refine c_g_22_3 hG wk_135 dX1_putInFor_172 ?_
      refine v_iload_n hG 2 rfl rfl dX1_putInFor_175 ?_
      refine v_iconst hG (v := 2) (by decide) dX1_putInFor_176 ?_
      refine c_s_26 hG dX1_putInFor_177 hf (fun w177 hf => ?_)
      refine v_aload_n hG 0 rfl rfl dX1_putInFor_178 ?_
      refine c_g_64_1 hG wk_304 dX1_putInFor_179 ?_
      refine c_g_22_4 hG wk_140 dX1_putInFor_182 ?_
      refine v_iload_n hG 1 rfl rfl dX1_putInFor_185 ?_
      refine v_iconst hG (v := -1) (by decide) dX1_putInFor_186 ?_
      refine c_s_27 hG dX1_putInFor_187 hf (fun w187 hf => ?_)
      refine v_aload_n hG 0 rfl rfl dX1_putInFor_188 ?_
      refine c_g_64_0 hG wk_303 dX1_putInFor_189 ?_
      refine c_g_21_4 hG wk_235 dX1_putInFor_192 ?_
      refine v_aload_n hG 0 rfl rfl dX1_putInFor_195 ?_
      refine c_g_64_0 hG wk_303 dX1_putInFor_196 ?_
      refine c_g_21_7 hG wk_243 dX1_putInFor_199 ?_
      refine v_iload_n hG 1 rfl rfl dX1_putInFor_202 ?_
      refine v_iload_n hG 2 rfl rfl dX1_putInFor_203 ?_
      refine v_iconst hG (v := 5) (by decide) dX1_putInFor_204 ?_
      refine v_lload_n hG 3 rfl rfl dX1_putInFor_205 ?_
      obtain ⟨r206, hr206, hf⟩ := bd_some hf
      refine v_callV hG (st := []) 45 0 (ct_X0_note l g ad w187 (gC_rule w187) a0 a1 5 (((gT_a (gC_tab w)) a0.toNatClampNeg a1.toNatClampNeg) * ((gT_right (gC_tab w)) a0.toNatClampNeg)) r206 hr206) iw_X0_note wk_694 rfl rfl ⟨rfl, rfl, Nat.le_of_ble_eq_true rfl, Nat.le_of_ble_eq_true rfl⟩ ⟨Nat.le_of_ble_eq_true rfl, Nat.le_of_ble_eq_true rfl⟩ rfl rfl (Nat.le_of_ble_eq_true rfl) (ccells_fst _ _ _ _) dX1_putInFor_206 ?_
      refine (show V p l e (k2_rm 2 49) s m args below meth c (inW (ccells g ad w)) (EN below args s g (ccells g ad w) (ccells g ad rr) none) g 6 (ccells g ad r206) 0 0 209 [(0, .ref (ad 64)), (1, .int a0), (2, .int a1), (3, .long (((gT_a (gC_tab w)) a0.toNatClampNeg a1.toNatClampNeg) * ((gT_right (gC_tab w)) a0.toNatClampNeg)))] [] from ?_)
      cases hf
      exact v_vret hG hr dX1_putInFor_209
def X1_putIn_J239 (a0 : Int32) (j239_0 : CW) (j239_1 : Int32) (j239_2 : Int64) (j239_3 : Int64) (j239_4 : Int32) (j239_5 : Int32) (j239_6 : Int32) (j239_7 : Int32) : Option (Int32 × CW) := (if inR j239_1 12 = true then (if inR j239_1 12 = true then ((X5_narrow j239_0 j239_5 j239_6 j239_7 (((gT_high (gC_tab j239_0)) j239_1.toNatClampNeg) - j239_2) j239_3 (j239_4 ||| ((gC_highRest j239_0) j239_1.toNatClampNeg))).bind (fun r267 : Int32 × CW => (if r267.1 = 0 then (some (0, r267.2)) else ((X1_putInFor r267.2 a0 j239_1).bind (fun r279 : CW => (some (1, r279))))))) else none) else none)
def X1_putIn_J186 (a0 : Int32) (j186_0 : CW) (j186_1 : Int32) (j186_2 : Int32) (j186_3 : Int64) (j186_4 : Int64) (j186_5 : Int32) (j186_6 : Int32) (j186_7 : Int32) (j186_8 : Int32) : Option (Int32 × CW) := (if inR j186_1 12 = true then (if inR j186_1 12 = true then ((X5_narrow j186_0 j186_6 j186_7 j186_8 (((gT_low (gC_tab j186_0)) j186_1.toNatClampNeg) - j186_3) j186_4 (j186_5 ||| ((gC_lowRest j186_0) j186_1.toNatClampNeg))).bind (fun r214 : Int32 × CW => (if r214.1 = 0 then (some (0, r214.2)) else (if j186_4 ≤ 0 then (X1_putIn_J239 a0 r214.2 j186_1 j186_3 j186_4 j186_5 a0 j186_2 0) else (X1_putIn_J239 a0 r214.2 j186_1 j186_3 j186_4 j186_5 a0 j186_2 1))))) else none) else none)
def X1_putIn_J94 (a0 : Int32) (j94_0 : CW) (j94_1 : Int32) (j94_2 : Int32) : Option (Int32 × CW) := ((X6_isUnit (gC_tab j94_0) a0 j94_1).bind (fun r103 : Int32 => (if r103 = 0 then (some (1, j94_0)) else ((X1_staysWithin j94_0 a0 j94_1).bind (fun r113 : Int32 => (if r113 = 0 then (some (1, j94_0)) else (if inR a0 12 = true then (if inR j94_1 12 = true then (if inR a0 12 = true then ((X1_factorOf j94_0 a0 j94_1 j94_2).bind (fun r151 : Int64 => (if inR a0 12 = true then (if 0 ≤ r151 then (X1_putIn_J186 a0 j94_0 j94_1 j94_2 (((gT_a (gC_tab j94_0)) a0.toNatClampNeg j94_1.toNatClampNeg) * ((gT_right (gC_tab j94_0)) a0.toNatClampNeg)) r151 ((gC_rowRest j94_0) a0.toNatClampNeg) a0 j94_2 0) else (X1_putIn_J186 a0 j94_0 j94_1 j94_2 (((gT_a (gC_tab j94_0)) a0.toNatClampNeg j94_1.toNatClampNeg) * ((gT_right (gC_tab j94_0)) a0.toNatClampNeg)) r151 ((gC_rowRest j94_0) a0.toNatClampNeg) a0 j94_2 1)) else none))) else none) else none) else none)))))))
def X1_putIn_J81 (a0 : Int32) (j81_0 : CW) (j81_1 : Int32) (j81_2 : Int32) (j81_3 : Int32) : Option (Int32 × CW) := (if j81_3 = j81_2 then (X1_putIn_J94 a0 j81_0 j81_3 j81_1) else (X1_putIn_J94 a0 j81_0 j81_3 j81_2))
def X1_putIn (w : CW) (a0 : Int32) : Option (Int32 × CW) := ((X6_nextTerm (gC_tab w) a0 0).bind (fun r6 : Int32 => (if r6 = (-1) then (some (1, w)) else (if inR a0 12 = true then (if ((gT_kind (gC_tab w)) a0.toNatClampNeg) = 1 then ((X6_nextTerm (gC_tab w) a0 (r6 + 1)).bind (fun r38 : Int32 => (if r38 = (-1) then (some (1, w)) else ((X6_nextTerm (gC_tab w) a0 (r38 + 1)).bind (fun r55 : Int32 => (if r55 = (-1) then ((X6_isUnit (gC_tab w) a0 r38).bind (fun r70 : Int32 => (if r70 = 0 then (X1_putIn_J81 a0 w r6 r38 r6) else (X1_putIn_J81 a0 w r6 r38 r38)))) else (some (1, w)))))))) else (some (1, w))) else none))))
set_option maxRecDepth 100000 in
set_option maxHeartbeats 4000000 in
theorem ct_X1_putIn (l : Launch) (g : wG) (ad : Nat → Nat) (w : CW) (a0 : Int32) (rr : Int32 × CW) (hf : X1_putIn w a0 = some rr) : MetN l g yX1_putIn cX1_putIn 11 (some .boolean) (k2_rm 3 76) [.ref (ad 64), .int a0] (ccells g ad w) (ccells g ad rr.2) (some (.int rr.1)) := by
  refine MetN.of2 [(0, .ref (ad 64)), (1, .int a0)] rfl (by decide +kernel) (Nat.le_of_ble_eq_true rfl) ?_
  intro p e s m args below meth c hG hr
  unfold X1_putIn at hf
  have j239 : ∀ (j239_0 : CW) (j239_1 : Int32) (j239_2 : Int64) (j239_3 : Int64) (j239_4 : Int32) (j239_5 : Int32) (j239_6 : Int32) (j239_7 : Int32), X1_putIn_J239 a0 j239_0 j239_1 j239_2 j239_3 j239_4 j239_5 j239_6 j239_7 = some rr → V p l e (k2_rm 3 76) s m args below meth c (inW (ccells g ad w)) (EN below args s g (ccells g ad w) (ccells g ad rr.2) (some (.int rr.1))) g 11 (ccells g ad j239_0) 0 0 239 [(0, .ref (ad 64)), (1, .int a0), (4, .int j239_1), (6, .long j239_2), (8, .long j239_3), (10, .int j239_4)] [.int j239_7, .int j239_6, .int j239_5, .ref (ad 21)] := by
    intro j239_0 j239_1 j239_2 j239_3 j239_4 j239_5 j239_6 j239_7 hf
    unfold X1_putIn_J239 at hf
    refine v_aload_n hG 0 rfl rfl dX1_putIn_239 ?_
    refine c_g_64_1 hG wk_304 dX1_putIn_240 ?_
    refine c_g_22_1 hG wk_123 dX1_putIn_243 ?_
    refine v_iload hG 2 rfl dX1_putIn_246 ?_
    refine c_l_24 hG dX1_putIn_248 hf (fun hf => ?_)
    refine v_lload hG 3 rfl dX1_putIn_249 ?_
    refine v_lsub hG dX1_putIn_251 ?_
    refine v_lload hG 4 rfl dX1_putIn_252 ?_
    refine v_iload hG 5 rfl dX1_putIn_254 ?_
    refine v_aload_n hG 0 rfl rfl dX1_putIn_256 ?_
    refine c_g_64_0 hG wk_303 dX1_putIn_257 ?_
    refine c_g_21_3 hG wk_231 dX1_putIn_260 ?_
    refine v_iload hG 2 rfl dX1_putIn_263 ?_
    refine c_l_44 hG dX1_putIn_265 hf (fun hf => ?_)
    refine v_ior hG dX1_putIn_266 ?_
    obtain ⟨r267, hr267, hf⟩ := bd_some hf
    refine v_callV hG (st := []) 21 5 (ct_X5_narrow l g ad j239_0 j239_5 j239_6 j239_7 (((gT_high (gC_tab j239_0)) j239_1.toNatClampNeg) - j239_2) j239_3 (j239_4 ||| ((gC_highRest j239_0) j239_1.toNatClampNeg)) r267 hr267) iw_X5_narrow wk_728 rfl rfl ⟨rfl, rfl, Nat.le_of_ble_eq_true rfl, Nat.le_of_ble_eq_true rfl⟩ ⟨Nat.le_of_ble_eq_true rfl, Nat.le_of_ble_eq_true rfl⟩ rfl rfl (Nat.le_of_ble_eq_true rfl) (ccells_fst _ _ _ _) dX1_putIn_267 ?_
    refine (show V p l e (k2_rm 3 76) s m args below meth c (inW (ccells g ad w)) (EN below args s g (ccells g ad w) (ccells g ad rr.2) (some (.int rr.1))) g 11 (ccells g ad r267.2) 0 0 270 [(0, .ref (ad 64)), (1, .int a0), (4, .int j239_1), (6, .long j239_2), (8, .long j239_3), (10, .int j239_4)] [.int r267.1] from ?_)
    refine v_if_ne hG 275 dX1_putIn_270 rfl hf (fun hf => ?_) (fun hf => ?_)
    · refine v_aload_n hG 0 rfl rfl dX1_putIn_275 ?_
      refine v_iload_n hG 1 rfl rfl dX1_putIn_276 ?_
      refine v_iload hG 2 rfl dX1_putIn_277 ?_
      obtain ⟨r279, hr279, hf⟩ := bd_some hf
      refine v_callV hG (st := []) 64 1 (ct_X1_putInFor l g ad r267.2 a0 j239_1 r279 hr279) iw_X1_putInFor wk_755 rfl rfl ⟨rfl, rfl, Nat.le_of_ble_eq_true rfl, Nat.le_of_ble_eq_true rfl⟩ ⟨Nat.le_of_ble_eq_true rfl, Nat.le_of_ble_eq_true rfl⟩ rfl rfl (Nat.le_of_ble_eq_true rfl) (ccells_fst _ _ _ _) dX1_putIn_279 ?_
      refine (show V p l e (k2_rm 3 76) s m args below meth c (inW (ccells g ad w)) (EN below args s g (ccells g ad w) (ccells g ad rr.2) (some (.int rr.1))) g 11 (ccells g ad r279) 0 0 282 [(0, .ref (ad 64)), (1, .int a0), (4, .int j239_1), (6, .long j239_2), (8, .long j239_3), (10, .int j239_4)] [] from ?_)
      refine v_iconst hG (v := 1) (by decide) dX1_putIn_282 ?_
      cases hf
      exact v_zret (x := 1) hG hr rfl dX1_putIn_283
    · refine v_iconst hG (v := 0) (by decide) dX1_putIn_273 ?_
      cases hf
      exact v_zret (x := 0) hG hr rfl dX1_putIn_274
  have j186 : ∀ (j186_0 : CW) (j186_1 : Int32) (j186_2 : Int32) (j186_3 : Int64) (j186_4 : Int64) (j186_5 : Int32) (j186_6 : Int32) (j186_7 : Int32) (j186_8 : Int32), X1_putIn_J186 a0 j186_0 j186_1 j186_2 j186_3 j186_4 j186_5 j186_6 j186_7 j186_8 = some rr → V p l e (k2_rm 3 76) s m args below meth c (inW (ccells g ad w)) (EN below args s g (ccells g ad w) (ccells g ad rr.2) (some (.int rr.1))) g 11 (ccells g ad j186_0) 0 0 186 [(0, .ref (ad 64)), (1, .int a0), (4, .int j186_1), (5, .int j186_2), (6, .long j186_3), (8, .long j186_4), (10, .int j186_5)] [.int j186_8, .int j186_7, .int j186_6, .ref (ad 21)] := by
    intro j186_0 j186_1 j186_2 j186_3 j186_4 j186_5 j186_6 j186_7 j186_8 hf
    unfold X1_putIn_J186 at hf
    refine v_aload_n hG 0 rfl rfl dX1_putIn_186 ?_
    refine c_g_64_1 hG wk_304 dX1_putIn_187 ?_
    refine c_g_22_0 hG wk_116 dX1_putIn_190 ?_
    refine v_iload hG 2 rfl dX1_putIn_193 ?_
    refine c_l_23 hG dX1_putIn_195 hf (fun hf => ?_)
    refine v_lload hG 4 rfl dX1_putIn_196 ?_
    refine v_lsub hG dX1_putIn_198 ?_
    refine v_lload hG 5 rfl dX1_putIn_199 ?_
    refine v_iload hG 6 rfl dX1_putIn_201 ?_
    refine v_aload_n hG 0 rfl rfl dX1_putIn_203 ?_
    refine c_g_64_0 hG wk_303 dX1_putIn_204 ?_
    refine c_g_21_2 hG wk_227 dX1_putIn_207 ?_
    refine v_iload hG 2 rfl dX1_putIn_210 ?_
    refine c_l_43 hG dX1_putIn_212 hf (fun hf => ?_)
    refine v_ior hG dX1_putIn_213 ?_
    obtain ⟨r214, hr214, hf⟩ := bd_some hf
    refine v_callV hG (st := []) 21 5 (ct_X5_narrow l g ad j186_0 j186_6 j186_7 j186_8 (((gT_low (gC_tab j186_0)) j186_1.toNatClampNeg) - j186_3) j186_4 (j186_5 ||| ((gC_lowRest j186_0) j186_1.toNatClampNeg)) r214 hr214) iw_X5_narrow wk_728 rfl rfl ⟨rfl, rfl, Nat.le_of_ble_eq_true rfl, Nat.le_of_ble_eq_true rfl⟩ ⟨Nat.le_of_ble_eq_true rfl, Nat.le_of_ble_eq_true rfl⟩ rfl rfl (Nat.le_of_ble_eq_true rfl) (ccells_fst _ _ _ _) dX1_putIn_214 ?_
    refine (show V p l e (k2_rm 3 76) s m args below meth c (inW (ccells g ad w)) (EN below args s g (ccells g ad w) (ccells g ad rr.2) (some (.int rr.1))) g 11 (ccells g ad r214.2) 0 0 217 [(0, .ref (ad 64)), (1, .int a0), (4, .int j186_1), (5, .int j186_2), (6, .long j186_3), (8, .long j186_4), (10, .int j186_5)] [.int r214.1] from ?_)
    refine v_if_eq hG 273 dX1_putIn_217 rfl hf (fun hf => ?_) (fun hf => ?_)
    · refine v_iconst hG (v := 0) (by decide) dX1_putIn_273 ?_
      cases hf
      exact v_zret (x := 0) hG hr rfl dX1_putIn_274
    · refine v_aload_n hG 0 rfl rfl dX1_putIn_220 ?_
      refine c_g_64_0 hG wk_303 dX1_putIn_221 ?_
      refine v_iload_n hG 1 rfl rfl dX1_putIn_224 ?_
      refine v_iload hG 3 rfl dX1_putIn_225 ?_
      refine v_lload hG 5 rfl dX1_putIn_227 ?_
      refine v_lconst hG (v := 0) (by decide) dX1_putIn_229 ?_
      refine v_lcmp_le hG 238 dX1_putIn_230 dX1_putIn_231 rfl hf (fun hf => ?_) (fun hf => ?_)
      · refine v_iconst hG (v := 0) (by decide) dX1_putIn_238 ?_
        refine v_sub [(0, _), (1, _), (4, _), (6, _), (8, _), (10, _)] [0, 1, 2, 4, 5, 6] rfl ?_
        exact j239 r214.2 j186_1 j186_3 j186_4 j186_5 a0 j186_2 0 hf
      · refine v_iconst hG (v := 1) (by decide) dX1_putIn_234 ?_
        refine v_goto hG 239 dX1_putIn_235 rfl ?_
        refine v_sub [(0, _), (1, _), (4, _), (6, _), (8, _), (10, _)] [0, 1, 2, 4, 5, 6] rfl ?_
        exact j239 r214.2 j186_1 j186_3 j186_4 j186_5 a0 j186_2 1 hf
  have j94 : ∀ (j94_0 : CW) (j94_1 : Int32) (j94_2 : Int32), X1_putIn_J94 a0 j94_0 j94_1 j94_2 = some rr → V p l e (k2_rm 3 76) s m args below meth c (inW (ccells g ad w)) (EN below args s g (ccells g ad w) (ccells g ad rr.2) (some (.int rr.1))) g 11 (ccells g ad j94_0) 0 0 94 [(0, .ref (ad 64)), (1, .int a0), (4, .int j94_1)] [.int j94_2] := by
    intro j94_0 j94_1 j94_2 hf
    unfold X1_putIn_J94 at hf
    refine v_istore hG [(5, _), (0, _), (1, _), (4, _)] dX1_putIn_94 (by decide) rfl ?_
    refine v_aload_n hG 1 rfl rfl dX1_putIn_96 ?_
    refine c_g_64_1 hG wk_304 dX1_putIn_97 ?_
    refine v_iload_n hG 2 rfl rfl dX1_putIn_100 ?_
    refine v_iload hG 3 rfl dX1_putIn_101 ?_
    obtain ⟨r103, hr103, hf⟩ := bd_some hf
    refine v_callV hG (st := []) 22 6 (ct_X6_isUnit_s l g ad j94_0 a0 j94_1 r103 hr103) iw_X6_isUnit wk_734 rfl rfl ⟨rfl, rfl, Nat.le_of_ble_eq_true rfl, Nat.le_of_ble_eq_true rfl⟩ ⟨Nat.le_of_ble_eq_true rfl, Nat.le_of_ble_eq_true rfl⟩ rfl rfl (Nat.le_of_ble_eq_true rfl) (ccells_fst _ _ _ _) dX1_putIn_103 ?_
    refine (show V p l e (k2_rm 3 76) s m args below meth c (inW (ccells g ad w)) (EN below args s g (ccells g ad w) (ccells g ad rr.2) (some (.int rr.1))) g 11 (ccells g ad j94_0) 0 0 106 [(5, .int j94_2), (0, .ref (ad 64)), (1, .int a0), (4, .int j94_1)] [.int r103] from ?_)
    refine v_if_eq hG 119 dX1_putIn_106 rfl hf (fun hf => ?_) (fun hf => ?_)
    · refine v_iconst hG (v := 1) (by decide) dX1_putIn_119 ?_
      cases hf
      exact v_zret (x := 1) hG hr rfl dX1_putIn_120
    · refine v_aload_n hG 1 rfl rfl dX1_putIn_109 ?_
      refine v_iload_n hG 2 rfl rfl dX1_putIn_110 ?_
      refine v_iload hG 3 rfl dX1_putIn_111 ?_
      obtain ⟨r113, hr113, hf⟩ := bd_some hf
      refine v_callV hG (st := []) 64 1 (ct_X1_staysWithin l g ad j94_0 a0 j94_1 r113 hr113) iw_X1_staysWithin wk_739 rfl rfl ⟨rfl, rfl, Nat.le_of_ble_eq_true rfl, Nat.le_of_ble_eq_true rfl⟩ ⟨Nat.le_of_ble_eq_true rfl, Nat.le_of_ble_eq_true rfl⟩ rfl rfl (Nat.le_of_ble_eq_true rfl) (ccells_fst _ _ _ _) dX1_putIn_113 ?_
      refine (show V p l e (k2_rm 3 76) s m args below meth c (inW (ccells g ad w)) (EN below args s g (ccells g ad w) (ccells g ad rr.2) (some (.int rr.1))) g 11 (ccells g ad j94_0) 0 0 116 [(5, .int j94_2), (0, .ref (ad 64)), (1, .int a0), (4, .int j94_1)] [.int r113] from ?_)
      refine v_if_ne hG 121 dX1_putIn_116 rfl hf (fun hf => ?_) (fun hf => ?_)
      · refine v_aload_n hG 1 rfl rfl dX1_putIn_121 ?_
        refine c_g_64_1 hG wk_304 dX1_putIn_122 ?_
        refine c_g_22_6 hG wk_149 dX1_putIn_125 ?_
        refine v_iload_n hG 2 rfl rfl dX1_putIn_128 ?_
        refine c_o_29 hG dX1_putIn_129 hf (fun hi129 hf => ?_)
        refine v_iload hG 3 rfl dX1_putIn_130 ?_
        refine c_rl_29 hG hi129 dX1_putIn_132 hf (fun hf => ?_)
        refine v_aload_n hG 1 rfl rfl dX1_putIn_133 ?_
        refine c_g_64_1 hG wk_304 dX1_putIn_134 ?_
        refine c_g_22_5 hG wk_143 dX1_putIn_137 ?_
        refine v_iload_n hG 2 rfl rfl dX1_putIn_140 ?_
        refine c_l_28 hG dX1_putIn_141 hf (fun hf => ?_)
        refine v_lmul hG dX1_putIn_142 ?_
        refine v_lstore hG [(6, _), (5, _), (0, _), (1, _), (4, _)] dX1_putIn_143 (by decide) rfl ?_
        refine v_aload_n hG 2 rfl rfl dX1_putIn_145 ?_
        refine v_iload_n hG 3 rfl rfl dX1_putIn_146 ?_
        refine v_iload hG 4 rfl dX1_putIn_147 ?_
        refine v_iload hG 1 rfl dX1_putIn_149 ?_
        obtain ⟨r151, hr151, hf⟩ := bd_some hf
        refine v_callV hG (st := []) 64 1 (ct_X1_factorOf l g ad j94_0 a0 j94_1 j94_2 r151 hr151) iw_X1_factorOf wk_745 rfl rfl ⟨rfl, rfl, Nat.le_of_ble_eq_true rfl, Nat.le_of_ble_eq_true rfl⟩ ⟨Nat.le_of_ble_eq_true rfl, Nat.le_of_ble_eq_true rfl⟩ rfl rfl (Nat.le_of_ble_eq_true rfl) (ccells_fst _ _ _ _) dX1_putIn_151 ?_
        refine (show V p l e (k2_rm 3 76) s m args below meth c (inW (ccells g ad w)) (EN below args s g (ccells g ad w) (ccells g ad rr.2) (some (.int rr.1))) g 11 (ccells g ad j94_0) 0 0 154 [(6, .long (((gT_a (gC_tab j94_0)) a0.toNatClampNeg j94_1.toNatClampNeg) * ((gT_right (gC_tab j94_0)) a0.toNatClampNeg))), (5, .int j94_2), (0, .ref (ad 64)), (1, .int a0), (4, .int j94_1)] [.long r151] from ?_)
        refine v_lstore hG [(8, _), (6, _), (5, _), (0, _), (1, _), (4, _)] dX1_putIn_154 (by decide) rfl ?_
        refine v_aload_n hG 3 rfl rfl dX1_putIn_156 ?_
        refine c_g_64_0 hG wk_303 dX1_putIn_157 ?_
        refine c_g_21_1 hG wk_224 dX1_putIn_160 ?_
        refine v_iload_n hG 4 rfl rfl dX1_putIn_163 ?_
        refine c_l_42 hG dX1_putIn_164 hf (fun hf => ?_)
        refine v_istore hG [(10, _), (8, _), (6, _), (5, _), (0, _), (1, _), (4, _)] dX1_putIn_165 (by decide) rfl ?_
        refine v_aload_n hG 4 rfl rfl dX1_putIn_167 ?_
        refine c_g_64_0 hG wk_303 dX1_putIn_168 ?_
        refine v_iload_n hG 5 rfl rfl dX1_putIn_171 ?_
        refine v_iload hG 3 rfl dX1_putIn_172 ?_
        refine v_lload hG 1 rfl dX1_putIn_174 ?_
        refine v_lconst hG (v := 0) (by decide) dX1_putIn_176 ?_
        refine v_lcmp_ge hG 185 dX1_putIn_177 dX1_putIn_178 rfl hf (fun hf => ?_) (fun hf => ?_)
        · refine v_iconst hG (v := 0) (by decide) dX1_putIn_185 ?_
          refine v_sub [(0, _), (1, _), (4, _), (5, _), (6, _), (8, _), (10, _)] [4, 5, 6, 3, 2, 1, 0] rfl ?_
          exact j186 j94_0 j94_1 j94_2 (((gT_a (gC_tab j94_0)) a0.toNatClampNeg j94_1.toNatClampNeg) * ((gT_right (gC_tab j94_0)) a0.toNatClampNeg)) r151 ((gC_rowRest j94_0) a0.toNatClampNeg) a0 j94_2 0 hf
        · refine v_iconst hG (v := 1) (by decide) dX1_putIn_181 ?_
          refine v_goto hG 186 dX1_putIn_182 rfl ?_
          refine v_sub [(0, _), (1, _), (4, _), (5, _), (6, _), (8, _), (10, _)] [4, 5, 6, 3, 2, 1, 0] rfl ?_
          exact j186 j94_0 j94_1 j94_2 (((gT_a (gC_tab j94_0)) a0.toNatClampNeg j94_1.toNatClampNeg) * ((gT_right (gC_tab j94_0)) a0.toNatClampNeg)) r151 ((gC_rowRest j94_0) a0.toNatClampNeg) a0 j94_2 1 hf
      · refine v_iconst hG (v := 1) (by decide) dX1_putIn_119 ?_
        cases hf
        exact v_zret (x := 1) hG hr rfl dX1_putIn_120
  have j81 : ∀ (j81_0 : CW) (j81_1 : Int32) (j81_2 : Int32) (j81_3 : Int32), X1_putIn_J81 a0 j81_0 j81_1 j81_2 j81_3 = some rr → V p l e (k2_rm 3 76) s m args below meth c (inW (ccells g ad w)) (EN below args s g (ccells g ad w) (ccells g ad rr.2) (some (.int rr.1))) g 11 (ccells g ad j81_0) 0 0 81 [(0, .ref (ad 64)), (1, .int a0), (2, .int j81_1), (3, .int j81_2)] [.int j81_3] := by
    intro j81_0 j81_1 j81_2 j81_3 hf
    unfold X1_putIn_J81 at hf
    refine v_istore hG [(4, _), (0, _), (1, _), (2, _), (3, _)] dX1_putIn_81 (by decide) rfl ?_
    refine v_iload hG 0 rfl dX1_putIn_83 ?_
    refine v_iload_n hG 4 rfl rfl dX1_putIn_85 ?_
    refine v_icmp_ne hG 93 dX1_putIn_86 rfl hf (fun hf => ?_) (fun hf => ?_)
    · refine v_iload_n hG 4 rfl rfl dX1_putIn_93 ?_
      refine v_sub [(0, _), (1, _), (4, _)] [1, 2, 0] rfl ?_
      exact j94 j81_0 j81_3 j81_2 hf
    · refine v_iload_n hG 3 rfl rfl dX1_putIn_89 ?_
      refine v_goto hG 94 dX1_putIn_90 rfl ?_
      refine v_sub [(0, _), (1, _), (4, _)] [1, 2, 0] rfl ?_
      exact j94 j81_0 j81_3 j81_1 hf
  refine v_aload_n hG 0 rfl rfl dX1_putIn_0 ?_
  refine c_g_64_1 hG wk_304 dX1_putIn_1 ?_
  refine v_iload_n hG 1 rfl rfl dX1_putIn_4 ?_
  refine v_iconst hG (v := 0) (by decide) dX1_putIn_5 ?_
  obtain ⟨r6, hr6, hf⟩ := bd_some hf
  refine v_callV hG (st := []) 22 6 (ct_X6_nextTerm_s l g ad w a0 0 r6 hr6) iw_X6_nextTerm wk_733 rfl rfl ⟨rfl, rfl, Nat.le_of_ble_eq_true rfl, Nat.le_of_ble_eq_true rfl⟩ ⟨Nat.le_of_ble_eq_true rfl, Nat.le_of_ble_eq_true rfl⟩ rfl rfl (Nat.le_of_ble_eq_true rfl) (ccells_fst _ _ _ _) dX1_putIn_6 ?_
  refine (show V p l e (k2_rm 3 76) s m args below meth c (inW (ccells g ad w)) (EN below args s g (ccells g ad w) (ccells g ad rr.2) (some (.int rr.1))) g 11 (ccells g ad w) 0 0 9 [(0, .ref (ad 64)), (1, .int a0)] [.int r6] from ?_)
  refine v_istore_n hG [(2, _), (0, _), (1, _)] dX1_putIn_9 rfl (by decide) rfl ?_
  refine v_iload_n hG 0 rfl rfl dX1_putIn_10 ?_
  refine v_iconst hG (v := -1) (by decide) dX1_putIn_11 ?_
  refine v_icmp_eq hG 28 dX1_putIn_12 rfl hf (fun hf => ?_) (fun hf => ?_)
  · refine v_iconst hG (v := 1) (by decide) dX1_putIn_28 ?_
    cases hf
    exact v_zret (x := 1) hG hr rfl dX1_putIn_29
  · refine v_aload_n hG 1 rfl rfl dX1_putIn_15 ?_
    refine c_g_64_1 hG wk_304 dX1_putIn_16 ?_
    refine c_g_22_4 hG wk_140 dX1_putIn_19 ?_
    refine v_iload_n hG 2 rfl rfl dX1_putIn_22 ?_
    refine c_l_27 hG dX1_putIn_23 hf (fun hf => ?_)
    refine v_iconst hG (v := 1) (by decide) dX1_putIn_24 ?_
    refine v_icmp_eq hG 30 dX1_putIn_25 rfl hf (fun hf => ?_) (fun hf => ?_)
    · refine v_aload_n hG 1 rfl rfl dX1_putIn_30 ?_
      refine c_g_64_1 hG wk_304 dX1_putIn_31 ?_
      refine v_iload_n hG 2 rfl rfl dX1_putIn_34 ?_
      refine v_iload_n hG 0 rfl rfl dX1_putIn_35 ?_
      refine v_iconst hG (v := 1) (by decide) dX1_putIn_36 ?_
      refine v_iadd hG dX1_putIn_37 ?_
      obtain ⟨r38, hr38, hf⟩ := bd_some hf
      refine v_callV hG (st := []) 22 6 (ct_X6_nextTerm_s l g ad w a0 (r6 + 1) r38 hr38) iw_X6_nextTerm wk_733 rfl rfl ⟨rfl, rfl, Nat.le_of_ble_eq_true rfl, Nat.le_of_ble_eq_true rfl⟩ ⟨Nat.le_of_ble_eq_true rfl, Nat.le_of_ble_eq_true rfl⟩ rfl rfl (Nat.le_of_ble_eq_true rfl) (ccells_fst _ _ _ _) dX1_putIn_38 ?_
      refine (show V p l e (k2_rm 3 76) s m args below meth c (inW (ccells g ad w)) (EN below args s g (ccells g ad w) (ccells g ad rr.2) (some (.int rr.1))) g 11 (ccells g ad w) 0 0 41 [(2, .int r6), (0, .ref (ad 64)), (1, .int a0)] [.int r38] from ?_)
      refine v_istore_n hG [(3, _), (2, _), (0, _), (1, _)] dX1_putIn_41 rfl (by decide) rfl ?_
      refine v_iload_n hG 0 rfl rfl dX1_putIn_42 ?_
      refine v_iconst hG (v := -1) (by decide) dX1_putIn_43 ?_
      refine v_icmp_eq hG 62 dX1_putIn_44 rfl hf (fun hf => ?_) (fun hf => ?_)
      · refine v_iconst hG (v := 1) (by decide) dX1_putIn_62 ?_
        cases hf
        exact v_zret (x := 1) hG hr rfl dX1_putIn_63
      · refine v_aload_n hG 2 rfl rfl dX1_putIn_47 ?_
        refine c_g_64_1 hG wk_304 dX1_putIn_48 ?_
        refine v_iload_n hG 3 rfl rfl dX1_putIn_51 ?_
        refine v_iload_n hG 0 rfl rfl dX1_putIn_52 ?_
        refine v_iconst hG (v := 1) (by decide) dX1_putIn_53 ?_
        refine v_iadd hG dX1_putIn_54 ?_
        obtain ⟨r55, hr55, hf⟩ := bd_some hf
        refine v_callV hG (st := []) 22 6 (ct_X6_nextTerm_s l g ad w a0 (r38 + 1) r55 hr55) iw_X6_nextTerm wk_733 rfl rfl ⟨rfl, rfl, Nat.le_of_ble_eq_true rfl, Nat.le_of_ble_eq_true rfl⟩ ⟨Nat.le_of_ble_eq_true rfl, Nat.le_of_ble_eq_true rfl⟩ rfl rfl (Nat.le_of_ble_eq_true rfl) (ccells_fst _ _ _ _) dX1_putIn_55 ?_
        refine (show V p l e (k2_rm 3 76) s m args below meth c (inW (ccells g ad w)) (EN below args s g (ccells g ad w) (ccells g ad rr.2) (some (.int rr.1))) g 11 (ccells g ad w) 0 0 58 [(3, .int r38), (2, .int r6), (0, .ref (ad 64)), (1, .int a0)] [.int r55] from ?_)
        refine v_iconst hG (v := -1) (by decide) dX1_putIn_58 ?_
        refine v_icmp_eq hG 64 dX1_putIn_59 rfl hf (fun hf => ?_) (fun hf => ?_)
        · refine v_aload_n hG 2 rfl rfl dX1_putIn_64 ?_
          refine c_g_64_1 hG wk_304 dX1_putIn_65 ?_
          refine v_iload_n hG 3 rfl rfl dX1_putIn_68 ?_
          refine v_iload_n hG 0 rfl rfl dX1_putIn_69 ?_
          obtain ⟨r70, hr70, hf⟩ := bd_some hf
          refine v_callV hG (st := []) 22 6 (ct_X6_isUnit_s l g ad w a0 r38 r70 hr70) iw_X6_isUnit wk_734 rfl rfl ⟨rfl, rfl, Nat.le_of_ble_eq_true rfl, Nat.le_of_ble_eq_true rfl⟩ ⟨Nat.le_of_ble_eq_true rfl, Nat.le_of_ble_eq_true rfl⟩ rfl rfl (Nat.le_of_ble_eq_true rfl) (ccells_fst _ _ _ _) dX1_putIn_70 ?_
          refine (show V p l e (k2_rm 3 76) s m args below meth c (inW (ccells g ad w)) (EN below args s g (ccells g ad w) (ccells g ad rr.2) (some (.int rr.1))) g 11 (ccells g ad w) 0 0 73 [(3, .int r38), (2, .int r6), (0, .ref (ad 64)), (1, .int a0)] [.int r70] from ?_)
          refine v_if_eq hG 80 dX1_putIn_73 rfl hf (fun hf => ?_) (fun hf => ?_)
          · refine v_iload_n hG 1 rfl rfl dX1_putIn_80 ?_
            refine v_sub [(0, _), (1, _), (2, _), (3, _)] [2, 3, 1, 0] rfl ?_
            exact j81 w r6 r38 r6 hf
          · refine v_iload_n hG 0 rfl rfl dX1_putIn_76 ?_
            refine v_goto hG 81 dX1_putIn_77 rfl ?_
            refine v_sub [(0, _), (1, _), (2, _), (3, _)] [2, 3, 1, 0] rfl ?_
            exact j81 w r6 r38 r38 hf
        · refine v_iconst hG (v := 1) (by decide) dX1_putIn_62 ?_
          cases hf
          exact v_zret (x := 1) hG hr rfl dX1_putIn_63
    · refine v_iconst hG (v := 1) (by decide) dX1_putIn_28 ?_
      cases hf
      exact v_zret (x := 1) hG hr rfl dX1_putIn_29
def X1_onlyRow_J51  (j51_0 : Int32) (j51_1 : Int32) : Option ((Int32 × Int32) ⊕ ((Unit) ⊕ (Int32))) := (some (.inl (j51_0, (j51_1 + 1))))
def X1_onlyRow_L4 (w : CW) (a0 : Int32) (s4 : Int32 × Int32) : Option ((Int32 × Int32) ⊕ ((Unit) ⊕ (Int32))) := (if (gT_rows (gC_tab w)) ≤ s4.2 then (some (.inr (.inr s4.1))) else ((X6_isGone (gC_tab w) s4.2).bind (fun r20 : Int32 => (if r20 = 0 then (if inR s4.2 12 = true then (if inR a0 12 = true then (if ((gT_a (gC_tab w)) s4.2.toNatClampNeg a0.toNatClampNeg) = 0 then (X1_onlyRow_J51 s4.1 s4.2) else (if s4.1 = (-1) then (X1_onlyRow_J51 s4.2 s4.2) else (some (.inr (.inl ()))))) else none) else none) else (X1_onlyRow_J51 s4.1 s4.2)))))
def X1_onlyRow (w : CW) (a0 : Int32) : Option (Int32) := ((iter (X1_onlyRow_L4 w a0) 5000 ((-1), 0)).bind (fun z4 : (Unit) ⊕ (Int32) => (Sum.elim (fun z4_0 : Unit => (some (-1))) (fun z4_r0 : (Int32) => (some z4_r0)) z4)))
set_option maxRecDepth 100000 in
set_option maxHeartbeats 4000000 in
theorem ct_X1_onlyRow (l : Launch) (g : wG) (ad : Nat → Nat) (w : CW) (a0 : Int32) (rr : Int32) (hf : X1_onlyRow w a0 = some rr) : MetN l g yX1_onlyRow cX1_onlyRow 4 (some .int) (k2_rm 1 21) [.ref (ad 64), .int a0] (ccells g ad w) (ccells g ad w) (some (.int rr)) := by
  refine MetN.of2 [(0, .ref (ad 64)), (1, .int a0)] rfl (by decide +kernel) (Nat.le_of_ble_eq_true rfl) ?_
  intro p e s m args below meth c hG hr
  unfold X1_onlyRow at hf
  refine v_iconst hG (v := -1) (by decide) dX1_onlyRow_0 ?_
  refine v_istore_n hG [(2, _), (0, _), (1, _)] dX1_onlyRow_1 rfl (by decide) rfl ?_
  refine v_iconst hG (v := 0) (by decide) dX1_onlyRow_2 ?_
  refine v_istore_n hG [(3, _), (2, _), (0, _), (1, _)] dX1_onlyRow_3 rfl (by decide) rfl ?_
  refine v_sub [(0, _), (1, _), (2, _), (3, _)] [2, 3, 1, 0] rfl ?_
  obtain ⟨z4, hlz4, hf⟩ := bd_some hf
  refine loop_v (step := X1_onlyRow_L4 w a0) (fun s4 : Int32 × Int32 => V p l e (k2_rm 1 21) s m args below meth c (inW (ccells g ad w)) (EN below args s g (ccells g ad w) (ccells g ad w) (some (.int rr))) g 4 (ccells g ad w) 0 0 4 [(0, .ref (ad 64)), (1, .int a0), (2, .int s4.1), (3, .int s4.2)] []) (fun z4_q : (Unit) ⊕ (Int32) => Sum.elim (fun z4_0 : Unit => V p l e (k2_rm 1 21) s m args below meth c (inW (ccells g ad w)) (EN below args s g (ccells g ad w) (ccells g ad w) (some (.int rr))) g 4 (ccells g ad w) 0 0 47 [] []) (fun z4_r0 : (Int32) => V p l e (k2_rm 1 21) s m args below meth c (inW (ccells g ad w)) (EN below args s g (ccells g ad w) (ccells g ad w) (some (.int rr))) g 4 (ccells g ad w) 0 0 57 [(2, .int z4_r0)] []) z4_q) ?_ 5000 ((-1), 0) z4 hlz4 ?_
  · intro s4 rL hf hin hout
    unfold X1_onlyRow_L4 at hf
    have j51 : ∀ (j51_0 : Int32) (j51_1 : Int32), X1_onlyRow_J51 j51_0 j51_1 = some rL → V p l e (k2_rm 1 21) s m args below meth c (inW (ccells g ad w)) (EN below args s g (ccells g ad w) (ccells g ad w) (some (.int rr))) g 4 (ccells g ad w) 0 0 51 [(0, .ref (ad 64)), (1, .int a0), (2, .int j51_0), (3, .int j51_1)] [] := by
      intro j51_0 j51_1 hf
      unfold X1_onlyRow_J51 at hf
      refine v_iinc hG 3 (v := j51_1 + 1) [(3, _), (0, _), (1, _), (2, _)] dX1_onlyRow_51 rfl rfl (by decide) rfl ?_
      refine v_goto hG 4 dX1_onlyRow_54 rfl ?_
      refine v_sub [(0, _), (1, _), (2, _), (3, _)] [1, 2, 3, 0] rfl ?_
      exact hin _ (Option.some.inj hf).symm
    refine v_iload_n hG 3 rfl rfl dX1_onlyRow_4 ?_
    refine v_aload_n hG 0 rfl rfl dX1_onlyRow_5 ?_
    refine c_g_64_1 hG wk_304 dX1_onlyRow_6 ?_
    refine c_g_22_8 hG wk_164 dX1_onlyRow_9 ?_
    refine v_icmp_ge hG 57 dX1_onlyRow_12 rfl hf (fun hf => ?_) (fun hf => ?_)
    · refine v_sub [(2, _)] [2] rfl ?_
      exact hout _ (Option.some.inj hf).symm
    · refine v_aload_n hG 0 rfl rfl dX1_onlyRow_15 ?_
      refine c_g_64_1 hG wk_304 dX1_onlyRow_16 ?_
      refine v_iload_n hG 3 rfl rfl dX1_onlyRow_19 ?_
      obtain ⟨r20, hr20, hf⟩ := bd_some hf
      refine v_callV hG (st := []) 22 6 (ct_X6_isGone_s l g ad w s4.2 r20 hr20) iw_X6_isGone wk_693 rfl rfl ⟨rfl, rfl, Nat.le_of_ble_eq_true rfl, Nat.le_of_ble_eq_true rfl⟩ ⟨Nat.le_of_ble_eq_true rfl, Nat.le_of_ble_eq_true rfl⟩ rfl rfl (Nat.le_of_ble_eq_true rfl) (ccells_fst _ _ _ _) dX1_onlyRow_20 ?_
      refine (show V p l e (k2_rm 1 21) s m args below meth c (inW (ccells g ad w)) (EN below args s g (ccells g ad w) (ccells g ad w) (some (.int rr))) g 4 (ccells g ad w) 0 0 23 [(0, .ref (ad 64)), (1, .int a0), (2, .int s4.1), (3, .int s4.2)] [.int r20] from ?_)
      refine v_if_ne hG 51 dX1_onlyRow_23 rfl hf (fun hf => ?_) (fun hf => ?_)
      · exact j51 s4.1 s4.2 hf
      · refine v_aload_n hG 0 rfl rfl dX1_onlyRow_26 ?_
        refine c_g_64_1 hG wk_304 dX1_onlyRow_27 ?_
        refine c_g_22_6 hG wk_149 dX1_onlyRow_30 ?_
        refine v_iload_n hG 3 rfl rfl dX1_onlyRow_33 ?_
        refine c_o_29 hG dX1_onlyRow_34 hf (fun hi34 hf => ?_)
        refine v_iload_n hG 1 rfl rfl dX1_onlyRow_35 ?_
        refine c_rl_29 hG hi34 dX1_onlyRow_36 hf (fun hf => ?_)
        refine v_lconst hG (v := 0) (by decide) dX1_onlyRow_37 ?_
        refine v_lcmp_eq hG 51 dX1_onlyRow_38 dX1_onlyRow_39 rfl hf (fun hf => ?_) (fun hf => ?_)
        · exact j51 s4.1 s4.2 hf
        · refine v_iload_n hG 2 rfl rfl dX1_onlyRow_42 ?_
          refine v_iconst hG (v := -1) (by decide) dX1_onlyRow_43 ?_
          refine v_icmp_eq hG 49 dX1_onlyRow_44 rfl hf (fun hf => ?_) (fun hf => ?_)
          · refine v_iload_n hG 3 rfl rfl dX1_onlyRow_49 ?_
            refine v_istore_n hG [(2, _), (0, _), (1, _), (3, _)] dX1_onlyRow_50 rfl (by decide) rfl ?_
            refine v_sub [(0, _), (1, _), (2, _), (3, _)] [1, 2, 0, 3] rfl ?_
            exact j51 s4.2 s4.2 hf
          · refine v_sub [] [] rfl ?_
            exact hout _ (Option.some.inj hf).symm
  · rcases z4 with z4_x0 | z4_x0
    · simp only [Sum.elim_inl] at hf
      show V p l e (k2_rm 1 21) s m args below meth c (inW (ccells g ad w)) (EN below args s g (ccells g ad w) (ccells g ad w) (some (.int rr))) g 4 (ccells g ad w) 0 0 47 [] []
      refine v_iconst hG (v := -1) (by decide) dX1_onlyRow_47 ?_
      cases hf
      exact v_iret hG hr dX1_onlyRow_48
    · simp only [Sum.elim_inr] at hf
      show V p l e (k2_rm 1 21) s m args below meth c (inW (ccells g ad w)) (EN below args s g (ccells g ad w) (ccells g ad w) (some (.int rr))) g 4 (ccells g ad w) 0 0 57 [(2, .int z4_x0)] []
      refine v_iload_n hG 0 rfl rfl dX1_onlyRow_57 ?_
      cases hf
      exact v_iret hG hr dX1_onlyRow_58
def X1_putInFree_J141 (a0 : Int32) (j141_0 : CW) (j141_1 : Int32) (j141_2 : Int64) (j141_3 : Int64) : Option (Int32 × CW) := (if inR a0 12 = true then (if j141_2 < ((gT_low (gC_tab j141_0)) a0.toNatClampNeg) then (some (1, j141_0)) else (if inR a0 12 = true then (if ((gT_high (gC_tab j141_0)) a0.toNatClampNeg) < j141_3 then (some (1, j141_0)) else ((X1_staysWithin j141_0 j141_1 a0).bind (fun r176 : Int32 => (if r176 = 0 then (some (1, j141_0)) else ((X1_putInFor j141_0 j141_1 a0).bind (fun r185 : CW => (some (1, r185)))))))) else none)) else none)
def X1_putInFree_J123 (a0 : Int32) (j123_0 : CW) (j123_1 : Int32) (j123_2 : Int64) (j123_3 : Int64) (j123_4 : Int64) (j123_5 : Int32) (j123_6 : Int64) : Option (Int32 × CW) := (if j123_5 = 0 then (X1_putInFree_J141 a0 j123_0 j123_1 j123_6 (j123_4 - j123_2)) else (X1_putInFree_J141 a0 j123_0 j123_1 j123_6 (j123_2 - j123_3)))
def X1_putInFree_J105 (a0 : Int32) (j105_0 : CW) (j105_1 : Int32) (j105_2 : Int64) (j105_3 : Int64) (j105_4 : Int64) (j105_5 : Int32) : Option (Int32 × CW) := (if j105_5 = 0 then (X1_putInFree_J123 a0 j105_0 j105_1 j105_2 j105_3 j105_4 j105_5 (j105_3 - j105_2)) else (X1_putInFree_J123 a0 j105_0 j105_1 j105_2 j105_3 j105_4 j105_5 (j105_2 - j105_4)))
def X1_putInFree (w : CW) (a0 : Int32) : Option (Int32 × CW) := ((X1_onlyRow w a0).bind (fun r2 : Int32 => (if r2 = (-1) then (some (1, w)) else (if inR r2 12 = true then (if ((gT_kind (gC_tab w)) r2.toNatClampNeg) = 1 then ((X6_isUnit (gC_tab w) r2 a0).bind (fun r30 : Int32 => (if r30 = 0 then (some (1, w)) else ((X6_countTerms (gC_tab w) r2).bind (fun r41 : Int32 => (if 2 ≤ r41 then (if inR r2 12 = true then ((X5_reach w r2 a0 0).bind (fun r67 : Int64 => ((X5_reach w r2 a0 1).bind (fun r79 : Int64 => (if inR r2 12 = true then (if inR a0 12 = true then (if ((gT_a (gC_tab w)) r2.toNatClampNeg a0.toNatClampNeg) ≤ 0 then (X1_putInFree_J105 a0 w r2 ((gT_right (gC_tab w)) r2.toNatClampNeg) r67 r79 0) else (X1_putInFree_J105 a0 w r2 ((gT_right (gC_tab w)) r2.toNatClampNeg) r67 r79 1)) else none) else none))))) else none) else (some (1, w)))))))) else (some (1, w))) else none))))
set_option maxRecDepth 100000 in
set_option maxHeartbeats 4000000 in
theorem ct_X1_putInFree (l : Launch) (g : wG) (ad : Nat → Nat) (w : CW) (a0 : Int32) (rr : Int32 × CW) (hf : X1_putInFree w a0 = some rr) : MetN l g yX1_putInFree cX1_putInFree 14 (some .boolean) (k2_rm 3 76) [.ref (ad 64), .int a0] (ccells g ad w) (ccells g ad rr.2) (some (.int rr.1)) := by
  refine MetN.of2 [(0, .ref (ad 64)), (1, .int a0)] rfl (by decide +kernel) (Nat.le_of_ble_eq_true rfl) ?_
  intro p e s m args below meth c hG hr
  unfold X1_putInFree at hf
  have j141 : ∀ (j141_0 : CW) (j141_1 : Int32) (j141_2 : Int64) (j141_3 : Int64), X1_putInFree_J141 a0 j141_0 j141_1 j141_2 j141_3 = some rr → V p l e (k2_rm 3 76) s m args below meth c (inW (ccells g ad w)) (EN below args s g (ccells g ad w) (ccells g ad rr.2) (some (.int rr.1))) g 14 (ccells g ad j141_0) 0 0 141 [(0, .ref (ad 64)), (1, .int a0), (2, .int j141_1), (10, .long j141_2)] [.long j141_3] := by
    intro j141_0 j141_1 j141_2 j141_3 hf
    unfold X1_putInFree_J141 at hf
    refine v_lstore hG [(12, _), (0, _), (1, _), (2, _), (10, _)] dX1_putInFree_141 (by decide) rfl ?_
    refine v_lload hG 4 rfl dX1_putInFree_143 ?_
    refine v_aload_n hG 1 rfl rfl dX1_putInFree_145 ?_
    refine c_g_64_1 hG wk_304 dX1_putInFree_146 ?_
    refine c_g_22_0 hG wk_116 dX1_putInFree_149 ?_
    refine v_iload_n hG 2 rfl rfl dX1_putInFree_152 ?_
    refine c_l_23 hG dX1_putInFree_153 hf (fun hf => ?_)
    refine v_lcmp_lt hG 188 dX1_putInFree_154 dX1_putInFree_155 rfl hf (fun hf => ?_) (fun hf => ?_)
    · refine v_iconst hG (v := 1) (by decide) dX1_putInFree_188 ?_
      cases hf
      exact v_zret (x := 1) hG hr rfl dX1_putInFree_189
    · refine v_lload hG 0 rfl dX1_putInFree_158 ?_
      refine v_aload_n hG 1 rfl rfl dX1_putInFree_160 ?_
      refine c_g_64_1 hG wk_304 dX1_putInFree_161 ?_
      refine c_g_22_1 hG wk_123 dX1_putInFree_164 ?_
      refine v_iload_n hG 2 rfl rfl dX1_putInFree_167 ?_
      refine c_l_24 hG dX1_putInFree_168 hf (fun hf => ?_)
      refine v_lcmp_gt hG 188 dX1_putInFree_169 dX1_putInFree_170 rfl hf (fun hf => ?_) (fun hf => ?_)
      · refine v_iconst hG (v := 1) (by decide) dX1_putInFree_188 ?_
        cases hf
        exact v_zret (x := 1) hG hr rfl dX1_putInFree_189
      · refine v_aload_n hG 1 rfl rfl dX1_putInFree_173 ?_
        refine v_iload_n hG 3 rfl rfl dX1_putInFree_174 ?_
        refine v_iload_n hG 2 rfl rfl dX1_putInFree_175 ?_
        obtain ⟨r176, hr176, hf⟩ := bd_some hf
        refine v_callV hG (st := []) 64 1 (ct_X1_staysWithin l g ad j141_0 j141_1 a0 r176 hr176) iw_X1_staysWithin wk_739 rfl rfl ⟨rfl, rfl, Nat.le_of_ble_eq_true rfl, Nat.le_of_ble_eq_true rfl⟩ ⟨Nat.le_of_ble_eq_true rfl, Nat.le_of_ble_eq_true rfl⟩ rfl rfl (Nat.le_of_ble_eq_true rfl) (ccells_fst _ _ _ _) dX1_putInFree_176 ?_
        refine (show V p l e (k2_rm 3 76) s m args below meth c (inW (ccells g ad w)) (EN below args s g (ccells g ad w) (ccells g ad rr.2) (some (.int rr.1))) g 14 (ccells g ad j141_0) 0 0 179 [(12, .long j141_3), (0, .ref (ad 64)), (1, .int a0), (2, .int j141_1), (10, .long j141_2)] [.int r176] from ?_)
        refine v_if_eq hG 188 dX1_putInFree_179 rfl hf (fun hf => ?_) (fun hf => ?_)
        · refine v_iconst hG (v := 1) (by decide) dX1_putInFree_188 ?_
          cases hf
          exact v_zret (x := 1) hG hr rfl dX1_putInFree_189
        · refine v_aload_n hG 1 rfl rfl dX1_putInFree_182 ?_
          refine v_iload_n hG 3 rfl rfl dX1_putInFree_183 ?_
          refine v_iload_n hG 2 rfl rfl dX1_putInFree_184 ?_
          obtain ⟨r185, hr185, hf⟩ := bd_some hf
          refine v_callV hG (st := []) 64 1 (ct_X1_putInFor l g ad j141_0 j141_1 a0 r185 hr185) iw_X1_putInFor wk_755 rfl rfl ⟨rfl, rfl, Nat.le_of_ble_eq_true rfl, Nat.le_of_ble_eq_true rfl⟩ ⟨Nat.le_of_ble_eq_true rfl, Nat.le_of_ble_eq_true rfl⟩ rfl rfl (Nat.le_of_ble_eq_true rfl) (ccells_fst _ _ _ _) dX1_putInFree_185 ?_
          refine (show V p l e (k2_rm 3 76) s m args below meth c (inW (ccells g ad w)) (EN below args s g (ccells g ad w) (ccells g ad rr.2) (some (.int rr.1))) g 14 (ccells g ad r185) 0 0 188 [(12, .long j141_3), (0, .ref (ad 64)), (1, .int a0), (2, .int j141_1), (10, .long j141_2)] [] from ?_)
          refine v_iconst hG (v := 1) (by decide) dX1_putInFree_188 ?_
          cases hf
          exact v_zret (x := 1) hG hr rfl dX1_putInFree_189
  have j123 : ∀ (j123_0 : CW) (j123_1 : Int32) (j123_2 : Int64) (j123_3 : Int64) (j123_4 : Int64) (j123_5 : Int32) (j123_6 : Int64), X1_putInFree_J123 a0 j123_0 j123_1 j123_2 j123_3 j123_4 j123_5 j123_6 = some rr → V p l e (k2_rm 3 76) s m args below meth c (inW (ccells g ad w)) (EN below args s g (ccells g ad w) (ccells g ad rr.2) (some (.int rr.1))) g 14 (ccells g ad j123_0) 0 0 123 [(0, .ref (ad 64)), (1, .int a0), (2, .int j123_1), (3, .long j123_2), (5, .long j123_3), (7, .long j123_4), (9, .int j123_5)] [.long j123_6] := by
    intro j123_0 j123_1 j123_2 j123_3 j123_4 j123_5 j123_6 hf
    unfold X1_putInFree_J123 at hf
    refine v_lstore hG [(10, _), (0, _), (1, _), (2, _), (3, _), (5, _), (7, _), (9, _)] dX1_putInFree_123 (by decide) rfl ?_
    refine v_iload hG 7 rfl dX1_putInFree_125 ?_
    refine v_if_eq hG 137 dX1_putInFree_127 rfl hf (fun hf => ?_) (fun hf => ?_)
    · refine v_lload hG 6 rfl dX1_putInFree_137 ?_
      refine v_lload_n hG 4 rfl rfl dX1_putInFree_139 ?_
      refine v_lsub hG dX1_putInFree_140 ?_
      refine v_sub [(0, _), (1, _), (2, _), (10, _)] [1, 2, 3, 0] rfl ?_
      exact j141 j123_0 j123_1 j123_6 (j123_4 - j123_2) hf
    · refine v_lload_n hG 4 rfl rfl dX1_putInFree_130 ?_
      refine v_lload hG 5 rfl dX1_putInFree_131 ?_
      refine v_lsub hG dX1_putInFree_133 ?_
      refine v_goto hG 141 dX1_putInFree_134 rfl ?_
      refine v_sub [(0, _), (1, _), (2, _), (10, _)] [1, 2, 3, 0] rfl ?_
      exact j141 j123_0 j123_1 j123_6 (j123_2 - j123_3) hf
  have j105 : ∀ (j105_0 : CW) (j105_1 : Int32) (j105_2 : Int64) (j105_3 : Int64) (j105_4 : Int64) (j105_5 : Int32), X1_putInFree_J105 a0 j105_0 j105_1 j105_2 j105_3 j105_4 j105_5 = some rr → V p l e (k2_rm 3 76) s m args below meth c (inW (ccells g ad w)) (EN below args s g (ccells g ad w) (ccells g ad rr.2) (some (.int rr.1))) g 14 (ccells g ad j105_0) 0 0 105 [(0, .ref (ad 64)), (1, .int a0), (2, .int j105_1), (3, .long j105_2), (5, .long j105_3), (7, .long j105_4)] [.int j105_5] := by
    intro j105_0 j105_1 j105_2 j105_3 j105_4 j105_5 hf
    unfold X1_putInFree_J105 at hf
    refine v_istore hG [(9, _), (0, _), (1, _), (2, _), (3, _), (5, _), (7, _)] dX1_putInFree_105 (by decide) rfl ?_
    refine v_iload hG 0 rfl dX1_putInFree_107 ?_
    refine v_if_eq hG 119 dX1_putInFree_109 rfl hf (fun hf => ?_) (fun hf => ?_)
    · refine v_lload hG 5 rfl dX1_putInFree_119 ?_
      refine v_lload_n hG 4 rfl rfl dX1_putInFree_121 ?_
      refine v_lsub hG dX1_putInFree_122 ?_
      refine v_sub [(0, _), (1, _), (2, _), (3, _), (5, _), (7, _), (9, _)] [1, 2, 3, 4, 5, 6, 0] rfl ?_
      exact j123 j105_0 j105_1 j105_2 j105_3 j105_4 j105_5 (j105_3 - j105_2) hf
    · refine v_lload_n hG 4 rfl rfl dX1_putInFree_112 ?_
      refine v_lload hG 6 rfl dX1_putInFree_113 ?_
      refine v_lsub hG dX1_putInFree_115 ?_
      refine v_goto hG 123 dX1_putInFree_116 rfl ?_
      refine v_sub [(0, _), (1, _), (2, _), (3, _), (5, _), (7, _), (9, _)] [1, 2, 3, 4, 5, 6, 0] rfl ?_
      exact j123 j105_0 j105_1 j105_2 j105_3 j105_4 j105_5 (j105_2 - j105_4) hf
  refine v_aload_n hG 0 rfl rfl dX1_putInFree_0 ?_
  refine v_iload_n hG 1 rfl rfl dX1_putInFree_1 ?_
  obtain ⟨r2, hr2, hf⟩ := bd_some hf
  refine v_callV hG (st := []) 64 1 (ct_X1_onlyRow l g ad w a0 r2 hr2) iw_X1_onlyRow wk_783 rfl rfl ⟨rfl, rfl, Nat.le_of_ble_eq_true rfl, Nat.le_of_ble_eq_true rfl⟩ ⟨Nat.le_of_ble_eq_true rfl, Nat.le_of_ble_eq_true rfl⟩ rfl rfl (Nat.le_of_ble_eq_true rfl) (ccells_fst _ _ _ _) dX1_putInFree_2 ?_
  refine (show V p l e (k2_rm 3 76) s m args below meth c (inW (ccells g ad w)) (EN below args s g (ccells g ad w) (ccells g ad rr.2) (some (.int rr.1))) g 14 (ccells g ad w) 0 0 5 [(0, .ref (ad 64)), (1, .int a0)] [.int r2] from ?_)
  refine v_istore_n hG [(2, _), (0, _), (1, _)] dX1_putInFree_5 rfl (by decide) rfl ?_
  refine v_iload_n hG 0 rfl rfl dX1_putInFree_6 ?_
  refine v_iconst hG (v := -1) (by decide) dX1_putInFree_7 ?_
  refine v_icmp_eq hG 48 dX1_putInFree_8 rfl hf (fun hf => ?_) (fun hf => ?_)
  · refine v_iconst hG (v := 1) (by decide) dX1_putInFree_48 ?_
    cases hf
    exact v_zret (x := 1) hG hr rfl dX1_putInFree_49
  · refine v_aload_n hG 1 rfl rfl dX1_putInFree_11 ?_
    refine c_g_64_1 hG wk_304 dX1_putInFree_12 ?_
    refine c_g_22_4 hG wk_140 dX1_putInFree_15 ?_
    refine v_iload_n hG 0 rfl rfl dX1_putInFree_18 ?_
    refine c_l_27 hG dX1_putInFree_19 hf (fun hf => ?_)
    refine v_iconst hG (v := 1) (by decide) dX1_putInFree_20 ?_
    refine v_icmp_ne hG 48 dX1_putInFree_21 rfl hf (fun hf => ?_) (fun hf => ?_)
    · refine v_iconst hG (v := 1) (by decide) dX1_putInFree_48 ?_
      cases hf
      exact v_zret (x := 1) hG hr rfl dX1_putInFree_49
    · refine v_aload_n hG 1 rfl rfl dX1_putInFree_24 ?_
      refine c_g_64_1 hG wk_304 dX1_putInFree_25 ?_
      refine v_iload_n hG 0 rfl rfl dX1_putInFree_28 ?_
      refine v_iload_n hG 2 rfl rfl dX1_putInFree_29 ?_
      obtain ⟨r30, hr30, hf⟩ := bd_some hf
      refine v_callV hG (st := []) 22 6 (ct_X6_isUnit_s l g ad w r2 a0 r30 hr30) iw_X6_isUnit wk_734 rfl rfl ⟨rfl, rfl, Nat.le_of_ble_eq_true rfl, Nat.le_of_ble_eq_true rfl⟩ ⟨Nat.le_of_ble_eq_true rfl, Nat.le_of_ble_eq_true rfl⟩ rfl rfl (Nat.le_of_ble_eq_true rfl) (ccells_fst _ _ _ _) dX1_putInFree_30 ?_
      refine (show V p l e (k2_rm 3 76) s m args below meth c (inW (ccells g ad w)) (EN below args s g (ccells g ad w) (ccells g ad rr.2) (some (.int rr.1))) g 14 (ccells g ad w) 0 0 33 [(2, .int r2), (0, .ref (ad 64)), (1, .int a0)] [.int r30] from ?_)
      refine v_if_eq hG 48 dX1_putInFree_33 rfl hf (fun hf => ?_) (fun hf => ?_)
      · refine v_iconst hG (v := 1) (by decide) dX1_putInFree_48 ?_
        cases hf
        exact v_zret (x := 1) hG hr rfl dX1_putInFree_49
      · refine v_aload_n hG 1 rfl rfl dX1_putInFree_36 ?_
        refine c_g_64_1 hG wk_304 dX1_putInFree_37 ?_
        refine v_iload_n hG 0 rfl rfl dX1_putInFree_40 ?_
        obtain ⟨r41, hr41, hf⟩ := bd_some hf
        refine v_callV hG (st := []) 22 6 (ct_X6_countTerms_s l g ad w r2 r41 hr41) iw_X6_countTerms wk_787 rfl rfl ⟨rfl, rfl, Nat.le_of_ble_eq_true rfl, Nat.le_of_ble_eq_true rfl⟩ ⟨Nat.le_of_ble_eq_true rfl, Nat.le_of_ble_eq_true rfl⟩ rfl rfl (Nat.le_of_ble_eq_true rfl) (ccells_fst _ _ _ _) dX1_putInFree_41 ?_
        refine (show V p l e (k2_rm 3 76) s m args below meth c (inW (ccells g ad w)) (EN below args s g (ccells g ad w) (ccells g ad rr.2) (some (.int rr.1))) g 14 (ccells g ad w) 0 0 44 [(2, .int r2), (0, .ref (ad 64)), (1, .int a0)] [.int r41] from ?_)
        refine v_iconst hG (v := 2) (by decide) dX1_putInFree_44 ?_
        refine v_icmp_ge hG 50 dX1_putInFree_45 rfl hf (fun hf => ?_) (fun hf => ?_)
        · refine v_aload_n hG 1 rfl rfl dX1_putInFree_50 ?_
          refine c_g_64_1 hG wk_304 dX1_putInFree_51 ?_
          refine c_g_22_5 hG wk_143 dX1_putInFree_54 ?_
          refine v_iload_n hG 0 rfl rfl dX1_putInFree_57 ?_
          refine c_l_28 hG dX1_putInFree_58 hf (fun hf => ?_)
          refine v_lstore_n hG [(3, _), (2, _), (0, _), (1, _)] dX1_putInFree_59 rfl (by decide) rfl ?_
          refine v_aload_n hG 2 rfl rfl dX1_putInFree_60 ?_
          refine c_g_64_0 hG wk_303 dX1_putInFree_61 ?_
          refine v_iload_n hG 1 rfl rfl dX1_putInFree_64 ?_
          refine v_iload_n hG 3 rfl rfl dX1_putInFree_65 ?_
          refine v_iconst hG (v := 0) (by decide) dX1_putInFree_66 ?_
          obtain ⟨r67, hr67, hf⟩ := bd_some hf
          refine v_callV hG (st := []) 21 5 (ct_X5_reach l g ad w r2 a0 0 r67 hr67) iw_X5_reach wk_788 rfl rfl ⟨rfl, rfl, Nat.le_of_ble_eq_true rfl, Nat.le_of_ble_eq_true rfl⟩ ⟨Nat.le_of_ble_eq_true rfl, Nat.le_of_ble_eq_true rfl⟩ rfl rfl (Nat.le_of_ble_eq_true rfl) (ccells_fst _ _ _ _) dX1_putInFree_67 ?_
          refine (show V p l e (k2_rm 3 76) s m args below meth c (inW (ccells g ad w)) (EN below args s g (ccells g ad w) (ccells g ad rr.2) (some (.int rr.1))) g 14 (ccells g ad w) 0 0 70 [(3, .long ((gT_right (gC_tab w)) r2.toNatClampNeg)), (2, .int r2), (0, .ref (ad 64)), (1, .int a0)] [.long r67] from ?_)
          refine v_lstore hG [(5, _), (3, _), (2, _), (0, _), (1, _)] dX1_putInFree_70 (by decide) rfl ?_
          refine v_aload_n hG 3 rfl rfl dX1_putInFree_72 ?_
          refine c_g_64_0 hG wk_303 dX1_putInFree_73 ?_
          refine v_iload_n hG 2 rfl rfl dX1_putInFree_76 ?_
          refine v_iload_n hG 4 rfl rfl dX1_putInFree_77 ?_
          refine v_iconst hG (v := 1) (by decide) dX1_putInFree_78 ?_
          obtain ⟨r79, hr79, hf⟩ := bd_some hf
          refine v_callV hG (st := []) 21 5 (ct_X5_reach l g ad w r2 a0 1 r79 hr79) iw_X5_reach wk_788 rfl rfl ⟨rfl, rfl, Nat.le_of_ble_eq_true rfl, Nat.le_of_ble_eq_true rfl⟩ ⟨Nat.le_of_ble_eq_true rfl, Nat.le_of_ble_eq_true rfl⟩ rfl rfl (Nat.le_of_ble_eq_true rfl) (ccells_fst _ _ _ _) dX1_putInFree_79 ?_
          refine (show V p l e (k2_rm 3 76) s m args below meth c (inW (ccells g ad w)) (EN below args s g (ccells g ad w) (ccells g ad rr.2) (some (.int rr.1))) g 14 (ccells g ad w) 0 0 82 [(5, .long r67), (3, .long ((gT_right (gC_tab w)) r2.toNatClampNeg)), (2, .int r2), (0, .ref (ad 64)), (1, .int a0)] [.long r79] from ?_)
          refine v_lstore hG [(7, _), (5, _), (3, _), (2, _), (0, _), (1, _)] dX1_putInFree_82 (by decide) rfl ?_
          refine v_aload_n hG 4 rfl rfl dX1_putInFree_84 ?_
          refine c_g_64_1 hG wk_304 dX1_putInFree_85 ?_
          refine c_g_22_6 hG wk_149 dX1_putInFree_88 ?_
          refine v_iload_n hG 3 rfl rfl dX1_putInFree_91 ?_
          refine c_o_29 hG dX1_putInFree_92 hf (fun hi92 hf => ?_)
          refine v_iload_n hG 5 rfl rfl dX1_putInFree_93 ?_
          refine c_rl_29 hG hi92 dX1_putInFree_94 hf (fun hf => ?_)
          refine v_lconst hG (v := 0) (by decide) dX1_putInFree_95 ?_
          refine v_lcmp_le hG 104 dX1_putInFree_96 dX1_putInFree_97 rfl hf (fun hf => ?_) (fun hf => ?_)
          · refine v_iconst hG (v := 0) (by decide) dX1_putInFree_104 ?_
            refine v_sub [(0, _), (1, _), (2, _), (3, _), (5, _), (7, _)] [4, 5, 3, 2, 1, 0] rfl ?_
            exact j105 w r2 ((gT_right (gC_tab w)) r2.toNatClampNeg) r67 r79 0 hf
          · refine v_iconst hG (v := 1) (by decide) dX1_putInFree_100 ?_
            refine v_goto hG 105 dX1_putInFree_101 rfl ?_
            refine v_sub [(0, _), (1, _), (2, _), (3, _), (5, _), (7, _)] [4, 5, 3, 2, 1, 0] rfl ?_
            exact j105 w r2 ((gT_right (gC_tab w)) r2.toNatClampNeg) r67 r79 1 hf
        · refine v_iconst hG (v := 1) (by decide) dX1_putInFree_48 ?_
          cases hf
          exact v_zret (x := 1) hG hr rfl dX1_putInFree_49
