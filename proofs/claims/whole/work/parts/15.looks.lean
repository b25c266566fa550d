def X2_termSet_J37  (j37_0 : Int32) (j37_1 : Int32) : Option ((Int32 × Int32) ⊕ ((Int32))) := (some (.inl (j37_0, (j37_1 + 1))))
def X2_termSet_L4 (w : CW) (a0 : Int32) (s4 : Int32 × Int32) : Option ((Int32 × Int32) ⊕ ((Int32))) := (if (gT_columns (gC_tab w)) ≤ s4.2 then (some (.inr s4.1)) else (if inR a0 12 = true then (if inR s4.2 12 = true then (if ((gT_a (gC_tab w)) a0.toNatClampNeg s4.2.toNatClampNeg) = 0 then (X2_termSet_J37 s4.1 s4.2) else (X2_termSet_J37 (s4.1 ||| (1 <<< (s4.2 &&& 31))) s4.2)) else none) else none))
def X2_termSet (w : CW) (a0 : Int32) : Option (Int32) := ((iter (X2_termSet_L4 w a0) 5000 (0, 0)).bind (fun z4 : (Int32) => (some z4)))
set_option maxRecDepth 100000 in
set_option maxHeartbeats 4000000 in
theorem ct_X2_termSet (l : Launch) (g : wG) (ad : Nat → Nat) (w : CW) (a0 : Int32) (rr : Int32) (hf : X2_termSet w a0 = some rr) : MetN l g yX2_termSet cX2_termSet 4 (some .int) (k2_rm 0 0) [.ref (ad 65), .int a0] (ccells g ad w) (ccells g ad w) (some (.int rr)) := by
  refine MetN.of2 [(0, .ref (ad 65)), (1, .int a0)] rfl (by decide +kernel) (Nat.le_of_ble_eq_true rfl) ?_
  intro p e s m args below meth c hG hr
  unfold X2_termSet at hf
  refine v_iconst hG (v := 0) (by decide) dX2_termSet_0 ?_
  refine v_istore_n hG [(2, _), (0, _), (1, _)] dX2_termSet_1 rfl (by decide) rfl ?_
  refine v_iconst hG (v := 0) (by decide) dX2_termSet_2 ?_
  refine v_istore_n hG [(3, _), (2, _), (0, _), (1, _)] dX2_termSet_3 rfl (by decide) rfl ?_
  refine v_sub [(0, _), (1, _), (2, _), (3, _)] [2, 3, 1, 0] rfl ?_
  obtain ⟨z4, hlz4, hf⟩ := bd_some hf
  refine loop_v (step := X2_termSet_L4 w a0) (fun s4 : Int32 × Int32 => V p l e (k2_rm 0 0) s m args below meth c (inW (ccells g ad w)) (EN below args s g (ccells g ad w) (ccells g ad w) (some (.int rr))) g 4 (ccells g ad w) 0 0 4 [(0, .ref (ad 65)), (1, .int a0), (2, .int s4.1), (3, .int s4.2)] []) (fun z4_q : (Int32) => V p l e (k2_rm 0 0) s m args below meth c (inW (ccells g ad w)) (EN below args s g (ccells g ad w) (ccells g ad w) (some (.int rr))) g 4 (ccells g ad w) 0 0 43 [(2, .int z4_q)] []) ?_ 5000 (0, 0) z4 hlz4 ?_
  · intro s4 rL hf hin hout
    unfold X2_termSet_L4 at hf
    have j37 : ∀ (j37_0 : Int32) (j37_1 : Int32), X2_termSet_J37 j37_0 j37_1 = some rL → V p l e (k2_rm 0 0) s m args below meth c (inW (ccells g ad w)) (EN below args s g (ccells g ad w) (ccells g ad w) (some (.int rr))) g 4 (ccells g ad w) 0 0 37 [(0, .ref (ad 65)), (1, .int a0), (2, .int j37_0), (3, .int j37_1)] [] := by
      intro j37_0 j37_1 hf
      unfold X2_termSet_J37 at hf
      refine v_iinc hG 3 (v := j37_1 + 1) [(3, _), (0, _), (1, _), (2, _)] dX2_termSet_37 rfl rfl (by decide) rfl ?_
      refine v_goto hG 4 dX2_termSet_40 rfl ?_
      refine v_sub [(0, _), (1, _), (2, _), (3, _)] [1, 2, 3, 0] rfl ?_
      exact hin _ (Option.some.inj hf).symm
    refine v_iload_n hG 3 rfl rfl dX2_termSet_4 ?_
    refine v_aload_n hG 0 rfl rfl dX2_termSet_5 ?_
    refine c_g_65_1 hG wk_330 dX2_termSet_6 ?_
    refine c_g_22_7 hG wk_156 dX2_termSet_9 ?_
    refine v_icmp_ge hG 43 dX2_termSet_12 rfl hf (fun hf => ?_) (fun hf => ?_)
    · refine v_sub [(2, _)] [2] rfl ?_
      exact hout _ (Option.some.inj hf).symm
    · refine v_aload_n hG 0 rfl rfl dX2_termSet_15 ?_
      refine c_g_65_1 hG wk_330 dX2_termSet_16 ?_
      refine c_g_22_6 hG wk_151 dX2_termSet_19 ?_
      refine v_iload_n hG 1 rfl rfl dX2_termSet_22 ?_
      refine c_o_29 hG dX2_termSet_23 hf (fun hi23 hf => ?_)
      refine v_iload_n hG 3 rfl rfl dX2_termSet_24 ?_
      refine c_rl_29 hG hi23 dX2_termSet_25 hf (fun hf => ?_)
      refine v_lconst hG (v := 0) (by decide) dX2_termSet_26 ?_
      refine v_lcmp_eq hG 37 dX2_termSet_27 dX2_termSet_28 rfl hf (fun hf => ?_) (fun hf => ?_)
      · exact j37 s4.1 s4.2 hf
      · refine v_iload_n hG 2 rfl rfl dX2_termSet_31 ?_
        refine v_iconst hG (v := 1) (by decide) dX2_termSet_32 ?_
        refine v_iload_n hG 3 rfl rfl dX2_termSet_33 ?_
        refine v_ishl hG dX2_termSet_34 ?_
        refine v_ior hG dX2_termSet_35 ?_
        refine v_istore_n hG [(2, _), (0, _), (1, _), (3, _)] dX2_termSet_36 rfl (by decide) rfl ?_
        refine v_sub [(0, _), (1, _), (2, _), (3, _)] [1, 2, 0, 3] rfl ?_
        exact j37 (s4.1 ||| (1 <<< (s4.2 &&& 31))) s4.2 hf
  · show V p l e (k2_rm 0 0) s m args below meth c (inW (ccells g ad w)) (EN below args s g (ccells g ad w) (ccells g ad w) (some (.int rr))) g 4 (ccells g ad w) 0 0 43 [(2, .int z4)] []
    refine v_iload_n hG 0 rfl rfl dX2_termSet_43 ?_
    cases hf
    exact v_iret hG hr dX2_termSet_44
def X2_partOf_J68  (j68_0 : Int32) (j68_1 : Int32) : Option ((Int32 × Int32) ⊕ ((Int32))) := (some (.inl (j68_0, (j68_1 + 1))))
def X2_partOf_J54  (j54_0 : Int32) (j54_1 : Int32) (j54_2 : Int32) : Option ((Int32 × Int32) ⊕ ((Int32))) := (if (j54_2 &&& j54_0) = 0 then (X2_partOf_J68 j54_0 j54_1) else (X2_partOf_J68 (j54_0 ||| j54_2) j54_1))
def X2_partOf_L20 (w : CW) (s20 : Int32 × Int32) : Option ((Int32 × Int32) ⊕ ((Int32))) := (if (gT_rows (gC_tab w)) ≤ s20.2 then (some (.inr s20.1)) else ((X6_isGone (gC_tab w) s20.2).bind (fun r38 : Int32 => (if r38 = 0 then ((X2_termSet w s20.2).bind (fun r51 : Int32 => (X2_partOf_J54 s20.1 s20.2 r51))) else (X2_partOf_J54 s20.1 s20.2 0)))))
def X2_partOf_L6 (w : CW) (s6 : Int32 × Int32) : Option ((Int32 × Int32) ⊕ ((Int32))) := (if (gT_rows (gC_tab w)) ≤ s6.2 then (some (.inr s6.1)) else ((iter (X2_partOf_L20 w) 5000 (s6.1, 0)).bind (fun z20 : (Int32) => (some (.inl (z20, (s6.2 + 1)))))))
def X2_partOf (w : CW) (a0 : Int32) : Option (Int32) := ((iter (X2_partOf_L6 w) 5000 ((1 <<< (a0 &&& 31)), 0)).bind (fun z6 : (Int32) => (some z6)))
set_option maxRecDepth 100000 in
set_option maxHeartbeats 4000000 in
theorem ct_X2_partOf (l : Launch) (g : wG) (ad : Nat → Nat) (w : CW) (a0 : Int32) (rr : Int32) (hf : X2_partOf w a0 = some rr) : MetN l g yX2_partOf cX2_partOf 6 (some .int) (k2_rm 1 23) [.ref (ad 65), .int a0] (ccells g ad w) (ccells g ad w) (some (.int rr)) := by
  refine MetN.of2 [(0, .ref (ad 65)), (1, .int a0)] rfl (by decide +kernel) (Nat.le_of_ble_eq_true rfl) ?_
  intro p e s m args below meth c hG hr
  unfold X2_partOf at hf
  refine v_iconst hG (v := 1) (by decide) dX2_partOf_0 ?_
  refine v_iload_n hG 1 rfl rfl dX2_partOf_1 ?_
  refine v_ishl hG dX2_partOf_2 ?_
  refine v_istore_n hG [(2, _), (0, _), (1, _)] dX2_partOf_3 rfl (by decide) rfl ?_
  refine v_iconst hG (v := 0) (by decide) dX2_partOf_4 ?_
  refine v_istore_n hG [(3, _), (2, _), (0, _), (1, _)] dX2_partOf_5 rfl (by decide) rfl ?_
  refine v_sub [(0, _), (2, _), (3, _)] [2, 1, 0] rfl ?_
  obtain ⟨z6, hlz6, hf⟩ := bd_some hf
  refine loop_v (step := X2_partOf_L6 w) (fun s6 : Int32 × Int32 => V p l e (k2_rm 1 23) s m args below meth c (inW (ccells g ad w)) (EN below args s g (ccells g ad w) (ccells g ad w) (some (.int rr))) g 6 (ccells g ad w) 0 0 6 [(0, .ref (ad 65)), (2, .int s6.1), (3, .int s6.2)] []) (fun z6_q : (Int32) => V p l e (k2_rm 1 23) s m args below meth c (inW (ccells g ad w)) (EN below args s g (ccells g ad w) (ccells g ad w) (some (.int rr))) g 6 (ccells g ad w) 0 0 80 [(2, .int z6_q)] []) ?_ 5000 ((1 <<< (a0 &&& 31)), 0) z6 hlz6 ?_
  · intro s6 rL hf hin hout
    unfold X2_partOf_L6 at hf
    refine v_iload_n hG 2 rfl rfl dX2_partOf_6 ?_
    refine v_aload_n hG 0 rfl rfl dX2_partOf_7 ?_
    refine c_g_65_1 hG wk_330 dX2_partOf_8 ?_
    refine c_g_22_8 hG wk_166 dX2_partOf_11 ?_
    refine v_icmp_ge hG 80 dX2_partOf_14 rfl hf (fun hf => ?_) (fun hf => ?_)
    · refine v_sub [(2, _)] [1] rfl ?_
      exact hout _ (Option.some.inj hf).symm
    · refine v_iconst hG (v := 0) (by decide) dX2_partOf_17 ?_
      refine v_istore hG [(4, _), (0, _), (2, _), (3, _)] dX2_partOf_18 (by decide) rfl ?_
      refine v_sub [(0, _), (2, _), (3, _), (4, _)] [1, 2, 3, 0] rfl ?_
      obtain ⟨z20, hlz20, hf⟩ := bd_some hf
      refine loop_v (step := X2_partOf_L20 w) (fun s20 : Int32 × Int32 => V p l e (k2_rm 1 23) s m args below meth c (inW (ccells g ad w)) (EN below args s g (ccells g ad w) (ccells g ad w) (some (.int rr))) g 6 (ccells g ad w) 0 0 20 [(0, .ref (ad 65)), (2, .int s20.1), (3, .int s6.2), (4, .int s20.2)] []) (fun z20_q : (Int32) => V p l e (k2_rm 1 23) s m args below meth c (inW (ccells g ad w)) (EN below args s g (ccells g ad w) (ccells g ad w) (some (.int rr))) g 6 (ccells g ad w) 0 0 74 [(0, .ref (ad 65)), (2, .int z20_q), (3, .int s6.2)] []) ?_ 5000 (s6.1, 0) z20 hlz20 ?_
      · intro s20 rL hf hin hout
        unfold X2_partOf_L20 at hf
        have j68 : ∀ (j68_0 : Int32) (j68_1 : Int32), X2_partOf_J68 j68_0 j68_1 = some rL → V p l e (k2_rm 1 23) s m args below meth c (inW (ccells g ad w)) (EN below args s g (ccells g ad w) (ccells g ad w) (some (.int rr))) g 6 (ccells g ad w) 0 0 68 [(0, .ref (ad 65)), (2, .int j68_0), (3, .int s6.2), (4, .int j68_1)] [] := by
          intro j68_0 j68_1 hf
          unfold X2_partOf_J68 at hf
          refine v_iinc hG 3 (v := j68_1 + 1) [(4, _), (0, _), (2, _), (3, _)] dX2_partOf_68 rfl rfl (by decide) rfl ?_
          refine v_goto hG 20 dX2_partOf_71 rfl ?_
          refine v_sub [(0, _), (2, _), (3, _), (4, _)] [1, 2, 3, 0] rfl ?_
          exact hin _ (Option.some.inj hf).symm
        have j54 : ∀ (j54_0 : Int32) (j54_1 : Int32) (j54_2 : Int32), X2_partOf_J54 j54_0 j54_1 j54_2 = some rL → V p l e (k2_rm 1 23) s m args below meth c (inW (ccells g ad w)) (EN below args s g (ccells g ad w) (ccells g ad w) (some (.int rr))) g 6 (ccells g ad w) 0 0 54 [(0, .ref (ad 65)), (2, .int j54_0), (3, .int s6.2), (4, .int j54_1)] [.int j54_2] := by
          intro j54_0 j54_1 j54_2 hf
          unfold X2_partOf_J54 at hf
          refine v_istore hG [(5, _), (0, _), (2, _), (3, _), (4, _)] dX2_partOf_54 (by decide) rfl ?_
          refine v_iload hG 0 rfl dX2_partOf_56 ?_
          refine v_iload_n hG 2 rfl rfl dX2_partOf_58 ?_
          refine v_iand hG dX2_partOf_59 ?_
          refine v_if_eq hG 68 dX2_partOf_60 rfl hf (fun hf => ?_) (fun hf => ?_)
          · refine v_sub [(0, _), (2, _), (3, _), (4, _)] [1, 2, 3, 4] rfl ?_
            exact j68 j54_0 j54_1 hf
          · refine v_iload_n hG 2 rfl rfl dX2_partOf_63 ?_
            refine v_iload hG 0 rfl dX2_partOf_64 ?_
            refine v_ior hG dX2_partOf_66 ?_
            refine v_istore_n hG [(2, _), (5, _), (0, _), (3, _), (4, _)] dX2_partOf_67 rfl (by decide) rfl ?_
            refine v_sub [(0, _), (2, _), (3, _), (4, _)] [2, 0, 3, 4] rfl ?_
            exact j68 (j54_0 ||| j54_2) j54_1 hf
        refine v_iload hG 3 rfl dX2_partOf_20 ?_
        refine v_aload_n hG 0 rfl rfl dX2_partOf_22 ?_
        refine c_g_65_1 hG wk_330 dX2_partOf_23 ?_
        refine c_g_22_8 hG wk_166 dX2_partOf_26 ?_
        refine v_icmp_ge hG 74 dX2_partOf_29 rfl hf (fun hf => ?_) (fun hf => ?_)
        · refine v_sub [(0, _), (2, _), (3, _)] [0, 1, 2] rfl ?_
          exact hout _ (Option.some.inj hf).symm
        · refine v_aload_n hG 0 rfl rfl dX2_partOf_32 ?_
          refine c_g_65_1 hG wk_330 dX2_partOf_33 ?_
          refine v_iload hG 3 rfl dX2_partOf_36 ?_
          obtain ⟨r38, hr38, hf⟩ := bd_some hf
          refine v_callV hG (st := []) 22 6 (ct_X6_isGone_s l g ad w s20.2 r38 hr38) iw_X6_isGone wk_932 rfl rfl ⟨rfl, rfl, Nat.le_of_ble_eq_true rfl, Nat.le_of_ble_eq_true rfl⟩ ⟨Nat.le_of_ble_eq_true rfl, Nat.le_of_ble_eq_true rfl⟩ rfl rfl (Nat.le_of_ble_eq_true rfl) (ccells_fst _ _ _ _) dX2_partOf_38 ?_
          refine (show V p l e (k2_rm 1 23) s m args below meth c (inW (ccells g ad w)) (EN below args s g (ccells g ad w) (ccells g ad w) (some (.int rr))) g 6 (ccells g ad w) 0 0 41 [(0, .ref (ad 65)), (2, .int s20.1), (3, .int s6.2), (4, .int s20.2)] [.int r38] from ?_)
          refine v_if_eq hG 48 dX2_partOf_41 rfl hf (fun hf => ?_) (fun hf => ?_)
          · refine v_aload_n hG 0 rfl rfl dX2_partOf_48 ?_
            refine v_iload hG 3 rfl dX2_partOf_49 ?_
            obtain ⟨r51, hr51, hf⟩ := bd_some hf
            refine v_callV hG (st := []) 65 2 (ct_X2_termSet l g ad w s20.2 r51 hr51) iw_X2_termSet wk_933 rfl rfl ⟨rfl, rfl, Nat.le_of_ble_eq_true rfl, Nat.le_of_ble_eq_true rfl⟩ ⟨Nat.le_of_ble_eq_true rfl, Nat.le_of_ble_eq_true rfl⟩ rfl rfl (Nat.le_of_ble_eq_true rfl) (ccells_fst _ _ _ _) dX2_partOf_51 ?_
            refine (show V p l e (k2_rm 1 23) s m args below meth c (inW (ccells g ad w)) (EN below args s g (ccells g ad w) (ccells g ad w) (some (.int rr))) g 6 (ccells g ad w) 0 0 54 [(0, .ref (ad 65)), (2, .int s20.1), (3, .int s6.2), (4, .int s20.2)] [.int r51] from ?_)
            exact j54 s20.1 s20.2 r51 hf
          · refine v_iconst hG (v := 0) (by decide) dX2_partOf_44 ?_
            refine v_goto hG 54 dX2_partOf_45 rfl ?_
            exact j54 s20.1 s20.2 0 hf
      · show V p l e (k2_rm 1 23) s m args below meth c (inW (ccells g ad w)) (EN below args s g (ccells g ad w) (ccells g ad w) (some (.int rr))) g 6 (ccells g ad w) 0 0 74 [(0, .ref (ad 65)), (2, .int z20), (3, .int s6.2)] []
        refine v_iinc hG 2 (v := s6.2 + 1) [(3, _), (0, _), (2, _)] dX2_partOf_74 rfl rfl (by decide) rfl ?_
        refine v_goto hG 6 dX2_partOf_77 rfl ?_
        refine v_sub [(0, _), (2, _), (3, _)] [1, 2, 0] rfl ?_
        exact hin _ (Option.some.inj hf).symm
  · show V p l e (k2_rm 1 23) s m args below meth c (inW (ccells g ad w)) (EN below args s g (ccells g ad w) (ccells g ad w) (some (.int rr))) g 6 (ccells g ad w) 0 0 80 [(2, .int z6)] []
    refine v_iload_n hG 0 rfl rfl dX2_partOf_80 ?_
    cases hf
    exact v_iret hG hr dX2_partOf_81
def X2_countParts_J47  (j47_0 : Int32) (j47_1 : Int32) (j47_2 : Int32) : Option ((Int32 × Int32 × Int32) ⊕ ((Int32))) := (some (.inl (j47_0, j47_1, (j47_2 + 1))))
def X2_countParts_L6 (w : CW) (s6 : Int32 × Int32 × Int32) : Option ((Int32 × Int32 × Int32) ⊕ ((Int32))) := (if (gT_columns (gC_tab w)) ≤ s6.2.2 then (some (.inr s6.2.1)) else ((X6_isThere (gC_tab w) s6.2.2).bind (fun r22 : Int32 => (if r22 = 0 then (X2_countParts_J47 s6.1 s6.2.1 s6.2.2) else (if ((s6.1 >>> (s6.2.2 &&& 31)) &&& 1) = 0 then ((X2_partOf w s6.2.2).bind (fun r39 : Int32 => (X2_countParts_J47 (s6.1 ||| r39) (s6.2.1 + 1) s6.2.2))) else (X2_countParts_J47 s6.1 s6.2.1 s6.2.2))))))
def X2_countParts (w : CW) : Option (Int32) := ((iter (X2_countParts_L6 w) 5000 (0, 0, 0)).bind (fun z6 : (Int32) => (some z6)))
set_option maxRecDepth 100000 in
set_option maxHeartbeats 4000000 in
theorem ct_X2_countParts (l : Launch) (g : wG) (ad : Nat → Nat) (w : CW)  (rr : Int32) (hf : X2_countParts w = some rr) : MetN l g yX2_countParts cX2_countParts 4 (some .int) (k2_rm 2 48) [.ref (ad 65)] (ccells g ad w) (ccells g ad w) (some (.int rr)) := by
  refine MetN.of2 [(0, .ref (ad 65))] rfl (by decide +kernel) (Nat.le_of_ble_eq_true rfl) ?_
  intro p e s m args below meth c hG hr
  unfold X2_countParts at hf
  refine v_iconst hG (v := 0) (by decide) dX2_countParts_0 ?_
  refine v_istore_n hG [(1, _), (0, _)] dX2_countParts_1 rfl (by decide) rfl ?_
  refine v_iconst hG (v := 0) (by decide) dX2_countParts_2 ?_
  refine v_istore_n hG [(2, _), (1, _), (0, _)] dX2_countParts_3 rfl (by decide) rfl ?_
  refine v_iconst hG (v := 0) (by decide) dX2_countParts_4 ?_
  refine v_istore_n hG [(3, _), (2, _), (1, _), (0, _)] dX2_countParts_5 rfl (by decide) rfl ?_
  refine v_sub [(0, _), (1, _), (2, _), (3, _)] [3, 2, 1, 0] rfl ?_
  obtain ⟨z6, hlz6, hf⟩ := bd_some hf
  refine loop_v (step := X2_countParts_L6 w) (fun s6 : Int32 × Int32 × Int32 => V p l e (k2_rm 2 48) s m args below meth c (inW (ccells g ad w)) (EN below args s g (ccells g ad w) (ccells g ad w) (some (.int rr))) g 4 (ccells g ad w) 0 0 6 [(0, .ref (ad 65)), (1, .int s6.1), (2, .int s6.2.1), (3, .int s6.2.2)] []) (fun z6_q : (Int32) => V p l e (k2_rm 2 48) s m args below meth c (inW (ccells g ad w)) (EN below args s g (ccells g ad w) (ccells g ad w) (some (.int rr))) g 4 (ccells g ad w) 0 0 53 [(2, .int z6_q)] []) ?_ 5000 (0, 0, 0) z6 hlz6 ?_
  · intro s6 rL hf hin hout
    unfold X2_countParts_L6 at hf
    have j47 : ∀ (j47_0 : Int32) (j47_1 : Int32) (j47_2 : Int32), X2_countParts_J47 j47_0 j47_1 j47_2 = some rL → V p l e (k2_rm 2 48) s m args below meth c (inW (ccells g ad w)) (EN below args s g (ccells g ad w) (ccells g ad w) (some (.int rr))) g 4 (ccells g ad w) 0 0 47 [(0, .ref (ad 65)), (1, .int j47_0), (2, .int j47_1), (3, .int j47_2)] [] := by
      intro j47_0 j47_1 j47_2 hf
      unfold X2_countParts_J47 at hf
      refine v_iinc hG 3 (v := j47_2 + 1) [(3, _), (0, _), (1, _), (2, _)] dX2_countParts_47 rfl rfl (by decide) rfl ?_
      refine v_goto hG 6 dX2_countParts_50 rfl ?_
      refine v_sub [(0, _), (1, _), (2, _), (3, _)] [1, 2, 3, 0] rfl ?_
      exact hin _ (Option.some.inj hf).symm
    refine v_iload_n hG 3 rfl rfl dX2_countParts_6 ?_
    refine v_aload_n hG 0 rfl rfl dX2_countParts_7 ?_
    refine c_g_65_1 hG wk_330 dX2_countParts_8 ?_
    refine c_g_22_7 hG wk_156 dX2_countParts_11 ?_
    refine v_icmp_ge hG 53 dX2_countParts_14 rfl hf (fun hf => ?_) (fun hf => ?_)
    · refine v_sub [(2, _)] [2] rfl ?_
      exact hout _ (Option.some.inj hf).symm
    · refine v_aload_n hG 0 rfl rfl dX2_countParts_17 ?_
      refine c_g_65_1 hG wk_330 dX2_countParts_18 ?_
      refine v_iload_n hG 3 rfl rfl dX2_countParts_21 ?_
      obtain ⟨r22, hr22, hf⟩ := bd_some hf
      refine v_callV hG (st := []) 22 6 (ct_X6_isThere_s l g ad w s6.2.2 r22 hr22) iw_X6_isThere wk_927 rfl rfl ⟨rfl, rfl, Nat.le_of_ble_eq_true rfl, Nat.le_of_ble_eq_true rfl⟩ ⟨Nat.le_of_ble_eq_true rfl, Nat.le_of_ble_eq_true rfl⟩ rfl rfl (Nat.le_of_ble_eq_true rfl) (ccells_fst _ _ _ _) dX2_countParts_22 ?_
      refine (show V p l e (k2_rm 2 48) s m args below meth c (inW (ccells g ad w)) (EN below args s g (ccells g ad w) (ccells g ad w) (some (.int rr))) g 4 (ccells g ad w) 0 0 25 [(0, .ref (ad 65)), (1, .int s6.1), (2, .int s6.2.1), (3, .int s6.2.2)] [.int r22] from ?_)
      refine v_if_eq hG 47 dX2_countParts_25 rfl hf (fun hf => ?_) (fun hf => ?_)
      · exact j47 s6.1 s6.2.1 s6.2.2 hf
      · refine v_iload_n hG 1 rfl rfl dX2_countParts_28 ?_
        refine v_iload_n hG 3 rfl rfl dX2_countParts_29 ?_
        refine v_ishr hG dX2_countParts_30 ?_
        refine v_iconst hG (v := 1) (by decide) dX2_countParts_31 ?_
        refine v_iand hG dX2_countParts_32 ?_
        refine v_if_ne hG 47 dX2_countParts_33 rfl hf (fun hf => ?_) (fun hf => ?_)
        · exact j47 s6.1 s6.2.1 s6.2.2 hf
        · refine v_iload_n hG 1 rfl rfl dX2_countParts_36 ?_
          refine v_aload_n hG 0 rfl rfl dX2_countParts_37 ?_
          refine v_iload_n hG 3 rfl rfl dX2_countParts_38 ?_
          obtain ⟨r39, hr39, hf⟩ := bd_some hf
          refine v_callV hG (st := [.int s6.1]) 65 2 (ct_X2_partOf l g ad w s6.2.2 r39 hr39) iw_X2_partOf wk_928 rfl rfl ⟨rfl, rfl, Nat.le_of_ble_eq_true rfl, Nat.le_of_ble_eq_true rfl⟩ ⟨Nat.le_of_ble_eq_true rfl, Nat.le_of_ble_eq_true rfl⟩ rfl rfl (Nat.le_of_ble_eq_true rfl) (ccells_fst _ _ _ _) dX2_countParts_39 ?_
          refine (show V p l e (k2_rm 2 48) s m args below meth c (inW (ccells g ad w)) (EN below args s g (ccells g ad w) (ccells g ad w) (some (.int rr))) g 4 (ccells g ad w) 0 0 42 [(0, .ref (ad 65)), (1, .int s6.1), (2, .int s6.2.1), (3, .int s6.2.2)] [.int r39, .int s6.1] from ?_)
          refine v_ior hG dX2_countParts_42 ?_
          refine v_istore_n hG [(1, _), (0, _), (2, _), (3, _)] dX2_countParts_43 rfl (by decide) rfl ?_
          refine v_iinc hG 2 (v := s6.2.1 + 1) [(2, _), (1, _), (0, _), (3, _)] dX2_countParts_44 rfl rfl (by decide) rfl ?_
          refine v_sub [(0, _), (1, _), (2, _), (3, _)] [2, 1, 0, 3] rfl ?_
          exact j47 (s6.1 ||| r39) (s6.2.1 + 1) s6.2.2 hf
  · show V p l e (k2_rm 2 48) s m args below meth c (inW (ccells g ad w)) (EN below args s g (ccells g ad w) (ccells g ad w) (some (.int rr))) g 4 (ccells g ad w) 0 0 53 [(2, .int z6)] []
    refine v_iload_n hG 0 rfl rfl dX2_countParts_53 ?_
    cases hf
    exact v_iret hG hr dX2_countParts_54
def X2_amount (w : CW) (a0 : Int32) (a1 : Int32) : Option (Int64) := (if inR a0 12 = true then (if inR a1 12 = true then ((J9_abs_067f4 ((gT_a (gC_tab w)) a0.toNatClampNeg a1.toNatClampNeg)).bind (fun r11 : Int64 => (some r11))) else none) else none)
set_option maxRecDepth 100000 in
set_option maxHeartbeats 4000000 in
theorem ct_X2_amount (l : Launch) (g : wG) (ad : Nat → Nat) (w : CW) (a0 : Int32) (a1 : Int32) (rr : Int64) (hf : X2_amount w a0 a1 = some rr) : MetN l g yX2_amount cX2_amount 3 (some .long) (k2_rm 1 21) [.ref (ad 65), .int a0, .int a1] (ccells g ad w) (ccells g ad w) (some (.long rr)) := by
  refine MetN.of2 [(0, .ref (ad 65)), (1, .int a0), (2, .int a1)] rfl (by decide +kernel) (Nat.le_of_ble_eq_true rfl) ?_
  intro p e s m args below meth c hG hr
  unfold X2_amount at hf
  refine v_aload_n hG 0 rfl rfl dX2_amount_0 ?_
  refine c_g_65_1 hG wk_330 dX2_amount_1 ?_
  refine c_g_22_6 hG wk_151 dX2_amount_4 ?_
  refine v_iload_n hG 1 rfl rfl dX2_amount_7 ?_
  refine c_o_29 hG dX2_amount_8 hf (fun hi8 hf => ?_)
  refine v_iload_n hG 2 rfl rfl dX2_amount_9 ?_
  refine c_rl_29 hG hi8 dX2_amount_10 hf (fun hf => ?_)
  obtain ⟨r11, hr11, hf⟩ := bd_some hf
  refine v_callP hG (st := []) (ct_J9_abs_067f4 l g ((gT_a (gC_tab w)) a0.toNatClampNeg a1.toNatClampNeg) r11 hr11) sw_J9_abs_067f4 wk_957 ⟨rfl, rfl, Nat.le_of_ble_eq_true rfl, Nat.le_of_ble_eq_true rfl⟩ ⟨Nat.le_of_ble_eq_true rfl, Nat.le_of_ble_eq_true rfl⟩ rfl rfl (Nat.le_of_ble_eq_true rfl) dX2_amount_11 ?_
  refine (show V p l e (k2_rm 1 21) s m args below meth c (inW (ccells g ad w)) (EN below args s g (ccells g ad w) (ccells g ad w) (some (.long rr))) g 3 (ccells g ad w) 0 0 14 [(0, .ref (ad 65)), (1, .int a0), (2, .int a1)] [.long r11] from ?_)
  cases hf
  exact v_lret hG hr dX2_amount_14
def X2_sortBinaryTerms_J107  (j107_0 : CW) (j107_1 : Int32) (j107_2 : Int32) : Option ((CW × Int32 × Int32) ⊕ ((CW × Int32))) := (some (.inl (j107_0, j107_1, (j107_2 + 1))))
def X2_sortBinaryTerms_L45 (a0 : Int32) (s4 : CW × Int32 × Int32) (s45 : CW × Int32) : Option ((CW × Int32) ⊕ ((CW × Int32))) := (if s45.2 ≤ 0 then (some (.inr (s45.1, s45.2))) else (if inR (s45.2 - 1) 12 = true then ((X2_amount s45.1 a0 ((gC_order s45.1) (s45.2 - 1).toNatClampNeg)).bind (fun r61 : Int64 => ((X2_amount s45.1 a0 s4.2.2).bind (fun r67 : Int64 => (if r67 ≤ r61 then (some (.inr (s45.1, s45.2))) else (if inR (s45.2 - 1) 12 = true then (if inR s45.2 12 = true then (bnd (sC_order s45.1 (upd (gC_order s45.1) s45.2.toNatClampNeg ((gC_order s45.1) (s45.2 - 1).toNatClampNeg))) (fun w89 : CW => (some (.inl (w89, (s45.2 + (-1))))))) else none) else none)))))) else none))
def X2_sortBinaryTerms_L4 (a0 : Int32) (s4 : CW × Int32 × Int32) : Option ((CW × Int32 × Int32) ⊕ ((CW × Int32))) := (if (gT_columns (gC_tab s4.1)) ≤ s4.2.2 then (some (.inr (s4.1, s4.2.1))) else (if inR a0 12 = true then (if inR s4.2.2 12 = true then (if ((gT_a (gC_tab s4.1)) a0.toNatClampNeg s4.2.2.toNatClampNeg) = 0 then (X2_sortBinaryTerms_J107 s4.1 s4.2.1 s4.2.2) else ((X6_isBinary (gC_tab s4.1) s4.2.2).bind (fun r36 : Int32 => (if r36 = 0 then (X2_sortBinaryTerms_J107 s4.1 s4.2.1 s4.2.2) else ((iter (X2_sortBinaryTerms_L45 a0 s4) 5000 (s4.1, s4.2.1)).bind (fun z45 : (CW × Int32) => (if inR z45.2 12 = true then (bnd (sC_order z45.1 (upd (gC_order z45.1) z45.2.toNatClampNeg s4.2.2)) (fun w103 : CW => (X2_sortBinaryTerms_J107 w103 (s4.2.1 + 1) s4.2.2))) else none))))))) else none) else none))
def X2_sortBinaryTerms (w : CW) (a0 : Int32) : Option (Int32 × CW) := ((iter (X2_sortBinaryTerms_L4 a0) 5000 (w, 0, 0)).bind (fun z4 : (CW × Int32) => (some (z4.2, z4.1))))
set_option maxRecDepth 100000 in
set_option maxHeartbeats 4000000 in
theorem ct_X2_sortBinaryTerms (l : Launch) (g : wG) (ad : Nat → Nat) (w : CW) (a0 : Int32) (rr : Int32 × CW) (hf : X2_sortBinaryTerms w a0 = some rr) : MetN l g yX2_sortBinaryTerms cX2_sortBinaryTerms 5 (some .int) (k2_rm 2 43) [.ref (ad 65), .int a0] (ccells g ad w) (ccells g ad rr.2) (some (.int rr.1)) := by
  refine MetN.of2 [(0, .ref (ad 65)), (1, .int a0)] rfl (by decide +kernel) (Nat.le_of_ble_eq_true rfl) ?_
  intro p e s m args below meth c hG hr
  unfold X2_sortBinaryTerms at hf
  refine v_iconst hG (v := 0) (by decide) dX2_sortBinaryTerms_0 ?_
  refine v_istore_n hG [(2, _), (0, _), (1, _)] dX2_sortBinaryTerms_1 rfl (by decide) rfl ?_
  refine v_iconst hG (v := 0) (by decide) dX2_sortBinaryTerms_2 ?_
  refine v_istore_n hG [(3, _), (2, _), (0, _), (1, _)] dX2_sortBinaryTerms_3 rfl (by decide) rfl ?_
  refine v_sub [(0, _), (1, _), (2, _), (3, _)] [2, 3, 1, 0] rfl ?_
  obtain ⟨z4, hlz4, hf⟩ := bd_some hf
  refine loop_v (step := X2_sortBinaryTerms_L4 a0) (fun s4 : CW × Int32 × Int32 => V p l e (k2_rm 2 43) s m args below meth c (inW (ccells g ad w)) (EN below args s g (ccells g ad w) (ccells g ad rr.2) (some (.int rr.1))) g 5 (ccells g ad s4.1) 0 0 4 [(0, .ref (ad 65)), (1, .int a0), (2, .int s4.2.1), (3, .int s4.2.2)] []) (fun z4_q : (CW × Int32) => V p l e (k2_rm 2 43) s m args below meth c (inW (ccells g ad w)) (EN below args s g (ccells g ad w) (ccells g ad rr.2) (some (.int rr.1))) g 5 (ccells g ad z4_q.1) 0 0 113 [(2, .int z4_q.2)] []) ?_ 5000 (w, 0, 0) z4 hlz4 ?_
  · intro s4 rL hf hin hout
    unfold X2_sortBinaryTerms_L4 at hf
    have j107 : ∀ (j107_0 : CW) (j107_1 : Int32) (j107_2 : Int32), X2_sortBinaryTerms_J107 j107_0 j107_1 j107_2 = some rL → V p l e (k2_rm 2 43) s m args below meth c (inW (ccells g ad w)) (EN below args s g (ccells g ad w) (ccells g ad rr.2) (some (.int rr.1))) g 5 (ccells g ad j107_0) 0 0 107 [(0, .ref (ad 65)), (1, .int a0), (2, .int j107_1), (3, .int j107_2)] [] := by
      intro j107_0 j107_1 j107_2 hf
      unfold X2_sortBinaryTerms_J107 at hf
      refine v_iinc hG 3 (v := j107_2 + 1) [(3, _), (0, _), (1, _), (2, _)] dX2_sortBinaryTerms_107 rfl rfl (by decide) rfl ?_
      refine v_goto hG 4 dX2_sortBinaryTerms_110 rfl ?_
      refine v_sub [(0, _), (1, _), (2, _), (3, _)] [1, 2, 3, 0] rfl ?_
      exact hin _ (Option.some.inj hf).symm
    refine v_iload_n hG 3 rfl rfl dX2_sortBinaryTerms_4 ?_
    refine v_aload_n hG 0 rfl rfl dX2_sortBinaryTerms_5 ?_
    refine c_g_65_1 hG wk_330 dX2_sortBinaryTerms_6 ?_
    refine c_g_22_7 hG wk_156 dX2_sortBinaryTerms_9 ?_
    refine v_icmp_ge hG 113 dX2_sortBinaryTerms_12 rfl hf (fun hf => ?_) (fun hf => ?_)
    · refine v_sub [(2, _)] [2] rfl ?_
      exact hout _ (Option.some.inj hf).symm
    · refine v_aload_n hG 0 rfl rfl dX2_sortBinaryTerms_15 ?_
      refine c_g_65_1 hG wk_330 dX2_sortBinaryTerms_16 ?_
      refine c_g_22_6 hG wk_151 dX2_sortBinaryTerms_19 ?_
      refine v_iload_n hG 1 rfl rfl dX2_sortBinaryTerms_22 ?_
      refine c_o_29 hG dX2_sortBinaryTerms_23 hf (fun hi23 hf => ?_)
      refine v_iload_n hG 3 rfl rfl dX2_sortBinaryTerms_24 ?_
      refine c_rl_29 hG hi23 dX2_sortBinaryTerms_25 hf (fun hf => ?_)
      refine v_lconst hG (v := 0) (by decide) dX2_sortBinaryTerms_26 ?_
      refine v_lcmp_eq hG 107 dX2_sortBinaryTerms_27 dX2_sortBinaryTerms_28 rfl hf (fun hf => ?_) (fun hf => ?_)
      · exact j107 s4.1 s4.2.1 s4.2.2 hf
      · refine v_aload_n hG 0 rfl rfl dX2_sortBinaryTerms_31 ?_
        refine c_g_65_1 hG wk_330 dX2_sortBinaryTerms_32 ?_
        refine v_iload_n hG 3 rfl rfl dX2_sortBinaryTerms_35 ?_
        obtain ⟨r36, hr36, hf⟩ := bd_some hf
        refine v_callV hG (st := []) 22 6 (ct_X6_isBinary_s l g ad s4.1 s4.2.2 r36 hr36) iw_X6_isBinary wk_952 rfl rfl ⟨rfl, rfl, Nat.le_of_ble_eq_true rfl, Nat.le_of_ble_eq_true rfl⟩ ⟨Nat.le_of_ble_eq_true rfl, Nat.le_of_ble_eq_true rfl⟩ rfl rfl (Nat.le_of_ble_eq_true rfl) (ccells_fst _ _ _ _) dX2_sortBinaryTerms_36 ?_
        refine (show V p l e (k2_rm 2 43) s m args below meth c (inW (ccells g ad w)) (EN below args s g (ccells g ad w) (ccells g ad rr.2) (some (.int rr.1))) g 5 (ccells g ad s4.1) 0 0 39 [(0, .ref (ad 65)), (1, .int a0), (2, .int s4.2.1), (3, .int s4.2.2)] [.int r36] from ?_)
        refine v_if_eq hG 107 dX2_sortBinaryTerms_39 rfl hf (fun hf => ?_) (fun hf => ?_)
        · exact j107 s4.1 s4.2.1 s4.2.2 hf
        · refine v_iload_n hG 2 rfl rfl dX2_sortBinaryTerms_42 ?_
          refine v_istore hG [(4, _), (0, _), (1, _), (2, _), (3, _)] dX2_sortBinaryTerms_43 (by decide) rfl ?_
          refine v_sub [(0, _), (1, _), (2, _), (3, _), (4, _)] [1, 2, 3, 4, 0] rfl ?_
          obtain ⟨z45, hlz45, hf⟩ := bd_some hf
          refine loop_v (step := X2_sortBinaryTerms_L45 a0 s4) (fun s45 : CW × Int32 => V p l e (k2_rm 2 43) s m args below meth c (inW (ccells g ad w)) (EN below args s g (ccells g ad w) (ccells g ad rr.2) (some (.int rr.1))) g 5 (ccells g ad s45.1) 0 0 45 [(0, .ref (ad 65)), (1, .int a0), (2, .int s4.2.1), (3, .int s4.2.2), (4, .int s45.2)] []) (fun z45_q : (CW × Int32) => V p l e (k2_rm 2 43) s m args below meth c (inW (ccells g ad w)) (EN below args s g (ccells g ad w) (ccells g ad rr.2) (some (.int rr.1))) g 5 (ccells g ad z45_q.1) 0 0 96 [(0, .ref (ad 65)), (1, .int a0), (2, .int s4.2.1), (3, .int s4.2.2), (4, .int z45_q.2)] []) ?_ 5000 (s4.1, s4.2.1) z45 hlz45 ?_
          · intro s45 rL hf hin hout
            unfold X2_sortBinaryTerms_L45 at hf
            refine v_iload hG 4 rfl dX2_sortBinaryTerms_45 ?_
            refine v_if_le hG 96 dX2_sortBinaryTerms_47 rfl hf (fun hf => ?_) (fun hf => ?_)
            · exact hout _ (Option.some.inj hf).symm
            · refine v_aload_n hG 0 rfl rfl dX2_sortBinaryTerms_50 ?_
              refine v_iload_n hG 1 rfl rfl dX2_sortBinaryTerms_51 ?_
              refine v_aload_n hG 0 rfl rfl dX2_sortBinaryTerms_52 ?_
              refine c_g_65_2 hG wk_331 dX2_sortBinaryTerms_53 ?_
              refine v_iload hG 4 rfl dX2_sortBinaryTerms_56 ?_
              refine v_iconst hG (v := 1) (by decide) dX2_sortBinaryTerms_58 ?_
              refine v_isub hG dX2_sortBinaryTerms_59 ?_
              refine c_l_66 hG dX2_sortBinaryTerms_60 hf (fun hf => ?_)
              obtain ⟨r61, hr61, hf⟩ := bd_some hf
              refine v_callV hG (st := []) 65 2 (ct_X2_amount l g ad s45.1 a0 ((gC_order s45.1) (s45.2 - 1).toNatClampNeg) r61 hr61) iw_X2_amount wk_953 rfl rfl ⟨rfl, rfl, Nat.le_of_ble_eq_true rfl, Nat.le_of_ble_eq_true rfl⟩ ⟨Nat.le_of_ble_eq_true rfl, Nat.le_of_ble_eq_true rfl⟩ rfl rfl (Nat.le_of_ble_eq_true rfl) (ccells_fst _ _ _ _) dX2_sortBinaryTerms_61 ?_
              refine (show V p l e (k2_rm 2 43) s m args below meth c (inW (ccells g ad w)) (EN below args s g (ccells g ad w) (ccells g ad rr.2) (some (.int rr.1))) g 5 (ccells g ad s45.1) 0 0 64 [(0, .ref (ad 65)), (1, .int a0), (2, .int s4.2.1), (3, .int s4.2.2), (4, .int s45.2)] [.long r61] from ?_)
              refine v_aload_n hG 0 rfl rfl dX2_sortBinaryTerms_64 ?_
              refine v_iload_n hG 1 rfl rfl dX2_sortBinaryTerms_65 ?_
              refine v_iload_n hG 3 rfl rfl dX2_sortBinaryTerms_66 ?_
              obtain ⟨r67, hr67, hf⟩ := bd_some hf
              refine v_callV hG (st := [.long r61]) 65 2 (ct_X2_amount l g ad s45.1 a0 s4.2.2 r67 hr67) iw_X2_amount wk_953 rfl rfl ⟨rfl, rfl, Nat.le_of_ble_eq_true rfl, Nat.le_of_ble_eq_true rfl⟩ ⟨Nat.le_of_ble_eq_true rfl, Nat.le_of_ble_eq_true rfl⟩ rfl rfl (Nat.le_of_ble_eq_true rfl) (ccells_fst _ _ _ _) dX2_sortBinaryTerms_67 ?_
              refine (show V p l e (k2_rm 2 43) s m args below meth c (inW (ccells g ad w)) (EN below args s g (ccells g ad w) (ccells g ad rr.2) (some (.int rr.1))) g 5 (ccells g ad s45.1) 0 0 70 [(0, .ref (ad 65)), (1, .int a0), (2, .int s4.2.1), (3, .int s4.2.2), (4, .int s45.2)] [.long r67, .long r61] from ?_)
              refine v_lcmp_ge hG 96 dX2_sortBinaryTerms_70 dX2_sortBinaryTerms_71 rfl hf (fun hf => ?_) (fun hf => ?_)
              · exact hout _ (Option.some.inj hf).symm
              · refine v_aload_n hG 0 rfl rfl dX2_sortBinaryTerms_74 ?_
                refine c_g_65_2 hG wk_331 dX2_sortBinaryTerms_75 ?_
                refine v_iload hG 4 rfl dX2_sortBinaryTerms_78 ?_
                refine v_aload_n hG 0 rfl rfl dX2_sortBinaryTerms_80 ?_
                refine c_g_65_2 hG wk_331 dX2_sortBinaryTerms_81 ?_
                refine v_iload hG 4 rfl dX2_sortBinaryTerms_84 ?_
                refine v_iconst hG (v := 1) (by decide) dX2_sortBinaryTerms_86 ?_
                refine v_isub hG dX2_sortBinaryTerms_87 ?_
                refine c_l_66 hG dX2_sortBinaryTerms_88 hf (fun hf => ?_)
                refine c_s_66 hG dX2_sortBinaryTerms_89 hf (fun w89 hf => ?_)
                refine v_iinc hG 4 (v := s45.2 + (-1)) [(4, _), (0, _), (1, _), (2, _), (3, _)] dX2_sortBinaryTerms_90 rfl rfl (by decide) rfl ?_
                refine v_goto hG 45 dX2_sortBinaryTerms_93 rfl ?_
                refine v_sub [(0, _), (1, _), (2, _), (3, _), (4, _)] [1, 2, 3, 4, 0] rfl ?_
                exact hin _ (Option.some.inj hf).symm
          · show V p l e (k2_rm 2 43) s m args below meth c (inW (ccells g ad w)) (EN below args s g (ccells g ad w) (ccells g ad rr.2) (some (.int rr.1))) g 5 (ccells g ad z45.1) 0 0 96 [(0, .ref (ad 65)), (1, .int a0), (2, .int s4.2.1), (3, .int s4.2.2), (4, .int z45.2)] []
            refine v_aload_n hG 0 rfl rfl dX2_sortBinaryTerms_96 ?_
            refine c_g_65_2 hG wk_331 dX2_sortBinaryTerms_97 ?_
            refine v_iload hG 4 rfl dX2_sortBinaryTerms_100 ?_
            refine v_iload_n hG 3 rfl rfl dX2_sortBinaryTerms_102 ?_
            refine c_s_66 hG dX2_sortBinaryTerms_103 hf (fun w103 hf => ?_)
            refine v_iinc hG 2 (v := s4.2.1 + 1) [(2, _), (0, _), (1, _), (3, _), (4, _)] dX2_sortBinaryTerms_104 rfl rfl (by decide) rfl ?_
            refine v_sub [(0, _), (1, _), (2, _), (3, _)] [1, 2, 0, 3] rfl ?_
            exact j107 w103 (s4.2.1 + 1) s4.2.2 hf
  · show V p l e (k2_rm 2 43) s m args below meth c (inW (ccells g ad w)) (EN below args s g (ccells g ad w) (ccells g ad rr.2) (some (.int rr.1))) g 5 (ccells g ad z4.1) 0 0 113 [(2, .int z4.2)] []
    refine v_iload_n hG 0 rfl rfl dX2_sortBinaryTerms_113 ?_
    cases hf
    exact v_iret hG hr dX2_sortBinaryTerms_114
def X2_findClique_J90  (j90_0 : Int32) (j90_1 : Int32) : Option ((Int32 × Int32) ⊕ ((Int32))) := (some (.inl (j90_0, (j90_1 + 1))))
def X2_findClique_L46 (a0 : Int32) (r15 : Int32 × CW) (r35 : Int64) (s46 : Int32 × Int32) : Option ((Int32 × Int32) ⊕ ((Int32))) := (if r15.1 ≤ s46.2 then (some (.inr s46.1)) else (if inR (s46.2 - 1) 12 = true then ((X2_amount r15.2 a0 ((gC_order r15.2) (s46.2 - 1).toNatClampNeg)).bind (fun r63 : Int64 => (if inR s46.2 12 = true then ((X2_amount r15.2 a0 ((gC_order r15.2) s46.2.toNatClampNeg)).bind (fun r75 : Int64 => (if (r63 + r75) ≤ (((gT_right (gC_tab r15.2)) a0.toNatClampNeg) - r35) then (X2_findClique_J90 s46.1 s46.2) else (X2_findClique_J90 (s46.2 + 1) s46.2)))) else none))) else none))
def X2_findClique (w : CW) (a0 : Int32) : Option (Int32 × CW) := ((X6_isGone (gC_tab w) a0).bind (fun r5 : Int32 => (if r5 = 0 then ((X2_sortBinaryTerms w a0).bind (fun r15 : Int32 × CW => (if inR a0 12 = true then ((X5_reach r15.2 a0 (-1) 0).bind (fun r35 : Int64 => ((iter (X2_findClique_L46 a0 r15 r35) 5000 (0, 1)).bind (fun z46 : (Int32) => (some (z46, r15.2)))))) else none))) else (some (0, w)))))
set_option maxRecDepth 100000 in
set_option maxHeartbeats 4000000 in
theorem ct_X2_findClique (l : Launch) (g : wG) (ad : Nat → Nat) (w : CW) (a0 : Int32) (rr : Int32 × CW) (hf : X2_findClique w a0 = some rr) : MetN l g yX2_findClique cX2_findClique 7 (some .int) (k2_rm 3 67) [.ref (ad 65), .int a0] (ccells g ad w) (ccells g ad rr.2) (some (.int rr.1)) := by
  refine MetN.of2 [(0, .ref (ad 65)), (1, .int a0)] rfl (by decide +kernel) (Nat.le_of_ble_eq_true rfl) ?_
  intro p e s m args below meth c hG hr
  unfold X2_findClique at hf
  refine v_aload_n hG 0 rfl rfl dX2_findClique_0 ?_
  refine c_g_65_1 hG wk_330 dX2_findClique_1 ?_
  refine v_iload_n hG 1 rfl rfl dX2_findClique_4 ?_
  obtain ⟨r5, hr5, hf⟩ := bd_some hf
  refine v_callV hG (st := []) 22 6 (ct_X6_isGone_s l g ad w a0 r5 hr5) iw_X6_isGone wk_932 rfl rfl ⟨rfl, rfl, Nat.le_of_ble_eq_true rfl, Nat.le_of_ble_eq_true rfl⟩ ⟨Nat.le_of_ble_eq_true rfl, Nat.le_of_ble_eq_true rfl⟩ rfl rfl (Nat.le_of_ble_eq_true rfl) (ccells_fst _ _ _ _) dX2_findClique_5 ?_
  refine (show V p l e (k2_rm 3 67) s m args below meth c (inW (ccells g ad w)) (EN below args s g (ccells g ad w) (ccells g ad rr.2) (some (.int rr.1))) g 7 (ccells g ad w) 0 0 8 [(0, .ref (ad 65)), (1, .int a0)] [.int r5] from ?_)
  refine v_if_eq hG 13 dX2_findClique_8 rfl hf (fun hf => ?_) (fun hf => ?_)
  · refine v_aload_n hG 0 rfl rfl dX2_findClique_13 ?_
    refine v_iload_n hG 1 rfl rfl dX2_findClique_14 ?_
    obtain ⟨r15, hr15, hf⟩ := bd_some hf
    refine v_callV hG (st := []) 65 2 (ct_X2_sortBinaryTerms l g ad w a0 r15 hr15) iw_X2_sortBinaryTerms wk_948 rfl rfl ⟨rfl, rfl, Nat.le_of_ble_eq_true rfl, Nat.le_of_ble_eq_true rfl⟩ ⟨Nat.le_of_ble_eq_true rfl, Nat.le_of_ble_eq_true rfl⟩ rfl rfl (Nat.le_of_ble_eq_true rfl) (ccells_fst _ _ _ _) dX2_findClique_15 ?_
    refine (show V p l e (k2_rm 3 67) s m args below meth c (inW (ccells g ad w)) (EN below args s g (ccells g ad w) (ccells g ad rr.2) (some (.int rr.1))) g 7 (ccells g ad r15.2) 0 0 18 [(0, .ref (ad 65)), (1, .int a0)] [.int r15.1] from ?_)
    refine v_istore_n hG [(2, _), (0, _), (1, _)] dX2_findClique_18 rfl (by decide) rfl ?_
    refine v_aload_n hG 1 rfl rfl dX2_findClique_19 ?_
    refine c_g_65_1 hG wk_330 dX2_findClique_20 ?_
    refine c_g_22_5 hG wk_146 dX2_findClique_23 ?_
    refine v_iload_n hG 2 rfl rfl dX2_findClique_26 ?_
    refine c_l_28 hG dX2_findClique_27 hf (fun hf => ?_)
    refine v_aload_n hG 1 rfl rfl dX2_findClique_28 ?_
    refine c_g_65_0 hG wk_329 dX2_findClique_29 ?_
    refine v_iload_n hG 2 rfl rfl dX2_findClique_32 ?_
    refine v_iconst hG (v := -1) (by decide) dX2_findClique_33 ?_
    refine v_iconst hG (v := 0) (by decide) dX2_findClique_34 ?_
    obtain ⟨r35, hr35, hf⟩ := bd_some hf
    refine v_callV hG (st := [.long ((gT_right (gC_tab r15.2)) a0.toNatClampNeg)]) 21 5 (ct_X5_reach l g ad r15.2 a0 (-1) 0 r35 hr35) iw_X5_reach wk_958 rfl rfl ⟨rfl, rfl, Nat.le_of_ble_eq_true rfl, Nat.le_of_ble_eq_true rfl⟩ ⟨Nat.le_of_ble_eq_true rfl, Nat.le_of_ble_eq_true rfl⟩ rfl rfl (Nat.le_of_ble_eq_true rfl) (ccells_fst _ _ _ _) dX2_findClique_35 ?_
    refine (show V p l e (k2_rm 3 67) s m args below meth c (inW (ccells g ad w)) (EN below args s g (ccells g ad w) (ccells g ad rr.2) (some (.int rr.1))) g 7 (ccells g ad r15.2) 0 0 38 [(2, .int r15.1), (0, .ref (ad 65)), (1, .int a0)] [.long r35, .long ((gT_right (gC_tab r15.2)) a0.toNatClampNeg)] from ?_)
    refine v_lsub hG dX2_findClique_38 ?_
    refine v_lstore_n hG [(3, _), (2, _), (0, _), (1, _)] dX2_findClique_39 rfl (by decide) rfl ?_
    refine v_iconst hG (v := 0) (by decide) dX2_findClique_40 ?_
    refine v_istore hG [(5, _), (3, _), (2, _), (0, _), (1, _)] dX2_findClique_41 (by decide) rfl ?_
    refine v_iconst hG (v := 1) (by decide) dX2_findClique_43 ?_
    refine v_istore hG [(6, _), (5, _), (3, _), (2, _), (0, _), (1, _)] dX2_findClique_44 (by decide) rfl ?_
    refine v_sub [(0, _), (1, _), (2, _), (3, _), (5, _), (6, _)] [4, 5, 3, 2, 1, 0] rfl ?_
    obtain ⟨z46, hlz46, hf⟩ := bd_some hf
    refine loop_v (step := X2_findClique_L46 a0 r15 r35) (fun s46 : Int32 × Int32 => V p l e (k2_rm 3 67) s m args below meth c (inW (ccells g ad w)) (EN below args s g (ccells g ad w) (ccells g ad rr.2) (some (.int rr.1))) g 7 (ccells g ad r15.2) 0 0 46 [(0, .ref (ad 65)), (1, .int a0), (2, .int r15.1), (3, .long (((gT_right (gC_tab r15.2)) a0.toNatClampNeg) - r35)), (5, .int s46.1), (6, .int s46.2)] []) (fun z46_q : (Int32) => V p l e (k2_rm 3 67) s m args below meth c (inW (ccells g ad w)) (EN below args s g (ccells g ad w) (ccells g ad rr.2) (some (.int rr.1))) g 7 (ccells g ad r15.2) 0 0 96 [(5, .int z46_q)] []) ?_ 5000 (0, 1) z46 hlz46 ?_
    · intro s46 rL hf hin hout
      unfold X2_findClique_L46 at hf
      have j90 : ∀ (j90_0 : Int32) (j90_1 : Int32), X2_findClique_J90 j90_0 j90_1 = some rL → V p l e (k2_rm 3 67) s m args below meth c (inW (ccells g ad w)) (EN below args s g (ccells g ad w) (ccells g ad rr.2) (some (.int rr.1))) g 7 (ccells g ad r15.2) 0 0 90 [(0, .ref (ad 65)), (1, .int a0), (2, .int r15.1), (3, .long (((gT_right (gC_tab r15.2)) a0.toNatClampNeg) - r35)), (5, .int j90_0), (6, .int j90_1)] [] := by
        intro j90_0 j90_1 hf
        unfold X2_findClique_J90 at hf
        refine v_iinc hG 5 (v := j90_1 + 1) [(6, _), (0, _), (1, _), (2, _), (3, _), (5, _)] dX2_findClique_90 rfl rfl (by decide) rfl ?_
        refine v_goto hG 46 dX2_findClique_93 rfl ?_
        refine v_sub [(0, _), (1, _), (2, _), (3, _), (5, _), (6, _)] [1, 2, 3, 4, 5, 0] rfl ?_
        exact hin _ (Option.some.inj hf).symm
      refine v_iload hG 5 rfl dX2_findClique_46 ?_
      refine v_iload_n hG 2 rfl rfl dX2_findClique_48 ?_
      refine v_icmp_ge hG 96 dX2_findClique_49 rfl hf (fun hf => ?_) (fun hf => ?_)
      · refine v_sub [(5, _)] [4] rfl ?_
        exact hout _ (Option.some.inj hf).symm
      · refine v_aload_n hG 0 rfl rfl dX2_findClique_52 ?_
        refine v_iload_n hG 1 rfl rfl dX2_findClique_53 ?_
        refine v_aload_n hG 0 rfl rfl dX2_findClique_54 ?_
        refine c_g_65_2 hG wk_331 dX2_findClique_55 ?_
        refine v_iload hG 5 rfl dX2_findClique_58 ?_
        refine v_iconst hG (v := 1) (by decide) dX2_findClique_60 ?_
        refine v_isub hG dX2_findClique_61 ?_
        refine c_l_66 hG dX2_findClique_62 hf (fun hf => ?_)
        obtain ⟨r63, hr63, hf⟩ := bd_some hf
        refine v_callV hG (st := []) 65 2 (ct_X2_amount l g ad r15.2 a0 ((gC_order r15.2) (s46.2 - 1).toNatClampNeg) r63 hr63) iw_X2_amount wk_953 rfl rfl ⟨rfl, rfl, Nat.le_of_ble_eq_true rfl, Nat.le_of_ble_eq_true rfl⟩ ⟨Nat.le_of_ble_eq_true rfl, Nat.le_of_ble_eq_true rfl⟩ rfl rfl (Nat.le_of_ble_eq_true rfl) (ccells_fst _ _ _ _) dX2_findClique_63 ?_
        refine (show V p l e (k2_rm 3 67) s m args below meth c (inW (ccells g ad w)) (EN below args s g (ccells g ad w) (ccells g ad rr.2) (some (.int rr.1))) g 7 (ccells g ad r15.2) 0 0 66 [(0, .ref (ad 65)), (1, .int a0), (2, .int r15.1), (3, .long (((gT_right (gC_tab r15.2)) a0.toNatClampNeg) - r35)), (5, .int s46.1), (6, .int s46.2)] [.long r63] from ?_)
        refine v_aload_n hG 0 rfl rfl dX2_findClique_66 ?_
        refine v_iload_n hG 1 rfl rfl dX2_findClique_67 ?_
        refine v_aload_n hG 0 rfl rfl dX2_findClique_68 ?_
        refine c_g_65_2 hG wk_331 dX2_findClique_69 ?_
        refine v_iload hG 5 rfl dX2_findClique_72 ?_
        refine c_l_66 hG dX2_findClique_74 hf (fun hf => ?_)
        obtain ⟨r75, hr75, hf⟩ := bd_some hf
        refine v_callV hG (st := [.long r63]) 65 2 (ct_X2_amount l g ad r15.2 a0 ((gC_order r15.2) s46.2.toNatClampNeg) r75 hr75) iw_X2_amount wk_953 rfl rfl ⟨rfl, rfl, Nat.le_of_ble_eq_true rfl, Nat.le_of_ble_eq_true rfl⟩ ⟨Nat.le_of_ble_eq_true rfl, Nat.le_of_ble_eq_true rfl⟩ rfl rfl (Nat.le_of_ble_eq_true rfl) (ccells_fst _ _ _ _) dX2_findClique_75 ?_
        refine (show V p l e (k2_rm 3 67) s m args below meth c (inW (ccells g ad w)) (EN below args s g (ccells g ad w) (ccells g ad rr.2) (some (.int rr.1))) g 7 (ccells g ad r15.2) 0 0 78 [(0, .ref (ad 65)), (1, .int a0), (2, .int r15.1), (3, .long (((gT_right (gC_tab r15.2)) a0.toNatClampNeg) - r35)), (5, .int s46.1), (6, .int s46.2)] [.long r75, .long r63] from ?_)
        refine v_ladd hG dX2_findClique_78 ?_
        refine v_lload_n hG 3 rfl rfl dX2_findClique_79 ?_
        refine v_lcmp_le hG 90 dX2_findClique_80 dX2_findClique_81 rfl hf (fun hf => ?_) (fun hf => ?_)
        · exact j90 s46.1 s46.2 hf
        · refine v_iload hG 5 rfl dX2_findClique_84 ?_
          refine v_iconst hG (v := 1) (by decide) dX2_findClique_86 ?_
          refine v_iadd hG dX2_findClique_87 ?_
          refine v_istore hG [(5, _), (0, _), (1, _), (2, _), (3, _), (6, _)] dX2_findClique_88 (by decide) rfl ?_
          refine v_sub [(0, _), (1, _), (2, _), (3, _), (5, _), (6, _)] [1, 2, 3, 4, 0, 5] rfl ?_
          exact j90 (s46.2 + 1) s46.2 hf
    · show V p l e (k2_rm 3 67) s m args below meth c (inW (ccells g ad w)) (EN below args s g (ccells g ad w) (ccells g ad rr.2) (some (.int rr.1))) g 7 (ccells g ad r15.2) 0 0 96 [(5, .int z46)] []
      refine v_iload hG 0 rfl dX2_findClique_96 ?_
      cases hf
      exact v_iret hG hr dX2_findClique_98
  · refine v_iconst hG (v := 0) (by decide) dX2_findClique_11 ?_
    cases hf
    exact v_iret hG hr dX2_findClique_12
def X2_areSame_J144  (j144_0 : Int32) : Option ((Int32) ⊕ ((Unit) ⊕ (Unit))) := (some (.inl (j144_0 + 1)))
def X2_areSame_L94 (w : CW) (a0 : Int32) (a1 : Int32) (s94 : Int32) : Option ((Int32) ⊕ ((Unit) ⊕ (Unit))) := (if (gT_rows (gC_tab w)) ≤ s94 then (some (.inr (.inr ()))) else ((X6_isGone (gC_tab w) s94).bind (fun r110 : Int32 => (if r110 = 0 then (if inR s94 12 = true then (if inR a0 12 = true then (if inR s94 12 = true then (if inR a1 12 = true then (if ((gT_a (gC_tab w)) s94.toNatClampNeg a0.toNatClampNeg) = ((gT_a (gC_tab w)) s94.toNatClampNeg a1.toNatClampNeg) then (X2_areSame_J144 s94) else (some (.inr (.inl ())))) else none) else none) else none) else none) else (X2_areSame_J144 s94)))))
def X2_areSame (w : CW) (a0 : Int32) (a1 : Int32) : Option (Int32) := ((X6_isThere (gC_tab w) a0).bind (fun r5 : Int32 => (if r5 = 0 then (some 0) else ((X6_isThere (gC_tab w) a1).bind (fun r16 : Int32 => (if r16 = 0 then (some 0) else (if inR a0 12 = true then (if inR a1 12 = true then (if ((gT_low (gC_tab w)) a0.toNatClampNeg) = ((gT_low (gC_tab w)) a1.toNatClampNeg) then (if inR a0 12 = true then (if inR a1 12 = true then (if ((gT_high (gC_tab w)) a0.toNatClampNeg) = ((gT_high (gC_tab w)) a1.toNatClampNeg) then (if inR a0 12 = true then (if inR a1 12 = true then (if ((gT_cost (gC_tab w)) a0.toNatClampNeg) = ((gT_cost (gC_tab w)) a1.toNatClampNeg) then ((iter (X2_areSame_L94 w a0 a1) 5000 0).bind (fun z94 : (Unit) ⊕ (Unit) => (Sum.elim (fun z94_0 : Unit => (some 0)) (fun z94_r0 : (Unit) => (some 1)) z94))) else (some 0)) else none) else none) else (some 0)) else none) else none) else (some 0)) else none) else none)))))))
set_option maxRecDepth 100000 in
set_option maxHeartbeats 4000000 in
theorem ct_X2_areSame (l : Launch) (g : wG) (ad : Nat → Nat) (w : CW) (a0 : Int32) (a1 : Int32) (rr : Int32) (hf : X2_areSame w a0 a1 = some rr) : MetN l g yX2_areSame cX2_areSame 4 (some .boolean) (k2_rm 1 21) [.ref (ad 65), .int a0, .int a1] (ccells g ad w) (ccells g ad w) (some (.int rr)) := by
  refine MetN.of2 [(0, .ref (ad 65)), (1, .int a0), (2, .int a1)] rfl (by decide +kernel) (Nat.le_of_ble_eq_true rfl) ?_
  intro p e s m args below meth c hG hr
  unfold X2_areSame at hf
  refine v_aload_n hG 0 rfl rfl dX2_areSame_0 ?_
  refine c_g_65_1 hG wk_330 dX2_areSame_1 ?_
  refine v_iload_n hG 1 rfl rfl dX2_areSame_4 ?_
  obtain ⟨r5, hr5, hf⟩ := bd_some hf
  refine v_callV hG (st := []) 22 6 (ct_X6_isThere_s l g ad w a0 r5 hr5) iw_X6_isThere wk_927 rfl rfl ⟨rfl, rfl, Nat.le_of_ble_eq_true rfl, Nat.le_of_ble_eq_true rfl⟩ ⟨Nat.le_of_ble_eq_true rfl, Nat.le_of_ble_eq_true rfl⟩ rfl rfl (Nat.le_of_ble_eq_true rfl) (ccells_fst _ _ _ _) dX2_areSame_5 ?_
  refine (show V p l e (k2_rm 1 21) s m args below meth c (inW (ccells g ad w)) (EN below args s g (ccells g ad w) (ccells g ad w) (some (.int rr))) g 4 (ccells g ad w) 0 0 8 [(0, .ref (ad 65)), (1, .int a0), (2, .int a1)] [.int r5] from ?_)
  refine v_if_eq hG 22 dX2_areSame_8 rfl hf (fun hf => ?_) (fun hf => ?_)
  · refine v_iconst hG (v := 0) (by decide) dX2_areSame_22 ?_
    cases hf
    exact v_zret (x := 0) hG hr rfl dX2_areSame_23
  · refine v_aload_n hG 0 rfl rfl dX2_areSame_11 ?_
    refine c_g_65_1 hG wk_330 dX2_areSame_12 ?_
    refine v_iload_n hG 2 rfl rfl dX2_areSame_15 ?_
    obtain ⟨r16, hr16, hf⟩ := bd_some hf
    refine v_callV hG (st := []) 22 6 (ct_X6_isThere_s l g ad w a1 r16 hr16) iw_X6_isThere wk_927 rfl rfl ⟨rfl, rfl, Nat.le_of_ble_eq_true rfl, Nat.le_of_ble_eq_true rfl⟩ ⟨Nat.le_of_ble_eq_true rfl, Nat.le_of_ble_eq_true rfl⟩ rfl rfl (Nat.le_of_ble_eq_true rfl) (ccells_fst _ _ _ _) dX2_areSame_16 ?_
    refine (show V p l e (k2_rm 1 21) s m args below meth c (inW (ccells g ad w)) (EN below args s g (ccells g ad w) (ccells g ad w) (some (.int rr))) g 4 (ccells g ad w) 0 0 19 [(0, .ref (ad 65)), (1, .int a0), (2, .int a1)] [.int r16] from ?_)
    refine v_if_ne hG 24 dX2_areSame_19 rfl hf (fun hf => ?_) (fun hf => ?_)
    · refine v_aload_n hG 0 rfl rfl dX2_areSame_24 ?_
      refine c_g_65_1 hG wk_330 dX2_areSame_25 ?_
      refine c_g_22_0 hG wk_120 dX2_areSame_28 ?_
      refine v_iload_n hG 1 rfl rfl dX2_areSame_31 ?_
      refine c_l_23 hG dX2_areSame_32 hf (fun hf => ?_)
      refine v_aload_n hG 0 rfl rfl dX2_areSame_33 ?_
      refine c_g_65_1 hG wk_330 dX2_areSame_34 ?_
      refine c_g_22_0 hG wk_120 dX2_areSame_37 ?_
      refine v_iload_n hG 2 rfl rfl dX2_areSame_40 ?_
      refine c_l_23 hG dX2_areSame_41 hf (fun hf => ?_)
      refine v_lcmp_ne hG 90 dX2_areSame_42 dX2_areSame_43 rfl hf (fun hf => ?_) (fun hf => ?_)
      · refine v_iconst hG (v := 0) (by decide) dX2_areSame_90 ?_
        cases hf
        exact v_zret (x := 0) hG hr rfl dX2_areSame_91
      · refine v_aload_n hG 0 rfl rfl dX2_areSame_46 ?_
        refine c_g_65_1 hG wk_330 dX2_areSame_47 ?_
        refine c_g_22_1 hG wk_127 dX2_areSame_50 ?_
        refine v_iload_n hG 1 rfl rfl dX2_areSame_53 ?_
        refine c_l_24 hG dX2_areSame_54 hf (fun hf => ?_)
        refine v_aload_n hG 0 rfl rfl dX2_areSame_55 ?_
        refine c_g_65_1 hG wk_330 dX2_areSame_56 ?_
        refine c_g_22_1 hG wk_127 dX2_areSame_59 ?_
        refine v_iload_n hG 2 rfl rfl dX2_areSame_62 ?_
        refine c_l_24 hG dX2_areSame_63 hf (fun hf => ?_)
        refine v_lcmp_ne hG 90 dX2_areSame_64 dX2_areSame_65 rfl hf (fun hf => ?_) (fun hf => ?_)
        · refine v_iconst hG (v := 0) (by decide) dX2_areSame_90 ?_
          cases hf
          exact v_zret (x := 0) hG hr rfl dX2_areSame_91
        · refine v_aload_n hG 0 rfl rfl dX2_areSame_68 ?_
          refine c_g_65_1 hG wk_330 dX2_areSame_69 ?_
          refine c_g_22_2 hG wk_133 dX2_areSame_72 ?_
          refine v_iload_n hG 1 rfl rfl dX2_areSame_75 ?_
          refine c_l_25 hG dX2_areSame_76 hf (fun hf => ?_)
          refine v_aload_n hG 0 rfl rfl dX2_areSame_77 ?_
          refine c_g_65_1 hG wk_330 dX2_areSame_78 ?_
          refine c_g_22_2 hG wk_133 dX2_areSame_81 ?_
          refine v_iload_n hG 2 rfl rfl dX2_areSame_84 ?_
          refine c_l_25 hG dX2_areSame_85 hf (fun hf => ?_)
          refine v_lcmp_eq hG 92 dX2_areSame_86 dX2_areSame_87 rfl hf (fun hf => ?_) (fun hf => ?_)
          · refine v_iconst hG (v := 0) (by decide) dX2_areSame_92 ?_
            refine v_istore_n hG [(3, _), (0, _), (1, _), (2, _)] dX2_areSame_93 rfl (by decide) rfl ?_
            refine v_sub [(0, _), (1, _), (2, _), (3, _)] [1, 2, 3, 0] rfl ?_
            obtain ⟨z94, hlz94, hf⟩ := bd_some hf
            refine loop_v (step := X2_areSame_L94 w a0 a1) (fun s94 : Int32 => V p l e (k2_rm 1 21) s m args below meth c (inW (ccells g ad w)) (EN below args s g (ccells g ad w) (ccells g ad w) (some (.int rr))) g 4 (ccells g ad w) 0 0 94 [(0, .ref (ad 65)), (1, .int a0), (2, .int a1), (3, .int s94)] []) (fun z94_q : (Unit) ⊕ (Unit) => Sum.elim (fun z94_0 : Unit => V p l e (k2_rm 1 21) s m args below meth c (inW (ccells g ad w)) (EN below args s g (ccells g ad w) (ccells g ad w) (some (.int rr))) g 4 (ccells g ad w) 0 0 142 [] []) (fun z94_r0 : (Unit) => V p l e (k2_rm 1 21) s m args below meth c (inW (ccells g ad w)) (EN below args s g (ccells g ad w) (ccells g ad w) (some (.int rr))) g 4 (ccells g ad w) 0 0 150 [] []) z94_q) ?_ 5000 0 z94 hlz94 ?_
            · intro s94 rL hf hin hout
              unfold X2_areSame_L94 at hf
              have j144 : ∀ (j144_0 : Int32), X2_areSame_J144 j144_0 = some rL → V p l e (k2_rm 1 21) s m args below meth c (inW (ccells g ad w)) (EN below args s g (ccells g ad w) (ccells g ad w) (some (.int rr))) g 4 (ccells g ad w) 0 0 144 [(0, .ref (ad 65)), (1, .int a0), (2, .int a1), (3, .int j144_0)] [] := by
                intro j144_0 hf
                unfold X2_areSame_J144 at hf
                refine v_iinc hG 3 (v := j144_0 + 1) [(3, _), (0, _), (1, _), (2, _)] dX2_areSame_144 rfl rfl (by decide) rfl ?_
                refine v_goto hG 94 dX2_areSame_147 rfl ?_
                refine v_sub [(0, _), (1, _), (2, _), (3, _)] [1, 2, 3, 0] rfl ?_
                exact hin _ (Option.some.inj hf).symm
              refine v_iload_n hG 3 rfl rfl dX2_areSame_94 ?_
              refine v_aload_n hG 0 rfl rfl dX2_areSame_95 ?_
              refine c_g_65_1 hG wk_330 dX2_areSame_96 ?_
              refine c_g_22_8 hG wk_166 dX2_areSame_99 ?_
              refine v_icmp_ge hG 150 dX2_areSame_102 rfl hf (fun hf => ?_) (fun hf => ?_)
              · refine v_sub [] [] rfl ?_
                exact hout _ (Option.some.inj hf).symm
              · refine v_aload_n hG 0 rfl rfl dX2_areSame_105 ?_
                refine c_g_65_1 hG wk_330 dX2_areSame_106 ?_
                refine v_iload_n hG 3 rfl rfl dX2_areSame_109 ?_
                obtain ⟨r110, hr110, hf⟩ := bd_some hf
                refine v_callV hG (st := []) 22 6 (ct_X6_isGone_s l g ad w s94 r110 hr110) iw_X6_isGone wk_932 rfl rfl ⟨rfl, rfl, Nat.le_of_ble_eq_true rfl, Nat.le_of_ble_eq_true rfl⟩ ⟨Nat.le_of_ble_eq_true rfl, Nat.le_of_ble_eq_true rfl⟩ rfl rfl (Nat.le_of_ble_eq_true rfl) (ccells_fst _ _ _ _) dX2_areSame_110 ?_
                refine (show V p l e (k2_rm 1 21) s m args below meth c (inW (ccells g ad w)) (EN below args s g (ccells g ad w) (ccells g ad w) (some (.int rr))) g 4 (ccells g ad w) 0 0 113 [(0, .ref (ad 65)), (1, .int a0), (2, .int a1), (3, .int s94)] [.int r110] from ?_)
                refine v_if_ne hG 144 dX2_areSame_113 rfl hf (fun hf => ?_) (fun hf => ?_)
                · exact j144 s94 hf
                · refine v_aload_n hG 0 rfl rfl dX2_areSame_116 ?_
                  refine c_g_65_1 hG wk_330 dX2_areSame_117 ?_
                  refine c_g_22_6 hG wk_151 dX2_areSame_120 ?_
                  refine v_iload_n hG 3 rfl rfl dX2_areSame_123 ?_
                  refine c_o_29 hG dX2_areSame_124 hf (fun hi124 hf => ?_)
                  refine v_iload_n hG 1 rfl rfl dX2_areSame_125 ?_
                  refine c_rl_29 hG hi124 dX2_areSame_126 hf (fun hf => ?_)
                  refine v_aload_n hG 0 rfl rfl dX2_areSame_127 ?_
                  refine c_g_65_1 hG wk_330 dX2_areSame_128 ?_
                  refine c_g_22_6 hG wk_151 dX2_areSame_131 ?_
                  refine v_iload_n hG 3 rfl rfl dX2_areSame_134 ?_
                  refine c_o_29 hG dX2_areSame_135 hf (fun hi135 hf => ?_)
                  refine v_iload_n hG 2 rfl rfl dX2_areSame_136 ?_
                  refine c_rl_29 hG hi135 dX2_areSame_137 hf (fun hf => ?_)
                  refine v_lcmp_eq hG 144 dX2_areSame_138 dX2_areSame_139 rfl hf (fun hf => ?_) (fun hf => ?_)
                  · exact j144 s94 hf
                  · refine v_sub [] [] rfl ?_
                    exact hout _ (Option.some.inj hf).symm
            · rcases z94 with z94_x0 | z94_x0
              · simp only [Sum.elim_inl] at hf
                show V p l e (k2_rm 1 21) s m args below meth c (inW (ccells g ad w)) (EN below args s g (ccells g ad w) (ccells g ad w) (some (.int rr))) g 4 (ccells g ad w) 0 0 142 [] []
                refine v_iconst hG (v := 0) (by decide) dX2_areSame_142 ?_
                cases hf
                exact v_zret (x := 0) hG hr rfl dX2_areSame_143
              · simp only [Sum.elim_inr] at hf
                show V p l e (k2_rm 1 21) s m args below meth c (inW (ccells g ad w)) (EN below args s g (ccells g ad w) (ccells g ad w) (some (.int rr))) g 4 (ccells g ad w) 0 0 150 [] []
                refine v_iconst hG (v := 1) (by decide) dX2_areSame_150 ?_
                cases hf
                exact v_zret (x := 1) hG hr rfl dX2_areSame_151
          · refine v_iconst hG (v := 0) (by decide) dX2_areSame_90 ?_
            cases hf
            exact v_zret (x := 0) hG hr rfl dX2_areSame_91
    · refine v_iconst hG (v := 0) (by decide) dX2_areSame_22 ?_
      cases hf
      exact v_zret (x := 0) hG hr rfl dX2_areSame_23
