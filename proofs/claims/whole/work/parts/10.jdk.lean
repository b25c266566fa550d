def J9_floorDiv_f86c9 (a0 : Int64) (a1 : Int64) : Option (Int64) := (if a1 = 0 then none else (if 0 ≤ (a0 ^^^ a1) then (some (a0 / a1)) else (if ((a0 / a1) * a1) = a0 then (some (a0 / a1)) else (some ((a0 / a1) - 1)))))
set_option maxRecDepth 100000 in
set_option maxHeartbeats 4000000 in
theorem ct_J9_floorDiv_f86c9 (l : Launch) (g : wG) (a0 : Int64) (a1 : Int64) (rr : Int64) (hf : J9_floorDiv_f86c9 a0 a1 = some rr) : MetN l g yJ9_floorDiv_f86c9 cJ9_floorDiv_f86c9 6 (some .long) (k2_rm 0 0) [.long a0, .long a1] [] [] (some (.long rr)) := by
  refine MetN.of2 [(0, .long a0), (2, .long a1)] rfl (by decide +kernel) (Nat.le_of_ble_eq_true rfl) ?_
  intro p e s m args below meth c hG hr
  unfold J9_floorDiv_f86c9 at hf
  refine v_lload_n hG 0 rfl rfl dJ9_floorDiv_f86c9_0 ?_
  refine v_lload_n hG 1 rfl rfl dJ9_floorDiv_f86c9_1 ?_
  refine v_ldiv hG dJ9_floorDiv_f86c9_2 hf (fun hf => ?_)
  refine v_lstore hG [(4, _), (0, _), (2, _)] dJ9_floorDiv_f86c9_3 (by decide) rfl ?_
  refine v_lload_n hG 1 rfl rfl dJ9_floorDiv_f86c9_5 ?_
  refine v_lload_n hG 2 rfl rfl dJ9_floorDiv_f86c9_6 ?_
  refine v_lxor hG dJ9_floorDiv_f86c9_7 ?_
  refine v_lconst hG (v := 0) (by decide) dJ9_floorDiv_f86c9_8 ?_
  refine v_lcmp_ge hG 27 dJ9_floorDiv_f86c9_9 dJ9_floorDiv_f86c9_10 rfl hf (fun hf => ?_) (fun hf => ?_)
  · refine v_lload hG 0 rfl dJ9_floorDiv_f86c9_27 ?_
    cases hf
    exact v_lret hG hr dJ9_floorDiv_f86c9_29
  · refine v_lload hG 0 rfl dJ9_floorDiv_f86c9_13 ?_
    refine v_lload_n hG 2 rfl rfl dJ9_floorDiv_f86c9_15 ?_
    refine v_lmul hG dJ9_floorDiv_f86c9_16 ?_
    refine v_lload_n hG 1 rfl rfl dJ9_floorDiv_f86c9_17 ?_
    refine v_lcmp_eq hG 27 dJ9_floorDiv_f86c9_18 dJ9_floorDiv_f86c9_19 rfl hf (fun hf => ?_) (fun hf => ?_)
    · refine v_lload hG 0 rfl dJ9_floorDiv_f86c9_27 ?_
      cases hf
      exact v_lret hG hr dJ9_floorDiv_f86c9_29
    · refine v_lload hG 0 rfl dJ9_floorDiv_f86c9_22 ?_
      refine v_lconst hG (v := 1) (by decide) dJ9_floorDiv_f86c9_24 ?_
      refine v_lsub hG dJ9_floorDiv_f86c9_25 ?_
      cases hf
      exact v_lret hG hr dJ9_floorDiv_f86c9_26
def J9_abs_067f4 (a0 : Int64) : Option (Int64) := (if 0 ≤ a0 then (some a0) else (some (-a0)))
set_option maxRecDepth 100000 in
set_option maxHeartbeats 4000000 in
theorem ct_J9_abs_067f4 (l : Launch) (g : wG) (a0 : Int64) (rr : Int64) (hf : J9_abs_067f4 a0 = some rr) : MetN l g yJ9_abs_067f4 cJ9_abs_067f4 2 (some .long) (k2_rm 0 0) [.long a0] [] [] (some (.long rr)) := by
  refine MetN.of2 [(0, .long a0)] rfl (by decide +kernel) (Nat.le_of_ble_eq_true rfl) ?_
  intro p e s m args below meth c hG hr
  unfold J9_abs_067f4 at hf
  refine v_lload_n hG 0 rfl rfl dJ9_abs_067f4_0 ?_
  refine v_lconst hG (v := 0) (by decide) dJ9_abs_067f4_1 ?_
  refine v_lcmp_ge hG 11 dJ9_abs_067f4_2 dJ9_abs_067f4_3 rfl hf (fun hf => ?_) (fun hf => ?_)
  · refine v_lload_n hG 0 rfl rfl dJ9_abs_067f4_11 ?_
    cases hf
    exact v_lret hG hr dJ9_abs_067f4_12
  · refine v_lload_n hG 0 rfl rfl dJ9_abs_067f4_6 ?_
    refine v_lneg hG dJ9_abs_067f4_7 ?_
    refine v_goto hG 12 dJ9_abs_067f4_8 rfl ?_
    cases hf
    exact v_lret hG hr dJ9_abs_067f4_12
