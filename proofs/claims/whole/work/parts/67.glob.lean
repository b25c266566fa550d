/-! the relation of all -/
def whC (w : CW) (m : MW) (c : Nat) : Prop := (gT_low (gC_whole w) c = (gM_lows m c).toInt64 ∧ gT_high (gC_whole w) c = (gM_highs m c).toInt64 ∧ gT_cost (gC_whole w) c = (gM_costs m c).toInt64) ∧ -10000 ≤ (gM_lows m c).toInt ∧ (gM_lows m c).toInt ≤ (gM_highs m c).toInt ∧ (gM_highs m c).toInt ≤ 10000 ∧ -1000 ≤ (gM_costs m c).toInt ∧ (gM_costs m c).toInt ≤ 1000
def whR (w : CW) (m : MW) (r : Nat) : Prop := (gT_kind (gC_whole w) r = gM_kinds m r ∧ gT_right (gC_whole w) r = (gM_rights m r).toInt64) ∧ (gM_kinds m r = 0 ∨ gM_kinds m r = 1) ∧ -1000000 ≤ (gM_rights m r).toInt ∧ (gM_rights m r).toInt ≤ 1000000
def whA (w : CW) (m : MW) (r c : Nat) : Prop := gT_a (gC_whole w) r c = (gM_coefficients m (12 * r + c)).toInt64 ∧ -1000 ≤ (gM_coefficients m (12 * r + c)).toInt ∧ (gM_coefficients m (12 * r + c)).toInt ≤ 1000
def Wh (C R : Nat) (w : CW) (m : MW) : Prop := (gT_columns (gC_whole w) = nI C ∧ gT_rows (gC_whole w) = nI R ∧ gM_columns m = nI C ∧ gM_rows m = nI R ∧ C ≤ 12 ∧ R ≤ 12) ∧ (∀ c, c < C → whC w m c) ∧ (∀ r, r < R → whR w m r) ∧ (∀ r c, r < R → c < C → whA w m r c) ∧ (∀ r c, r < 12 → c < 12 → R ≤ r ∨ C ≤ c → gT_a (gC_whole w) r c = 0) ∧ ∀ c, gT_state (gC_whole w) c = 0
def Sm (C R : Nat) (w : CW) (m : MW) : Prop := gC_hasSmall w = gM_isSmall m ∧ (gM_isSmall m = 0 ∨ (gM_isSmall m = 1 ∧ ∃ F, Rl C R F 198000 w m))
def Pt (C : Nat) (w : CW) (m : MW) : Prop := ∀ c, c < 12 → ((gC_putColumns w >>> (nI c &&& 31)) &&& 1) = gM_isPut m c ∧ (gM_isPut m c = 0 ∨ (gM_isPut m c = 1 ∧ c < C ∧ gM_state m c = 0 ∧ gC_putNumbers w c = (gM_number m c).toInt64 ∧ lo m c ≤ (gM_number m c).toInt64 ∧ (gM_number m c).toInt64 ≤ hi m c))
def Tn (C : Nat) (w : CW) (m : MW) : Prop := gC_hasTurned w = gM_isTurned m ∧ (gM_isTurned m = 0 ∨ (gM_isTurned m = 1 ∧ gM_isSmall m = 1 ∧ ∀ c, c < C → gC_turned w c = (gM_turned m c).toInt64))
def Bs (C : Nat) (w : CW) (m : MW) : Prop := gC_hasBest w = gM_hasBest m ∧ (gM_hasBest m = 0 ∨ (gM_hasBest m = 1 ∧ gC_leastValue w = gM_bestValue m ∧ ∀ c, c < C → gC_bestNumbers w c = (gM_best m c).toInt64))
def Gl (w : CW) (m : MW) : Prop := ∃ C R, Wh C R w m ∧ Sm C R w m ∧ Pt C w m ∧ Tn C w m ∧ Bs C w m
theorem Rl_fr {C R N : Nat} {F : FR} {w w' : CW} {m m' : MW} (h : Rl C R F N w m) (e1 : w'.2.1 = w.2.1) (e2 : w'.2.2.1 = w.2.2.1) (e3 : gM_columns m' = gM_columns m) (e4 : gM_rows m' = gM_rows m) (e5 : m'.2.1.2 = m.2.1.2) (e6 : m'.2.2.1 = m.2.2.1) : ∃ F, Rl C R F N w' m' := by
  obtain ⟨a, b, c, d⟩ := w
  obtain ⟨a', b', c', d'⟩ := w'
  obtain ⟨p, ⟨q0, q⟩, r, s⟩ := m
  obtain ⟨p', ⟨q0', q'⟩, r', s'⟩ := m'
  dsimp only at e1 e2 e5 e6
  subst e1 e2 e5 e6
  exact ⟨(a', d', p', s', q0', gC_rule (a, b', c', d)), ⟨h.1.1, h.1.2.1, e3.trans h.1.2.2.1, e4.trans h.1.2.2.2.1, h.1.2.2.2.2⟩, ⟨rfl, rfl, rfl, rfl, rfl, rfl⟩, h.2.2.1, h.2.2.2.1, h.2.2.2.2.1, h.2.2.2.2.2.1, h.2.2.2.2.2.2.1, h.2.2.2.2.2.2.2⟩
theorem Gl_thrown {w : CW} {m : MW} (h : Gl w m) (k : Int32) : Gl w (sM_thrown m k) := by
  obtain ⟨C, R, hW, hS, hP, hT, hB⟩ := h
  refine ⟨C, R, hW, ⟨hS.1, ?_⟩, hP, hT, hB⟩
  rcases hS.2 with e | ⟨e, F, hF⟩
  · exact Or.inl e
  · exact Or.inr ⟨e, Rl_fr hF rfl rfl rfl rfl rfl rfl⟩
def ins (C : Nat) (a : Int32) : Bool := decide (0 ≤ a.toInt) && decide (a.toInt < C)
theorem ins_iff {C : Nat} {a : Int32} : ins C a = true ↔ 0 ≤ a.toInt ∧ a.toInt < C := by simp [ins]
theorem ins_d (C : Nat) (a : Int32) : (ins C a = true) = (0 ≤ a.toInt ∧ a.toInt < C) := propext ins_iff
theorem ins_get {C : Nat} {a : Int32} (h : ins C a) (hC : C ≤ 5000) : ∃ c, c < C ∧ a = nI c := by
  obtain ⟨h1, h2⟩ := ins_iff.mp h
  refine ⟨a.toInt.toNat, by omega, Int32.toInt_inj.mp ?_⟩
  rw [nI_toInt (by omega)]
  omega
theorem ins_nI {C c : Nat} (hc : c < C) (hC : C ≤ 5000) : ins C (nI c) := by
  rw [ins_iff]
  rw [nI_toInt (by omega)]
  omega
theorem rf_in {C : Nat} (hC : C ≤ 5000) (a : Int32) : X9_within a.toInt64 0 ((nI C - 1).toInt64) = some (if ins C a then 1 else 0) := by
  have e1 : a.toInt64.toInt = a.toInt := Int32.toInt_toInt64 a
  have e2 : (nI C - 1).toInt = (C : Int) - 1 := by
    rw [Int32.toInt_sub, nI_toInt (by omega), show (1 : Int32).toInt = 1 from rfl, Int.bmod_eq_of_le (by omega) (by omega)]
  have e3 : (nI C - 1).toInt64.toInt = (C : Int) - 1 := by rw [Int32.toInt_toInt64, e2]
  have z : (0 : Int64).toInt = 0 := rfl
  simp only [ins_d]
  unfold X9_within
  by_cases h1 : a.toInt64 < 0
  · have := Int64.lt_iff_toInt_lt.mp h1
    rw [if_pos h1, if_neg (by omega)]
  · have h1' : ¬ a.toInt64.toInt < (0 : Int64).toInt := fun q => h1 (Int64.lt_iff_toInt_lt.mpr q)
    rw [if_neg h1]
    by_cases h2 : (nI C - 1).toInt64 < a.toInt64
    · have := Int64.lt_iff_toInt_lt.mp h2
      rw [if_pos h2, if_neg (by omega)]
    · have h2' : ¬ (nI C - 1).toInt64.toInt < a.toInt64.toInt := fun q => h2 (Int64.lt_iff_toInt_lt.mpr q)
      rw [if_neg h2, if_pos (by omega)]
theorem cl_in {α : Type} {C : Nat} (hC : C ≤ 5000) (a : Int32) (x y : α) : (if a < 0 then x else if a < nI C then y else x) = if ins C a then y else x := by
  have z : (0 : Int32).toInt = 0 := rfl
  simp only [ins_d]
  by_cases h1 : a < 0
  · have := Int32.lt_iff_toInt_lt.mp h1
    rw [if_pos h1, if_neg (by omega)]
  · have h1' : ¬ a.toInt < (0 : Int32).toInt := fun q => h1 (Int32.lt_iff_toInt_lt.mpr q)
    rw [if_neg h1]
    by_cases h2 : a < nI C
    · have h2' := Int32.lt_iff_toInt_lt.mp h2
      rw [nI_toInt (by omega)] at h2'
      rw [if_pos h2, if_pos (by omega)]
    · have h2' : ¬ a.toInt < (nI C).toInt := fun q => h2 (Int32.lt_iff_toInt_lt.mpr q)
      rw [nI_toInt (by omega)] at h2'
      rw [if_neg h2, if_neg (by omega)]
section SH
variable {C R : Nat} {w : CW} {m : MW}
theorem rf_isCol (h : Wh C R w m) (a : Int32) : X9_isColumn m a = some (if ins C a then 1 else 0) := by
  have hC := h.1.2.2.2.2.1
  simp only [X9_isColumn, h.1.2.2.1, rf_in (show C ≤ 5000 by omega), Option.bind_some]
  split <;> rfl
theorem rf_isRow (h : Wh C R w m) (a : Int32) : X9_isRow m a = some (if ins R a then 1 else 0) := by
  have hR := h.1.2.2.2.2.2
  simp only [X9_isRow, h.1.2.2.2.1, rf_in (show R ≤ 5000 by omega), Option.bind_some]
  split <;> rfl
theorem cl_nCol (h : Wh C R w m) (a : Int32) : X8_needColumn w a = some (if ins C a then .inr () else .inl ("java/lang/IndexOutOfBoundsException", w)) := by
  have hC := h.1.2.2.2.2.1
  simp only [X8_needColumn, X8_needColumn_J15, h.1.1]
  rw [cl_in (by omega)]
  split <;> rfl
theorem cl_nRow (h : Wh C R w m) (a : Int32) : X8_needRow w a = some (if ins R a then .inr () else .inl ("java/lang/IndexOutOfBoundsException", w)) := by
  have hR := h.1.2.2.2.2.2
  simp only [X8_needRow, X8_needRow_J15, h.1.2.1]
  rw [cl_in (by omega)]
  split <;> rfl
theorem cl_nSm0 (h : Sm C R w m) (hs : gM_isSmall m = 0) : X8_needSmall w = some (.inl ("java/lang/IllegalStateException", w)) := by
  simp only [X8_needSmall, h.1, hs, if_true]
theorem cl_nSm1 (h : Sm C R w m) (hs : ¬ gM_isSmall m = 0) : X8_needSmall w = some (.inr ()) := by
  simp only [X8_needSmall, h.1, hs, if_false, Bool.false_eq_true]
theorem Sm.rl (h : Sm C R w m) (hs : ¬ gM_isSmall m = 0) : ∃ F, Rl C R F 198000 w m := by
  rcases h.2 with e | ⟨-, e⟩
  · exact absurd e hs
  · exact e
end SH
theorem ps_00 (m : MW) : X9_passes m 0 0 = some (1, sM_thrown m 0) := by
  simp only [X9_passes, X9_passes_J18, if_true, bnd]
theorem ps_1 (m : MW) (b : Int32) : X9_passes m 1 b = some (0, sM_thrown m 1) := by
  simp only [X9_passes, X9_passes_J18, i10, if_false, Bool.false_eq_true, bnd]
  rw [if_neg (show ¬ (1 : Int32) = 0 by decide)]
theorem ps_01 (m : MW) : X9_passes m 0 1 = some (0, sM_thrown m 2) := by
  simp only [X9_passes, X9_passes_J18, if_true, i10, if_false, Bool.false_eq_true, bnd]
  rw [if_neg (show ¬ (2 : Int32) = 0 by decide)]
theorem qs_000 (m : MW) : X9_passes3 m 0 0 0 = some (1, sM_thrown m 0) := by
  simp only [X9_passes3, X9_passes3_J26, if_true, bnd]
theorem qs_1 (m : MW) (b c : Int32) : X9_passes3 m 1 b c = some (0, sM_thrown m 1) := by
  simp only [X9_passes3, X9_passes3_J26, i10, if_false, Bool.false_eq_true, bnd]
  rw [if_neg (show ¬ (1 : Int32) = 0 by decide)]
theorem qs_01 (m : MW) (c : Int32) : X9_passes3 m 0 1 c = some (0, sM_thrown m 2) := by
  simp only [X9_passes3, X9_passes3_J26, if_true, i10, if_false, Bool.false_eq_true, bnd]
  rw [if_neg (show ¬ (2 : Int32) = 0 by decide)]
theorem qs_001 (m : MW) : X9_passes3 m 0 0 1 = some (0, sM_thrown m 3) := by
  simp only [X9_passes3, X9_passes3_J26, if_true, i10, if_false, Bool.false_eq_true, bnd]
  rw [if_neg (show ¬ (3 : Int32) = 0 by decide)]
/-- how an operation that only reads ends on both sides -/
def OpR {α β : Type} (w : CW) (x : Option ((String × CW) ⊕ α)) (y : Option (β × MW)) (E : α → β → Prop) (K : String → Int32 → Prop) : Prop := (∃ e k v m', x = some (.inl (e, w)) ∧ y = some (v, m') ∧ gM_thrown m' = k ∧ Gl w m' ∧ K e k) ∨ (∃ a b m', x = some (.inr a) ∧ y = some (b, m') ∧ E a b ∧ gM_thrown m' = 0 ∧ Gl w m')
def Ks (e : String) (k : Int32) : Prop := e = "java/lang/IllegalStateException" ∧ k = 1
def Ksi (e : String) (k : Int32) : Prop := (e = "java/lang/IllegalStateException" ∧ k = 1) ∨ (e = "java/lang/IndexOutOfBoundsException" ∧ k = 2)
def Ksai (e : String) (k : Int32) : Prop := (e = "java/lang/IllegalStateException" ∧ k = 1) ∨ (e = "java/lang/IllegalArgumentException" ∧ k = 2) ∨ (e = "java/lang/IndexOutOfBoundsException" ∧ k = 3)
def Ksia (e : String) (k : Int32) : Prop := (e = "java/lang/IllegalStateException" ∧ k = 1) ∨ (e = "java/lang/IndexOutOfBoundsException" ∧ k = 2) ∨ (e = "java/lang/IllegalArgumentException" ∧ k = 3)
theorem i32s (x : Int32) : x.toInt64.toInt32 = x := Int32.toInt_inj.mp (by
  rw [Int64.toInt_toInt32, Int32.toInt_toInt64]
  exact Int32.toInt_bmod x)
section SI
variable {w : CW} {m : MW}
theorem o_state (h : Gl w m) (a : Int32) : OpR w (X8_state w a) (X9_state m a) (fun x y => x = y) Ksi := by
  have h' := h
  obtain ⟨C, R, hW, hS, hP, hT, hB⟩ := h'
  have hC := hW.1.2.2.2.2.1
  by_cases hs : gM_isSmall m = 0
  · refine Or.inl ⟨_, 1, 0, sM_thrown m 1, by simp only [X8_state, cl_nSm0 hS hs, Option.bind_some, Sum.elim_inl] <;> rfl, ?_, rfl, Gl_thrown h 1, Or.inl ⟨rfl, rfl⟩⟩
    simp only [X9_state, hs, if_true, X9_state_J13, rf_isCol hW, Option.bind_some, X9_state_J26, ps_1]
    split <;> rfl
  · obtain ⟨F, hR⟩ := hS.rl hs
    by_cases hi : ins C a
    · obtain ⟨c, hc, rfl⟩ := ins_get hi (by omega)
      have hc12 : c < 12 := by omega
      exact Or.inr ⟨gT_state (gC_tab w) c, gM_state m c, sM_thrown m 0, by simp only [X8_state, cl_nSm1 hS hs, Option.bind_some, Sum.elim_inr, cl_nCol hW, hi, if_true, inR12 hc12, cl12 hc12], by simp only [X9_state, hs, if_false, Bool.false_eq_true, X9_state_J13, rf_isCol hW, hi, if_true, Option.bind_some, i10, X9_state_J26, ps_00, inR12 hc12, cl12 hc12], (hR.2.2.1 c hc).1.1, rfl, Gl_thrown h 0⟩
    · exact Or.inl ⟨_, 2, 0, sM_thrown m 2, by simp only [X8_state, cl_nSm1 hS hs, Option.bind_some, Sum.elim_inr, cl_nCol hW, hi, if_false, Bool.false_eq_true, Sum.elim_inl] <;> rfl, by simp only [X9_state, hs, if_false, Bool.false_eq_true, X9_state_J13, rf_isCol hW, hi, Option.bind_some, if_true, X9_state_J26, ps_01], rfl, Gl_thrown h 2, Or.inr ⟨rfl, rfl⟩⟩
theorem o_bound (h : Gl w m) (a b : Int32) : OpR w (X8_bound w a b) (X9_bound m a b) (fun x y => x = y) Ksi := by
  have h' := h
  obtain ⟨C, R, hW, hS, hP, hT, hB⟩ := h'
  have hC := hW.1.2.2.2.2.1
  by_cases hs : gM_isSmall m = 0
  · refine Or.inl ⟨_, 1, 0, sM_thrown m 1, by simp only [X8_bound, cl_nSm0 hS hs, Option.bind_some, Sum.elim_inl] <;> rfl, ?_, rfl, Gl_thrown h 1, Or.inl ⟨rfl, rfl⟩⟩
    simp only [X9_bound, hs, if_true, X9_bound_J13, rf_isCol hW, Option.bind_some, X9_bound_J26, ps_1]
    split <;> rfl
  · obtain ⟨F, hR⟩ := hS.rl hs
    by_cases hi : ins C a
    · obtain ⟨c, hc, rfl⟩ := ins_get hi (by omega)
      have hc12 : c < 12 := by omega
      obtain ⟨⟨c1, c2, c3, -⟩, -⟩ := hR.2.2.1 c hc
      by_cases hb : b = 0
      · exact Or.inr ⟨gM_low m c, gM_low m c, sM_thrown m 0, by simp only [X8_bound, cl_nSm1 hS hs, Option.bind_some, Sum.elim_inr, cl_nCol hW, hi, if_true, inR12 hc12, cl12 hc12, hb, X8_bound_J40, c2, i32s], by simp only [X9_bound, hs, if_false, Bool.false_eq_true, X9_bound_J13, rf_isCol hW, hi, if_true, Option.bind_some, i10, X9_bound_J26, ps_00, inR12 hc12, cl12 hc12, hb], rfl, rfl, Gl_thrown h 0⟩
      · exact Or.inr ⟨gM_high m c, gM_high m c, sM_thrown m 0, by simp only [X8_bound, cl_nSm1 hS hs, Option.bind_some, Sum.elim_inr, cl_nCol hW, hi, if_true, inR12 hc12, cl12 hc12, hb, if_false, Bool.false_eq_true, X8_bound_J40, c3, i32s], by simp only [X9_bound, hs, if_false, Bool.false_eq_true, X9_bound_J13, rf_isCol hW, hi, if_true, Option.bind_some, i10, X9_bound_J26, ps_00, inR12 hc12, cl12 hc12, hb], rfl, rfl, Gl_thrown h 0⟩
    · exact Or.inl ⟨_, 2, 0, sM_thrown m 2, by simp only [X8_bound, cl_nSm1 hS hs, Option.bind_some, Sum.elim_inr, cl_nCol hW, hi, if_false, Bool.false_eq_true, Sum.elim_inl] <;> rfl, by simp only [X9_bound, hs, if_false, Bool.false_eq_true, X9_bound_J13, rf_isCol hW, hi, Option.bind_some, if_true, X9_bound_J26, ps_01], rfl, Gl_thrown h 2, Or.inr ⟨rfl, rfl⟩⟩
theorem o_cost (h : Gl w m) (a : Int32) : OpR w (X8_cost w a) (X9_cost m a) (fun x y => x = y) Ksi := by
  have h' := h
  obtain ⟨C, R, hW, hS, hP, hT, hB⟩ := h'
  have hC := hW.1.2.2.2.2.1
  by_cases hs : gM_isSmall m = 0
  · refine Or.inl ⟨_, 1, 0, sM_thrown m 1, by simp only [X8_cost, cl_nSm0 hS hs, Option.bind_some, Sum.elim_inl] <;> rfl, ?_, rfl, Gl_thrown h 1, Or.inl ⟨rfl, rfl⟩⟩
    simp only [X9_cost, hs, if_true, X9_cost_J13, rf_isCol hW, Option.bind_some, X9_cost_J26, ps_1]
    split <;> rfl
  · obtain ⟨F, hR⟩ := hS.rl hs
    by_cases hi : ins C a
    · obtain ⟨c, hc, rfl⟩ := ins_get hi (by omega)
      have hc12 : c < 12 := by omega
      obtain ⟨⟨c1, c2, c3, c4, -⟩, -⟩ := hR.2.2.1 c hc
      by_cases hb : gM_state m c = 0
      · have hb' : gM_state (sM_thrown m 0) c = 0 := hb
        exact Or.inr ⟨(gM_cost m c).toInt32, (gM_cost m c).toInt32, sM_thrown m 0, by simp only [X8_cost, cl_nSm1 hS hs, Option.bind_some, Sum.elim_inr, cl_nCol hW, hi, if_true, X6_isThere, c1, hb, i10, if_false, Bool.false_eq_true, inR12 hc12, cl12 hc12, c4], by simp only [X9_cost, hs, if_false, Bool.false_eq_true, X9_cost_J13, rf_isCol hW, hi, if_true, Option.bind_some, i10, X9_cost_J26, ps_00, inR12 hc12, cl12 hc12, hb'], rfl, rfl, Gl_thrown h 0⟩
      · have hb' : ¬ gM_state (sM_thrown m 0) c = 0 := hb
        exact Or.inr ⟨0, 0, sM_thrown m 0, by simp only [X8_cost, cl_nSm1 hS hs, Option.bind_some, Sum.elim_inr, cl_nCol hW, hi, if_true, X6_isThere, c1, hb, if_false, Bool.false_eq_true, inR12 hc12, cl12 hc12], by simp only [X9_cost, hs, if_false, Bool.false_eq_true, X9_cost_J13, rf_isCol hW, hi, if_true, Option.bind_some, i10, X9_cost_J26, ps_00, inR12 hc12, cl12 hc12, hb'], rfl, rfl, Gl_thrown h 0⟩
    · exact Or.inl ⟨_, 2, 0, sM_thrown m 2, by simp only [X8_cost, cl_nSm1 hS hs, Option.bind_some, Sum.elim_inr, cl_nCol hW, hi, if_false, Bool.false_eq_true, Sum.elim_inl] <;> rfl, by simp only [X9_cost, hs, if_false, Bool.false_eq_true, X9_cost_J13, rf_isCol hW, hi, Option.bind_some, if_true, X9_cost_J26, ps_01], rfl, Gl_thrown h 2, Or.inr ⟨rfl, rfl⟩⟩
theorem o_kind (h : Gl w m) (a : Int32) : OpR w (X8_kind w a) (X9_kind m a) (fun x y => x = y) Ksi := by
  have h' := h
  obtain ⟨C, R, hW, hS, hP, hT, hB⟩ := h'
  have hR12 := hW.1.2.2.2.2.2
  by_cases hs : gM_isSmall m = 0
  · refine Or.inl ⟨_, 1, 0, sM_thrown m 1, by simp only [X8_kind, cl_nSm0 hS hs, Option.bind_some, Sum.elim_inl] <;> rfl, ?_, rfl, Gl_thrown h 1, Or.inl ⟨rfl, rfl⟩⟩
    simp only [X9_kind, hs, if_true, X9_kind_J13, rf_isRow hW, Option.bind_some, X9_kind_J26, ps_1]
    split <;> rfl
  · obtain ⟨F, hR⟩ := hS.rl hs
    by_cases hi : ins R a
    · obtain ⟨c, hc, rfl⟩ := ins_get hi (by omega)
      have hc12 : c < 12 := by omega
      refine Or.inr ⟨gT_kind (gC_tab w) c, gT_kind (gC_tab w) c, sM_thrown m 0, by simp only [X8_kind, cl_nSm1 hS hs, Option.bind_some, Sum.elim_inr, cl_nRow hW, hi, if_true, inR12 hc12, cl12 hc12], ?_, rfl, rfl, Gl_thrown h 0⟩
      rcases gone01 hR hc with hg | hg
      · have hg' : gM_gone (sM_thrown m 0) c = 0 := hg
        simp only [X9_kind, hs, if_false, Bool.false_eq_true, X9_kind_J13, rf_isRow hW, hi, if_true, Option.bind_some, i10, X9_kind_J26, ps_00, inR12 hc12, cl12 hc12, hg', hR.kd hc hg]
      · have hk : gT_kind (gC_tab w) c = -1 := by
          rcases (hR.2.2.2.1 c hc).2.2.2.2 with ⟨e, -⟩ | ⟨-, e⟩
          · rw [hg] at e; exact absurd e (by decide)
          · exact e
        have hg' : ¬ gM_gone (sM_thrown m 0) c = 0 := by show ¬ gM_gone m c = 0; rw [hg]; decide
        simp only [X9_kind, hs, if_false, Bool.false_eq_true, X9_kind_J13, rf_isRow hW, hi, if_true, Option.bind_some, i10, X9_kind_J26, ps_00, inR12 hc12, cl12 hc12, hg', hk]
    · exact Or.inl ⟨_, 2, 0, sM_thrown m 2, by simp only [X8_kind, cl_nSm1 hS hs, Option.bind_some, Sum.elim_inr, cl_nRow hW, hi, if_false, Bool.false_eq_true, Sum.elim_inl] <;> rfl, by simp only [X9_kind, hs, if_false, Bool.false_eq_true, X9_kind_J13, rf_isRow hW, hi, Option.bind_some, if_true, X9_kind_J26, ps_01], rfl, Gl_thrown h 2, Or.inr ⟨rfl, rfl⟩⟩
theorem o_right (h : Gl w m) (a : Int32) : OpR w (X8_right w a) (X9_right m a) (fun x y => x = y) Ksi := by
  have h' := h
  obtain ⟨C, R, hW, hS, hP, hT, hB⟩ := h'
  have hR12 := hW.1.2.2.2.2.2
  by_cases hs : gM_isSmall m = 0
  · refine Or.inl ⟨_, 1, 0, sM_thrown m 1, by simp only [X8_right, cl_nSm0 hS hs, Option.bind_some, Sum.elim_inl] <;> rfl, ?_, rfl, Gl_thrown h 1, Or.inl ⟨rfl, rfl⟩⟩
    simp only [X9_right, hs, if_true, X9_right_J13, rf_isRow hW, Option.bind_some, X9_right_J26, ps_1]
    split <;> rfl
  · obtain ⟨F, hR⟩ := hS.rl hs
    by_cases hi : ins R a
    · obtain ⟨c, hc, rfl⟩ := ins_get hi (by omega)
      have hc12 : c < 12 := by omega
      exact Or.inr ⟨gT_right (gC_tab w) c, gM_right m c, sM_thrown m 0, by simp only [X8_right, cl_nSm1 hS hs, Option.bind_some, Sum.elim_inr, cl_nRow hW, hi, if_true, inR12 hc12, cl12 hc12], by simp only [X9_right, hs, if_false, Bool.false_eq_true, X9_right_J13, rf_isRow hW, hi, if_true, Option.bind_some, i10, X9_right_J26, ps_00, inR12 hc12, cl12 hc12], (hR.2.2.2.1 c hc).1.1, rfl, Gl_thrown h 0⟩
    · exact Or.inl ⟨_, 2, 0, sM_thrown m 2, by simp only [X8_right, cl_nSm1 hS hs, Option.bind_some, Sum.elim_inr, cl_nRow hW, hi, if_false, Bool.false_eq_true, Sum.elim_inl] <;> rfl, by simp only [X9_right, hs, if_false, Bool.false_eq_true, X9_right_J13, rf_isRow hW, hi, Option.bind_some, if_true, X9_right_J26, ps_01], rfl, Gl_thrown h 2, Or.inr ⟨rfl, rfl⟩⟩
theorem o_coefficient (h : Gl w m) (a b : Int32) : OpR w (X8_coefficient w a b) (X9_coefficient m a b) (fun x y => x = y) Ksi := by
  have h' := h
  obtain ⟨C, R, hW, hS, hP, hT, hB⟩ := h'
  have hC12 := hW.1.2.2.2.2.1
  have hR12 := hW.1.2.2.2.2.2
  by_cases hs : gM_isSmall m = 0
  · refine Or.inl ⟨_, 1, 0, sM_thrown m 1, by simp only [X8_coefficient, cl_nSm0 hS hs, Option.bind_some, Sum.elim_inl] <;> rfl, ?_, rfl, Gl_thrown h 1, Or.inl ⟨rfl, rfl⟩⟩
    simp only [X9_coefficient, hs, if_true, X9_coefficient_J13, rf_isRow hW, rf_isCol hW, Option.bind_some, X9_coefficient_J29, X9_coefficient_J34, ps_1, ite_self]
  · obtain ⟨F, hR⟩ := hS.rl hs
    by_cases hi : ins R a
    · by_cases hj : ins C b
      · obtain ⟨r, hr, rfl⟩ := ins_get hi (by omega)
        obtain ⟨c, hc, rfl⟩ := ins_get hj (by omega)
        have hc12 : c < 12 := by omega
        have hr12 : r < 12 := by omega
        have cx : ∀ v, X8_coefficient w (nI r) (nI c) = some (.inr v) ↔ (if gM_gone m r = 0 then (if gM_state m c = 0 then (gT_a (gC_tab w) r c).toInt32 else 0) else 0) = v := fun v => by
          simp only [X8_coefficient, cl_nSm1 hS hs, Option.bind_some, Sum.elim_inr, cl_nRow hW, hi, if_true, cl_nCol hW, hj, cl_gone hR hr, X6_isThere, inR12 hr12, cl12 hr12, inR12 hc12, cl12 hc12, (hR.2.2.1 c hc).1.1]
          by_cases hg : gM_gone m r = 0
          · by_cases hst : gM_state m c = 0
            · simp only [hg, hst, if_true, Option.bind_some, i10, if_false, Bool.false_eq_true, Option.some.injEq, Sum.inr.injEq]
            · simp only [hg, hst, if_true, Option.bind_some, if_false, Bool.false_eq_true, Option.some.injEq, Sum.inr.injEq]
          · simp only [hg, if_false, Bool.false_eq_true, i10, Option.some.injEq, Sum.inr.injEq]
        refine Or.inr ⟨_, _, sM_thrown m 0, (cx _).mpr rfl, ?_, rfl, rfl, Gl_thrown h 0⟩
        simp only [X9_coefficient, hs, if_false, Bool.false_eq_true, X9_coefficient_J13, rf_isRow hW, hi, rf_isCol hW, hj, if_true, Option.bind_some, i10, X9_coefficient_J34, ps_00, inR12 hr12, cl12 hr12, rf_term0 (sM_thrown m 0) hr12 hc12, ix144, inR144 hr12 hc12, cl144 hr12 hc12]
        have e1 : tm (sM_thrown m 0) r c = tm m r c := rfl
        rw [e1]
        by_cases hg : gM_gone m r = 0
        · rw [if_pos hg, if_pos hg]
          by_cases hst : gM_state m c = 0
          · rw [if_pos hst, hR.a hr hg hc]
            by_cases ht : tm m r c = 0
            · rw [if_pos ht, if_pos rfl, ht] <;> rfl
            · rw [if_neg ht, if_neg (by decide), tm_coef ht]
          · rw [if_neg hst, if_pos (tm_zero hst), if_pos rfl]
        · rw [if_neg hg, if_neg hg]
      · exact Or.inl ⟨_, 2, 0, sM_thrown m 2, by simp only [X8_coefficient, cl_nSm1 hS hs, Option.bind_some, Sum.elim_inr, cl_nRow hW, hi, if_true, cl_nCol hW, hj, if_false, Bool.false_eq_true, Sum.elim_inl] <;> rfl, by simp only [X9_coefficient, hs, if_false, Bool.false_eq_true, X9_coefficient_J13, rf_isRow hW, hi, i10, rf_isCol hW, hj, Option.bind_some, if_true, X9_coefficient_J29, X9_coefficient_J34, ps_01], rfl, Gl_thrown h 2, Or.inr ⟨rfl, rfl⟩⟩
    · exact Or.inl ⟨_, 2, 0, sM_thrown m 2, by simp only [X8_coefficient, cl_nSm1 hS hs, Option.bind_some, Sum.elim_inr, cl_nRow hW, hi, if_false, Bool.false_eq_true, Sum.elim_inl] <;> rfl, by simp only [X9_coefficient, hs, if_false, Bool.false_eq_true, X9_coefficient_J13, rf_isRow hW, hi, Option.bind_some, if_true, X9_coefficient_J29, X9_coefficient_J34, ps_01], rfl, Gl_thrown h 2, Or.inr ⟨rfl, rfl⟩⟩
theorem o_offset (h : Gl w m) : OpR w (X8_offset w) (X9_offset m) (fun x y => x = y) Ks := by
  have h' := h
  obtain ⟨C, R, hW, hS, hP, hT, hB⟩ := h'
  by_cases hs : gM_isSmall m = 0
  · exact Or.inl ⟨_, 1, 0, sM_thrown m 1, by simp only [X8_offset, cl_nSm0 hS hs, Option.bind_some, Sum.elim_inl] <;> rfl, by simp only [X9_offset, hs, if_true, X9_offset_J13, ps_1, Option.bind_some], rfl, Gl_thrown h 1, ⟨rfl, rfl⟩⟩
  · obtain ⟨F, hR⟩ := hS.rl hs
    exact Or.inr ⟨gC_offset w, gM_offset m, sM_thrown m 0, by simp only [X8_offset, cl_nSm1 hS hs, Option.bind_some, Sum.elim_inr], by simp only [X9_offset, hs, if_false, Bool.false_eq_true, X9_offset_J13, ps_00, Option.bind_some, i10], hR.2.2.2.2.2.2.1, rfl, Gl_thrown h 0⟩
theorem o_certificate (h : Gl w m) : OpR w (X8_certificate w) (X9_certificate m) (fun x y => x = y) Ks := by
  have h' := h
  obtain ⟨C, R, hW, hS, hP, hT, hB⟩ := h'
  by_cases hs : gM_isSmall m = 0
  · exact Or.inl ⟨_, 1, 0, sM_thrown m 1, by simp only [X8_certificate, cl_nSm0 hS hs, Option.bind_some, Sum.elim_inl] <;> rfl, by simp only [X9_certificate, hs, if_true, X9_certificate_J13, ps_1, Option.bind_some], rfl, Gl_thrown h 1, ⟨rfl, rfl⟩⟩
  · obtain ⟨F, hR⟩ := hS.rl hs
    exact Or.inr ⟨gC_certificate w, gM_certificate m, sM_thrown m 0, by simp only [X8_certificate, cl_nSm1 hS hs, Option.bind_some, Sum.elim_inr], by simp only [X9_certificate, hs, if_false, Bool.false_eq_true, X9_certificate_J13, ps_00, Option.bind_some, i10], hR.2.2.2.2.2.2.2, rfl, Gl_thrown h 0⟩
theorem o_acts (h : Gl w m) : OpR w (X8_acts w) (X9_acts m) (fun x y => x = y) Ks := by
  have h' := h
  obtain ⟨C, R, hW, hS, hP, hT, hB⟩ := h'
  by_cases hs : gM_isSmall m = 0
  · exact Or.inl ⟨_, 1, 0, sM_thrown m 1, by simp only [X8_acts, cl_nSm0 hS hs, Option.bind_some, Sum.elim_inl] <;> rfl, by simp only [X9_acts, hs, if_true, X9_acts_J13, ps_1, Option.bind_some], rfl, Gl_thrown h 1, ⟨rfl, rfl⟩⟩
  · obtain ⟨F, hR⟩ := hS.rl hs
    exact Or.inr ⟨gC_count w, gM_acts m, sM_thrown m 0, by simp only [X8_acts, cl_nSm1 hS hs, Option.bind_some, Sum.elim_inr], by simp only [X9_acts, hs, if_false, Bool.false_eq_true, X9_acts_J13, ps_00, Option.bind_some, i10], cnt_eq hR, rfl, Gl_thrown h 0⟩
end SI
