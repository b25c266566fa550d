/-! put in: the reference's steps -/
theorem mrow_shape (m : MW) (K K2 rt rt2 : Nat → Int64) (rs rs2 : Nat → Int32) : sM_rest (sM_right (sM_coef (sM_rest (sM_right (sM_coef m K) rt) rs) K2) rt2) rs2 = sM_rest (sM_right (sM_coef m K2) rt2) rs2 := rfl
def rowF (m2 : MW) (r x y : Nat) (q sr : Int64) (K' rt' : Nat → Int64) (rs' : Nat → Int32) (o : Nat) : Prop := (o ≠ r ∧ gM_gone m2 o = 0 ∧ tm m2 o x ≠ 0 → K' (12 * o + y) = gM_coef m2 (12 * o + y) + tm m2 o x * q ∧ (∀ c, c < 12 → c ≠ y → K' (12 * o + c) = gM_coef m2 (12 * o + c)) ∧ rt' o = gM_right m2 o - tm m2 o x * sr ∧ rs' o = gM_rest m2 o ||| gM_rest m2 r) ∧ (¬ (o ≠ r ∧ gM_gone m2 o = 0 ∧ tm m2 o x ≠ 0) → (∀ c, c < 12 → K' (12 * o + c) = gM_coef m2 (12 * o + c)) ∧ rt' o = gM_right m2 o ∧ rs' o = gM_rest m2 o)
def rowN (m2 : MW) (K' rt' : Nat → Int64) (rs' : Nat → Int32) (o : Nat) : Prop := (∀ c, c < 12 → K' (12 * o + c) = gM_coef m2 (12 * o + c)) ∧ rt' o = gM_right m2 o ∧ rs' o = gM_rest m2 o
theorem rf_putRows {m m2 : MW} {R r x y : Nat} {a b : Int32} {q sr : Int64} (hR : R ≤ 12) (hr : r < R) (hx12 : x < 12) (hy12 : y < 12) (hxy : y ≠ x) (hab : a + b - nI x = nI y) (hm2 : gM_rows m2 = nI R) (hq : -(gM_coef m (12 * r + x)) * gM_coef m (12 * r + y) = q) (hsr : gM_coef m (12 * r + x) * gM_right m r = sr) : ∃ K' rt' rs', iter (X9_puts_L182 (nI r) m a b (nI x)) 5000 (m2, 0) = some (sM_rest (sM_right (sM_coef m2 K') rt') rs') ∧ ∀ o, o < R → rowF m2 r x y q sr K' rt' rs' o := by
  have hr12 : r < 12 := by omega
  obtain ⟨e, q1, K', rt', rs', q2, q3⟩ := iter_run (step := X9_puts_L182 (nI r) m a b (nI x)) (fun d s => ∃ (i : Nat) (K' rt' : Nat → Int64) (rs' : Nat → Int32), i + d = R ∧ s = (sM_rest (sM_right (sM_coef m2 K') rt') rs', nI i) ∧ (∀ o, o < i → rowF m2 r x y q sr K' rt' rs' o) ∧ (∀ o, i ≤ o → rowN m2 K' rt' rs' o) ∧ rs' r = gM_rest m2 r) (fun e => ∃ K' rt' rs', e = sM_rest (sM_right (sM_coef m2 K') rt') rs' ∧ ∀ o, o < R → rowF m2 r x y q sr K' rt' rs' o) (fun d s hs => by
    obtain ⟨i, K', rt', rs', hid, rfl, h1, h2, h3⟩ := hs
    have hw2 : gM_rows (sM_rest (sM_right (sM_coef m2 K') rt') rs') = nI R := hm2
    by_cases hic : i < R
    · have hi12 : i < 12 := by omega
      obtain ⟨k1, k2, k3⟩ := h2 i (Nat.le_refl _)
      have htm : tm (sM_rest (sM_right (sM_coef m2 K') rt') rs') i x = tm m2 i x := by
        unfold tm
        show (if gM_state m2 x = 0 then K' (12 * i + x) else 0) = _
        rw [k1 x hx12]
      have hterm := rf_term0 (sM_rest (sM_right (sM_coef m2 K') rt') rs') hi12 hx12
      rw [htm] at hterm
      have stay : ¬ (i ≠ r ∧ gM_gone m2 i = 0 ∧ tm m2 i x ≠ 0) → X9_puts_L182 (nI r) m a b (nI x) (sM_rest (sM_right (sM_coef m2 K') rt') rs', nI i) = some (.inl (sM_rest (sM_right (sM_coef m2 K') rt') rs', nI (i + 1))) → (∃ z, X9_puts_L182 (nI r) m a b (nI x) (sM_rest (sM_right (sM_coef m2 K') rt') rs', nI i) = some (.inl z) ∧ ∃ d', d' < d ∧ ∃ (i : Nat) (K' rt' : Nat → Int64) (rs' : Nat → Int32), i + d' = R ∧ z = (sM_rest (sM_right (sM_coef m2 K') rt') rs', nI i) ∧ (∀ o, o < i → rowF m2 r x y q sr K' rt' rs' o) ∧ (∀ o, i ≤ o → rowN m2 K' rt' rs' o) ∧ rs' r = gM_rest m2 r) := fun hn hst => by
        refine ⟨_, hst, d - 1, by omega, i + 1, K', rt', rs', by omega, rfl, fun o ho => ?_, fun o ho => h2 o (by omega), h3⟩
        by_cases e : o = i
        · subst e
          exact ⟨fun z => absurd z hn, fun _ => ⟨k1, k2, k3⟩⟩
        · exact h1 o (by omega)
      by_cases e1 : i = r
      · refine Or.inl (stay (fun z => z.1 e1) ?_)
        have e2 : nI i = nI r := by rw [e1]
        simp only [X9_puts_L182, hw2, nC_le hR hr, if_false, e2, if_true, X9_puts_J285, nI_1, e1]
      · have e2 : ¬ nI i = nI r := by rw [neq (by omega) (by omega)]; exact e1
        by_cases e3 : gM_gone m2 i = 0
        · have e3' : gM_gone (sM_rest (sM_right (sM_coef m2 K') rt') rs') i = 0 := e3
          by_cases e4 : tm m2 i x = 0
          · refine Or.inl (stay (fun z => z.2.2 e4) ?_)
            simp only [X9_puts_L182, hw2, nC_le hR hic, if_false, e2, inR12 hi12, cl12 hi12, if_true, e3', hterm, e4, Option.bind_some, X9_puts_J285, nI_1]
          · have hcf : gM_coef (sM_rest (sM_right (sM_coef m2 K') rt') rs') (12 * i + x) = tm m2 i x := by
              show K' (12 * i + x) = _
              rw [k1 x hx12]; exact tm_coef e4
            have hcy : gM_coef (sM_rest (sM_right (sM_coef m2 K') rt') rs') (12 * i + y) = gM_coef m2 (12 * i + y) := k1 y hy12
            have hri : gM_right (sM_coef (sM_rest (sM_right (sM_coef m2 K') rt') rs') (vp_updL (gM_coef (sM_rest (sM_right (sM_coef m2 K') rt') rs')) (12 * i + y) (gM_coef m2 (12 * i + y) + tm m2 i x * q))) i = gM_right m2 i := k2
            refine Or.inl ⟨(sM_rest (sM_right (sM_coef m2 (vp_updL K' (12 * i + y) (gM_coef m2 (12 * i + y) + tm m2 i x * q))) (vp_updL rt' i (gM_right m2 i - tm m2 i x * sr))) (upd rs' i (gM_rest m2 i ||| gM_rest m2 r)), nI (i + 1)), ?_, d - 1, by omega, i + 1, _, _, _, by omega, rfl, fun o ho => ?_, fun o ho => ?_, ?_⟩
            · have hs1 : gM_rest (sM_right (sM_coef (sM_rest (sM_right (sM_coef m2 K') rt') rs') (vp_updL (gM_coef (sM_rest (sM_right (sM_coef m2 K') rt') rs')) (12 * i + y) (gM_coef m2 (12 * i + y) + tm m2 i x * q))) (vp_updL (gM_right (sM_coef (sM_rest (sM_right (sM_coef m2 K') rt') rs') (vp_updL (gM_coef (sM_rest (sM_right (sM_coef m2 K') rt') rs')) (12 * i + y) (gM_coef m2 (12 * i + y) + tm m2 i x * q)))) i (gM_right m2 i - tm m2 i x * sr))) i = gM_rest m2 i := k3
              have hs2 : gM_rest (sM_right (sM_coef (sM_rest (sM_right (sM_coef m2 K') rt') rs') (vp_updL (gM_coef (sM_rest (sM_right (sM_coef m2 K') rt') rs')) (12 * i + y) (gM_coef m2 (12 * i + y) + tm m2 i x * q))) (vp_updL (gM_right (sM_coef (sM_rest (sM_right (sM_coef m2 K') rt') rs') (vp_updL (gM_coef (sM_rest (sM_right (sM_coef m2 K') rt') rs')) (12 * i + y) (gM_coef m2 (12 * i + y) + tm m2 i x * q)))) i (gM_right m2 i - tm m2 i x * sr))) r = gM_rest m2 r := h3
              simp only [X9_puts_L182, hw2, nC_le hR hic, if_false, e2, inR12 hi12, cl12 hi12, inR12 hr12, cl12 hr12, if_true, e3', hterm, e4, i10, Option.bind_some, hab, ix144, inR144 hi12 hx12, cl144 hi12 hx12, inR144 hi12 hy12, cl144 hi12 hy12, cl144 hr12 hx12, cl144 hr12 hy12, hq, hsr, hcf, hcy, bnd, hri, hs1, hs2, X9_puts_J285, nI_1]
            · by_cases e : o = i
              · subst e
                refine ⟨fun _ => ⟨by unfold vp_updL; rw [if_pos rfl], fun c hc hcy' => ?_, by unfold vp_updL; rw [if_pos rfl], by unfold upd; rw [if_pos rfl]⟩, fun z => absurd ⟨e1, e3, e4⟩ z⟩
                unfold vp_updL
                rw [if_neg (by omega)]
                exact k1 c hc
              · have hh := h1 o (by omega)
                unfold rowF at hh ⊢
                have u1 : ∀ c, c < 12 → vp_updL K' (12 * i + y) (gM_coef m2 (12 * i + y) + tm m2 i x * q) (12 * o + c) = K' (12 * o + c) := fun c hc => by
                  unfold vp_updL; rw [if_neg (by omega)]
                have u2 : vp_updL rt' i (gM_right m2 i - tm m2 i x * sr) o = rt' o := by unfold vp_updL; rw [if_neg e]
                have u3 : upd rs' i (gM_rest m2 i ||| gM_rest m2 r) o = rs' o := by unfold upd; rw [if_neg e]
                rw [u1 y hy12, u2, u3]
                refine ⟨fun z => ?_, fun z => ?_⟩
                · obtain ⟨y1, y2, y3, y4⟩ := hh.1 z
                  exact ⟨y1, fun c hc hcy' => by rw [u1 c hc]; exact y2 c hc hcy', y3, y4⟩
                · obtain ⟨y1, y2, y3⟩ := hh.2 z
                  exact ⟨fun c hc => by rw [u1 c hc]; exact y1 c hc, y2, y3⟩
            · obtain ⟨y1, y2, y3⟩ := h2 o (by omega)
              refine ⟨fun c hc => ?_, ?_, ?_⟩
              · unfold vp_updL; rw [if_neg (by omega)]; exact y1 c hc
              · unfold vp_updL; rw [if_neg (by omega)]; exact y2
              · unfold upd; rw [if_neg (by omega)]; exact y3
            · unfold upd; rw [if_neg (fun z => e1 z.symm)]; exact h3
        · refine Or.inl (stay (fun z => e3 z.2.1) ?_)
          have e3' : ¬ gM_gone (sM_rest (sM_right (sM_coef m2 K') rt') rs') i = 0 := e3
          simp only [X9_puts_L182, hw2, nC_le hR hic, if_false, e2, inR12 hi12, cl12 hi12, if_true, e3', X9_puts_J285, nI_1]
    · have : i = R := by omega
      subst this
      refine Or.inr ⟨_, ?_, K', rt', rs', rfl, h1⟩
      simp only [X9_puts_L182, hw2, Int32.le_refl, if_true]) R 5000 (m2, 0) (by omega) ⟨0, gM_coef m2, gM_right m2, gM_rest m2, by omega, rfl, fun o ho => by omega, fun o _ => ⟨fun _ _ => rfl, rfl, rfl⟩, rfl⟩
  subst q2
  exact ⟨K', rt', rs', q1, q3⟩
theorem rf_often {m m2 : MW} {C r x y : Nat} {a b : Int32} {q : Int64} (hC : C ≤ 12) (hr12 : r < 12) (hx12 : x < 12) (hy12 : y < 12) (hab : a + b - nI x = nI y) (hm2 : gM_columns m2 = nI C) (hq : -(gM_coef m (12 * r + x)) * gM_coef m (12 * r + y) = q) : ∃ of, iter (X9_puts_L314 (nI r) m a b (nI x)) 5000 (m2, 0) = some (sM_often m2 of) ∧ (∀ c, c < C → of (12 * x + c) = if c = y then q else 0) ∧ ∀ x' c, x' ≠ x → c < 12 → of (12 * x' + c) = gM_often m2 (12 * x' + c) := by
  obtain ⟨e, q1, of, q2, q3, q4⟩ := iter_run (step := X9_puts_L314 (nI r) m a b (nI x)) (fun d s => ∃ (i : Nat) (of : Nat → Int64), i + d = C ∧ s = (sM_often m2 of, nI i) ∧ (∀ c, c < i → of (12 * x + c) = if c = y then q else 0) ∧ ∀ x' c, x' ≠ x → c < 12 → of (12 * x' + c) = gM_often m2 (12 * x' + c)) (fun e => ∃ of, e = sM_often m2 of ∧ (∀ c, c < C → of (12 * x + c) = if c = y then q else 0) ∧ ∀ x' c, x' ≠ x → c < 12 → of (12 * x' + c) = gM_often m2 (12 * x' + c)) (fun d s hs => by
    obtain ⟨i, of, hid, rfl, h1, h2⟩ := hs
    have hw2 : gM_columns (sM_often m2 of) = nI C := hm2
    by_cases hic : i < C
    · have hi12 : i < 12 := by omega
      have fin : ∀ v : Int64, v = (if i = y then q else 0) → X9_puts_L314 (nI r) m a b (nI x) (sM_often m2 of, nI i) = some (.inl (sM_often m2 (vp_updL of (12 * x + i) v), nI (i + 1))) → ∃ z, X9_puts_L314 (nI r) m a b (nI x) (sM_often m2 of, nI i) = some (.inl z) ∧ ∃ d', d' < d ∧ ∃ (i : Nat) (of : Nat → Int64), i + d' = C ∧ z = (sM_often m2 of, nI i) ∧ (∀ c, c < i → of (12 * x + c) = if c = y then q else 0) ∧ ∀ x' c, x' ≠ x → c < 12 → of (12 * x' + c) = gM_often m2 (12 * x' + c) := fun v hv hst => by
        refine ⟨_, hst, d - 1, by omega, i + 1, _, by omega, rfl, fun c hc => ?_, fun x' c hx' hc => ?_⟩
        · unfold vp_updL
          by_cases e : c = i
          · subst e; rw [if_pos rfl, hv]
          · rw [if_neg (by omega)]; exact h1 c (by omega)
        · unfold vp_updL; rw [if_neg (by omega)]; exact h2 x' c hx' hc
      by_cases e : i = y
      · have e2 : nI i = nI y := by rw [e]
        refine Or.inl (fin q (by rw [if_pos e]) ?_)
        simp only [X9_puts_L314, hw2, nC_le hC hic, if_false, hab, e2, if_true, X9_puts_J348, ix144, cl144 hr12 hx12, cl144 hr12 hy12, hq, inR144 hx12 hy12, cl144 hx12 hy12, bnd, nI_1, e]
        rw [if_neg (by rw [← e]; exact nC_le hC hic)]
      · have e2 : ¬ nI i = nI y := by rw [neq (by omega) (by omega)]; exact e
        refine Or.inl (fin 0 (by rw [if_neg e]) ?_)
        simp only [X9_puts_L314, hw2, nC_le hC hic, if_false, hab, e2, X9_puts_J348, ix144, inR144 hx12 hi12, cl144 hx12 hi12, if_true, bnd, nI_1]
    · have : i = C := by omega
      subst this
      refine Or.inr ⟨_, ?_, of, rfl, h1, h2⟩
      simp only [X9_puts_L314, hw2, Int32.le_refl, if_true]) C 5000 (m2, 0) (by omega) ⟨0, gM_often m2, by omega, rfl, fun c hc => by omega, fun _ _ _ _ => rfl⟩
  subst q2
  exact ⟨of, q1, q3, q4⟩
/-- what both rules do at their end -/
theorem rf_goes {m2 : MW} {r x P : Nat} (hr12 : r < 12) (hx12 : x < 12) (hP12 : P < 12) (hP : gM_putIns m2 = nI P) (ru : Int32) (sr : Int64) : ∃ m5, X9_goes m2 ru (nI r) (nI x) sr = (X9_act m5 ru (nI r) (nI x) 5 sr).bind (fun z => some z) ∧ MS m2 m5 ∧ gM_state m5 = upd (gM_state m2) x 2 ∧ gM_gone m5 = upd (gM_gone m2) r 1 ∧ (gM_cost m5 = gM_cost m2 ∧ gM_coef m5 = gM_coef m2 ∧ gM_right m5 = gM_right m2 ∧ gM_rest m5 = gM_rest m2 ∧ gM_often m5 = gM_often m2) ∧ gM_offset m5 = gM_offset m2 + sr * gM_cost m2 x ∧ gM_putIns m5 = nI (P + 1) ∧ gM_putIn m5 = upd (gM_putIn m2) P (nI x) ∧ gM_base m5 = vp_updL (gM_base m2) x sr := by
  refine ⟨sM_gone (sM_state (sM_putIns (sM_putIn (sM_base (sM_offset m2 (gM_offset m2 + sr * gM_cost m2 x)) (vp_updL (gM_base m2) x sr)) (upd (gM_putIn m2) P (nI x))) (nI (P + 1))) (upd (gM_state m2) x 2)) (upd (gM_gone m2) r 1), ?_, ⟨⟨rfl, rfl, rfl, rfl, rfl, rfl, rfl, rfl, rfl, rfl⟩, rfl, rfl, rfl, rfl, rfl⟩, rfl, rfl, ⟨rfl, rfl, rfl, rfl, rfl⟩, rfl, rfl, rfl, rfl⟩
  have p1 : gM_putIns (sM_base (sM_offset m2 (gM_offset m2 + sr * gM_cost m2 x)) (vp_updL (gM_base (sM_offset m2 (gM_offset m2 + sr * gM_cost m2 x))) x sr)) = nI P := hP
  have p2 : gM_putIns (sM_putIn (sM_base (sM_offset m2 (gM_offset m2 + sr * gM_cost m2 x)) (vp_updL (gM_base (sM_offset m2 (gM_offset m2 + sr * gM_cost m2 x))) x sr)) (upd (gM_putIn (sM_base (sM_offset m2 (gM_offset m2 + sr * gM_cost m2 x)) (vp_updL (gM_base (sM_offset m2 (gM_offset m2 + sr * gM_cost m2 x))) x sr))) P (nI x))) = nI P := hP
  simp only [X9_goes, inR12 hx12, cl12 hx12, if_true, bnd, p1, inR12 hP12, cl12 hP12, p2, nI_1, inR12 hr12, cl12 hr12, show vp_nar .boolean 1 = 1 from rfl]
