/-! rule 2 -/
def gN (f : Nat → Nat) : Nat → Nat
  | 0 => 0
  | n + 1 => Nat.gcd (gN f n) (f n)
theorem gN_dvd {f : Nat → Nat} {n k : Nat} : k ∣ gN f n ↔ ∀ i, i < n → k ∣ f i := by
  induction n with
  | zero => simp [gN]
  | succ n ih =>
    simp only [gN, Nat.dvd_gcd_iff, ih]
    constructor
    · rintro ⟨h1, h2⟩ i hi
      by_cases e : i = n
      · subst e; exact h2
      · exact h1 i (by omega)
    · intro h
      exact ⟨fun i hi => h i (by omega), h n (by omega)⟩
def hN (f : Nat → Nat) (C : Nat) : Nat → Nat
  | 0 => 0
  | d + 1 => Nat.gcd (f (C - (d + 1))) (hN f C d)
theorem hN_dvd {f : Nat → Nat} {C k : Nat} : ∀ {d : Nat}, d ≤ C → (k ∣ hN f C d ↔ ∀ i, C - d ≤ i → i < C → k ∣ f i)
  | 0, _ => by
    simp only [hN, Nat.dvd_zero, true_iff]
    intro i h1 h2
    omega
  | d + 1, hd => by
    simp only [hN, Nat.dvd_gcd_iff]
    rw [hN_dvd (d := d) (by omega)]
    constructor
    · rintro ⟨h1, h2⟩ i hi hiC
      by_cases e : i = C - (d + 1)
      · subst e; exact h1
      · exact h2 i (by omega) hiC
    · intro h
      exact ⟨h _ (Nat.le_refl _) (by omega), fun i h1 h2 => h i (by omega) h2⟩
theorem hN_gN (f : Nat → Nat) (C : Nat) : hN f C C = gN f C := Nat.dvd_antisymm (gN_dvd.mpr (fun i hi => (hN_dvd (Nat.le_refl C)).mp (Nat.dvd_refl _) i (by omega) hi)) ((hN_dvd (Nat.le_refl C)).mpr (fun i _ hi => gN_dvd.mp (Nat.dvd_refl _) i hi))
theorem gN_le {f : Nat → Nat} {B : Nat} (hf : ∀ i, f i ≤ B) : ∀ n, gN f n ≤ B
  | 0 => Nat.zero_le _
  | n + 1 => by
    simp only [gN]
    by_cases h : f n = 0
    · rw [h, Nat.gcd_zero_right]; exact gN_le hf n
    · exact Nat.le_trans (Nat.gcd_le_right _ (by omega)) (hf n)
theorem hN_le {f : Nat → Nat} {B C : Nat} (hf : ∀ i, f i ≤ B) : ∀ d, hN f C d ≤ B
  | 0 => Nat.zero_le _
  | d + 1 => by
    simp only [hN]
    by_cases h : f (C - (d + 1)) = 0
    · rw [h, Nat.gcd_zero_left]; exact hN_le hf d
    · exact Nat.le_trans (Nat.gcd_le_left _ (by omega)) (hf _)
/-- the size of a term; 0 behind the last column -/
def aT (m : MW) (C r c : Nat) : Nat := if c < C then (tm m r c).toInt.natAbs else 0
theorem abs_lN {x : Int64} (h : big 1000000 x) : J9_abs_067f4 x = some (lN x.toInt.natAbs) := by
  obtain ⟨h1, h2⟩ := h
  unfold J9_abs_067f4
  have hz : (0 : Int64).toInt = 0 := rfl
  by_cases hx : 0 ≤ x
  · rw [if_pos hx]
    have := Int64.le_iff_toInt_le.mp hx
    exact congrArg some (Int64.toInt_inj.mp (by rw [lN_toInt (by omega)]; omega))
  · rw [if_neg hx]
    have : ¬ (0 : Int64).toInt ≤ x.toInt := fun q => hx (Int64.le_iff_toInt_le.mpr q)
    exact congrArg some (Int64.toInt_inj.mp (by rw [neg_ex (by omega), lN_toInt (by omega)]; omega))
section S5
variable {C R : Nat} {F : FR} {N : Nat} {w : CW} {m : MW}
theorem aT_le (h : Rl C R F N w m) {r : Nat} (hr : r < R) (hg : gM_gone m r = 0) (c : Nat) : aT m C r c ≤ 1000000 := by
  unfold aT
  by_cases hc : c < C
  · rw [if_pos hc]
    have := h.ab hr hg hc
    unfold big at this
    omega
  · rw [if_neg hc]; omega
theorem cl_shared (h : Rl C R F N w m) {r : Nat} (hr : r < R) (hg : gM_gone m r = 0) : X4_sharedDivisor w (nI r) = some (lN (gN (aT m C r) C)) := by
  have hC := h.C12
  have hr12 : r < 12 := by have := h.R12; omega
  have e := iter_to (step := X4_sharedDivisor_L5 w (nI r)) C (fun i => (lN (gN (aT m C r) i), nI i)) (lN (gN (aT m C r) C)) (fun i hi => by
    have hi12 : i < 12 := by omega
    have hb := h.ab hr hg hi
    have e1 : (tm m r i).toInt.natAbs = aT m C r i := by unfold aT; rw [if_pos hi]
    simp only [X4_sharedDivisor_L5, h.1.1, nC_le hC hi, if_false, inR12 hr12, cl12 hr12, inR12 hi12, cl12 hi12, if_true, h.a hr hg hi, abs_lN hb, Option.bind_some, e1, cl_gcd (gN_le (aT_le h hr hg) i) (aT_le h hr hg i), nI_1, gN]) (by
    simp only [X4_sharedDivisor_L5, h.1.1, Int32.le_refl, if_true]) (f := 5000) (by omega)
  have e2 : iter (X4_sharedDivisor_L5 w (nI r)) 5000 (0, 0) = _ := e
  simp only [X4_sharedDivisor, e2, Option.bind_some]
theorem rf_shared (h : Rl C R F N w m) {r : Nat} (hr : r < R) (hg : gM_gone m r = 0) : iter (X9_shared_L13 m (nI r)) 5000 (0, (-1), ((gM_columns m) - 1)) = some (lN (gN (aT m C r) C), if nx m C r 0 < C then nI (nx m C r 0) else -1) := by
  have hC := h.C12
  have hr12 : r < 12 := by have := h.R12; omega
  have e := iter_to (step := X9_shared_L13 m (nI r)) C (fun d => (lN (hN (aT m C r) C d), (if fstN (isT m r) d (C - d) < C then nI (fstN (isT m r) d (C - d)) else -1), nI (C - d) - 1)) (lN (hN (aT m C r) C C), if fstN (isT m r) C (C - C) < C then nI (fstN (isT m r) C (C - C)) else -1) (fun d hd => by
    have hi : C - (d + 1) < C := by omega
    have hi12 : C - (d + 1) < 12 := by omega
    have e0 : nI (C - d) - 1 = nI (C - (d + 1)) := by rw [show C - d = (C - (d + 1)) + 1 by omega, nI_pred]
    have e1 : nI (C - (d + 1)) + -1 = nI (C - (d + 1)) - 1 := (Int32.sub_eq_add_neg _ _).symm
    have hb := h.ab hr hg hi
    have hab := abs_lN hb
    unfold J9_abs_067f4 at hab
    have e2 : (tm m r (C - (d + 1))).toInt.natAbs = aT m C r (C - (d + 1)) := by unfold aT; rw [if_pos hi]
    rw [e2] at hab
    have hgc := rf_gcd (aT_le h hr hg (C - (d + 1))) (hN_le (C := C) (aT_le h hr hg) d)
    have hfs : fstN (isT m r) (d + 1) (C - (d + 1)) = if isT m r (C - (d + 1)) then C - (d + 1) else fstN (isT m r) d (C - d) := by
      simp only [fstN]
      rw [show C - (d + 1) + 1 = C - d by omega]
    have hnn : ¬ nI (C - (d + 1)) < 0 := nI_pos (by omega)
    rw [hfs]
    simp only [X9_shared_L13, e0, hnn, if_false, rf_term h hr hi, Option.bind_some, ix144, inR144 hr12 hi12, cl144 hr12 hi12, if_true, X9_shared_J66, X9_shared_J57, e1, hN]
    by_cases h1 : tm m r (C - (d + 1)) = 0
    · have a0 : aT m C r (C - (d + 1)) = 0 := by rw [← e2, h1]; rfl
      simp only [h1, if_true, isT, decide_true, Bool.not_true, a0, Nat.gcd_zero_left]
      rfl
    · have hit : isT m r (C - (d + 1)) = true := by simp [isT, h1]
      rw [tm_coef h1]
      simp only [h1, if_false, i10, hit, if_true, hi]
      by_cases h2 : 0 ≤ tm m r (C - (d + 1))
      · rw [if_pos h2] at hab
        simp only [h2, if_true]
        rw [Option.some.inj hab, hgc]
        rfl
      · rw [if_neg h2] at hab
        simp only [h2, if_false]
        rw [Option.some.inj hab, hgc]
        rfl) (by
    have : nI (C - C) - 1 < 0 := by rw [Nat.sub_self]; decide
    simp only [X9_shared_L13, this, if_true]) (f := 5000) (by omega)
  rw [hN_gN] at e
  simp only [Nat.sub_self, Nat.sub_zero] at e
  have e3 : nx m C r 0 = fstN (isT m r) C 0 := rfl
  rw [e3]
  have e4 : iter (X9_shared_L13 m (nI r)) 5000 (0, (-1), ((gM_columns m) - 1)) = iter (X9_shared_L13 m (nI r)) 5000 (lN (hN (aT m C r) C 0), (if fstN (isT m r) 0 C < C then nI (fstN (isT m r) 0 C) else -1), nI C - 1) := by
    rw [h.1.2.2.1]
    simp only [fstN, Nat.lt_irrefl, if_false]
    rfl
  rw [e4]
  exact e
end S5
