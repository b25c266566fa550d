/-! whole numbers behind longs -/
theorem bmx {x : Int} (h : -4611686018427387904 ≤ x ∧ x ≤ 4611686018427387904) : x.bmod (2 ^ 64) = x := Int.bmod_eq_of_le (by omega) (by omega)
theorem add_ex {a b : Int64} (h : -4611686018427387904 ≤ a.toInt + b.toInt ∧ a.toInt + b.toInt ≤ 4611686018427387904) : (a + b).toInt = a.toInt + b.toInt := by rw [Int64.toInt_add, bmx h]
theorem sub_ex {a b : Int64} (h : -4611686018427387904 ≤ a.toInt - b.toInt ∧ a.toInt - b.toInt ≤ 4611686018427387904) : (a - b).toInt = a.toInt - b.toInt := by rw [Int64.toInt_sub, bmx h]
theorem mul_ex {a b : Int64} (h : -4611686018427387904 ≤ a.toInt * b.toInt ∧ a.toInt * b.toInt ≤ 4611686018427387904) : (a * b).toInt = a.toInt * b.toInt := by rw [Int64.toInt_mul, bmx h]
theorem neg_ex {a : Int64} (h : -4611686018427387904 ≤ a.toInt ∧ a.toInt ≤ 4611686018427387904) : (-a).toInt = -a.toInt := by rw [Int64.toInt_neg, bmx (by omega)]
theorem div_ex {a b : Int64} (h : -4611686018427387904 ≤ a.toInt) : (a / b).toInt = a.toInt.tdiv b.toInt := Int64.toInt_div_of_ne_left a b (fun e => by
  subst e
  have : Int64.minValue.toInt = -9223372036854775808 := rfl
  omega)
theorem i64z {d : Int64} (h : d ≠ 0) : d.toInt ≠ 0 := fun e => h (Int64.toInt_inj.mp (e.trans (show (0 : Int) = (0 : Int64).toInt from rfl)))
theorem tdiv_mul_abs (a b : Int) : (a.tdiv b * b).natAbs ≤ a.natAbs := by
  rw [Int.natAbs_mul, Int.natAbs_tdiv]
  exact Nat.div_mul_le_self _ _
theorem fd_int {a d v : Int64} (ha : big 4000000000000000000 a) (hd : d ≠ 0) (h : J9_floorDiv_f86c9 a d = some v) : v.toInt = a.toInt.fdiv d.toInt := by
  obtain ⟨a1, a2⟩ := ha
  have hq : (a / d).toInt = a.toInt.tdiv d.toInt := div_ex (by omega)
  have hab := tdiv_mul_abs a.toInt d.toInt
  have hqd : (a / d * d).toInt = a.toInt.tdiv d.toInt * d.toInt := by rw [mul_ex (by rw [hq]; omega), hq]
  have hqb : (a.toInt.tdiv d.toInt).natAbs ≤ a.toInt.natAbs := by rw [Int.natAbs_tdiv]; exact Nat.div_le_self _ _
  have hz : (0 : Int64).toInt = 0 := rfl
  have h1 : (1 : Int64).toInt = 1 := rfl
  have hsub : (a / d - 1).toInt = a.toInt.tdiv d.toInt - 1 := by rw [sub_ex (by rw [hq, h1]; omega), hq, h1]
  unfold J9_floorDiv_f86c9 at h
  rw [if_neg hd] at h
  rw [Int.fdiv_eq_tdiv]
  have na : 0 ≤ a ↔ 0 ≤ a.toInt := by rw [Int64.le_iff_toInt_le, hz]
  have nd : 0 ≤ d ↔ 0 ≤ d.toInt := by rw [Int64.le_iff_toInt_le, hz]
  have dv : a / d * d = a ↔ d.toInt ∣ a.toInt := by
    rw [← Int64.toInt_inj, hqd]
    exact ⟨fun e => ⟨a.toInt.tdiv d.toInt, by rw [Int.mul_comm]; exact e.symm⟩, fun e => Int.tdiv_mul_cancel e⟩
  by_cases hx : 0 ≤ a ^^^ d
  · rw [if_pos hx] at h
    cases h
    rw [xor_nn, na, nd] at hx
    rw [hq]
    by_cases e1 : d.toInt ∣ a.toInt
    · rw [if_pos e1]; omega
    · rw [if_neg e1]
      by_cases e2 : 0 ≤ a.toInt
      · rw [if_pos e2, if_pos (hx.mp e2)]; omega
      · have e3 : ¬ 0 ≤ d.toInt := fun z => e2 (hx.mpr z)
        rw [if_neg e2, if_neg e3, Int.sign_eq_neg_one_of_neg (by omega)]; omega
  · rw [if_neg hx] at h
    rw [xor_nn, na, nd] at hx
    by_cases e1 : d.toInt ∣ a.toInt
    · rw [if_pos (dv.mpr e1)] at h
      cases h
      rw [hq, if_pos e1]; omega
    · rw [if_neg (fun z => e1 (dv.mp z))] at h
      cases h
      rw [hsub, if_neg e1]
      by_cases e2 : 0 ≤ a.toInt
      · rw [if_pos e2, if_neg (fun z => hx ⟨fun _ => z, fun _ => e2⟩)]
      · rw [if_neg e2, if_pos (by
          by_cases z : 0 ≤ d.toInt
          · exact z
          · exact absurd ⟨fun q => absurd q e2, fun q => absurd q z⟩ hx)]
        have hd0 := i64z hd
        have hdn : 0 ≤ d.toInt := by
          by_cases z : 0 ≤ d.toInt
          · exact z
          · exact absurd ⟨fun q => absurd q e2, fun q => absurd q z⟩ hx
        rw [Int.sign_eq_one_of_pos (by omega)]
/-- Euclid -/
theorem lN_mod {x y : Nat} (hx : x ≤ 1000000) (hy : y ≤ 1000000) : lN x - lN x / lN y * lN y = lN (x % y) := by
  have e1 : lN x / lN y = lN (x / y) := Int64.toInt_inj.mp (by
    have hd := Nat.div_le_self x y
    rw [div_ex (by rw [lN_toInt (by omega)]; omega), lN_toInt (by omega), lN_toInt (by omega), lN_toInt (by omega), Int.tdiv_eq_ediv_of_nonneg (by omega)]
    rfl)
  have h2 := Nat.div_mul_le_self x y
  rw [e1, lN_mul, lN_sub h2]
  congr 1
  have := Nat.div_add_mod x y
  rw [Nat.mul_comm] at this
  omega
theorem euclid {step : Int64 × Int64 × Int32 → Option ((Int64 × Int64 × Int32) ⊕ Int64)} (h0 : ∀ x k, step (x, 0, k) = some (.inr x)) (h1 : ∀ (x y : Int64) (k : Nat), y ≠ 0 → k < 100 → step (x, y, nI k) = some (.inl (y, x - x / y * y, nI (k + 1)))) : ∀ (n x y k f : Nat), y < 2 ^ n → x ≤ 1000000 → y ≤ 1000000 → k + 2 * n < 100 → 2 * n < f → iter step f (lN x, lN y, nI k) = some (lN (Nat.gcd x y)) := by
  intro n
  induction n with
  | zero =>
    intro x y k f hy _ _ _ hf
    have : y = 0 := by simpa using hy
    subst this
    rw [Nat.gcd_zero_right]
    exact iter_end (h0 _ _) hf
  | succ n ih =>
    intro x y k f hy hx hy2 hk hf
    by_cases y0 : y = 0
    · subst y0
      rw [Nat.gcd_zero_right]
      exact iter_end (h0 _ _) (by omega)
    · have ny : lN y ≠ 0 := fun e => y0 ((lN_eq (by omega) (by omega)).mp (e.trans (show (0 : Int64) = lN 0 from rfl)))
      obtain ⟨f, rfl⟩ : ∃ g, f = g + 1 := ⟨f - 1, by omega⟩
      rw [iter_in (h1 _ _ k ny (by omega)), lN_mod hx hy2]
      have hm : x % y < y := Nat.mod_lt _ (by omega)
      have g1 : Nat.gcd x y = Nat.gcd y (x % y) := by
        rw [Nat.gcd_comm x y, Nat.gcd_rec y x, Nat.gcd_comm]
      rw [g1]
      by_cases z0 : x % y = 0
      · rw [z0, Nat.gcd_zero_right]
        exact iter_end (h0 _ _) (by omega)
      · have nz : lN (x % y) ≠ 0 := fun e => z0 ((lN_eq (by omega) (by omega)).mp (e.trans (show (0 : Int64) = lN 0 from rfl)))
        obtain ⟨f, rfl⟩ : ∃ g, f = g + 1 := ⟨f - 1, by omega⟩
        rw [iter_in (h1 _ _ (k + 1) nz (by omega)), lN_mod hy2 (by omega)]
        have g2 : Nat.gcd y (x % y) = Nat.gcd (x % y) (y % (x % y)) := by
          rw [Nat.gcd_comm y (x % y), Nat.gcd_rec (x % y) y, Nat.gcd_comm]
        rw [g2]
        have hm2 : y % (x % y) < x % y := Nat.mod_lt _ (by omega)
        refine ih (x % y) (y % (x % y)) (k + 2) f ?_ (by omega) (by omega) (by omega) (by omega)
        have h3 := Nat.div_add_mod y (x % y)
        have h4 : 1 ≤ y / (x % y) := Nat.div_pos (by omega) (by omega)
        have h5 : x % y * 1 ≤ x % y * (y / (x % y)) := Nat.mul_le_mul_left _ h4
        rw [Nat.pow_succ] at hy
        omega
theorem cl_gcd {x y : Nat} (hx : x ≤ 1000000) (hy : y ≤ 1000000) : X4_greatestDivisor (lN x) (lN y) = some (lN (Nat.gcd x y)) := by
  have e := euclid (step := X4_greatestDivisor_L9) (fun x k => by
    unfold X4_greatestDivisor_L9
    dsimp only
    by_cases h : (100 : Int32) ≤ k
    · rw [if_pos h]
    · rw [if_neg h, if_pos rfl]) (fun x y k hy hk => by
    unfold X4_greatestDivisor_L9
    dsimp only
    rw [if_neg (show ¬ (100 : Int32) ≤ nI k from nI_ge (b := 100) hk (by omega)), if_neg hy, if_neg hy, nI_1]) 20 x y 0 5000 (by omega) hx hy (by omega) (by omega)
  have e2 : iter X4_greatestDivisor_L9 5000 (lN x, lN y, 0) = _ := e
  simp only [X4_greatestDivisor, e2, Option.bind_some]
theorem rf_gcd {x y : Nat} (hx : x ≤ 1000000) (hy : y ≤ 1000000) : X9_divisor (lN x) (lN y) = some (lN (Nat.gcd x y)) := by
  have e := euclid (step := X9_divisor_L9) (fun x k => by
    unfold X9_divisor_L9
    dsimp only
    by_cases h : (200 : Int32) ≤ k
    · rw [if_pos h]
    · rw [if_neg h, if_pos rfl]) (fun x y k hy hk => by
    unfold X9_divisor_L9
    dsimp only
    rw [if_neg (show ¬ (200 : Int32) ≤ nI k from nI_ge (b := 200) (by omega) (by omega)), if_neg hy, if_neg hy, nI_1]) 20 x y 0 5000 (by omega) hx hy (by omega) (by omega)
  have e2 : iter X9_divisor_L9 5000 (lN x, lN y, 0) = _ := e
  simp only [X9_divisor, e2, Option.bind_some]
