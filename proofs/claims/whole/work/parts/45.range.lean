/-! ===== numbers that callers tell ===== -/
def rng (v lo hi : Int) : Bool := decide (lo ≤ v ∧ v ≤ hi)
theorem within_e (x a b : Int32) : f_X6_within x a b = some (nI (b2 (rng x.toInt a.toInt b.toInt))) := by
  unfold f_X6_within rng
  by_cases h1 : x < a
  · have h2 : ¬ (a.toInt ≤ x.toInt ∧ x.toInt ≤ b.toInt) := by rw [Int32.lt_iff_toInt_lt] at h1; omega
    rw [if_pos h1, decide_eq_false h2]; rfl
  · by_cases h3 : b < x
    · have h2 : ¬ (a.toInt ≤ x.toInt ∧ x.toInt ≤ b.toInt) := by rw [Int32.lt_iff_toInt_lt] at h3; omega
      rw [if_neg h1, if_pos h3, decide_eq_false h2]; rfl
    · have h2 : (a.toInt ≤ x.toInt ∧ x.toInt ≤ b.toInt) := by rw [Int32.lt_iff_toInt_lt] at h1 h3; omega
      rw [if_neg h1, if_neg h3, decide_eq_true h2]; rfl
theorem cmp_lt (x y : Int64) : lg_cmp x y < 0 ↔ x < y := by
  unfold lg_cmp
  by_cases h1 : x > y
  · rw [if_pos h1]
    have : ¬ x < y := by rw [gt_iff_lt, Int64.lt_iff_toInt_lt] at h1; rw [Int64.lt_iff_toInt_lt]; omega
    simp only [this, iff_false]; decide
  · by_cases h2 : x = y
    · rw [if_neg h1, if_pos h2, h2]
      have : ¬ y < y := by rw [Int64.lt_iff_toInt_lt]; omega
      simp only [this, iff_false]; decide
    · have h3 : x < y := by
        rw [gt_iff_lt, Int64.lt_iff_toInt_lt] at h1
        have h4 : x.toInt ≠ y.toInt := fun h => h2 (Int64.toInt_inj.mp h)
        rw [Int64.lt_iff_toInt_lt]; omega
      rw [if_neg h1, if_neg h2]
      simp only [h3, iff_true]; decide
theorem cmp_gt (x y : Int64) : 0 < lg_cmp x y ↔ y < x := by
  unfold lg_cmp
  by_cases h1 : x > y
  · rw [if_pos h1]
    have : y < x := h1
    simp only [this, iff_true]; decide
  · rw [if_neg h1]
    have : ¬ y < x := h1
    simp only [this, iff_false]
    split <;> decide
theorem in_e (x a b : Int64) : f_X7_in x a b = some (nI (b2 (rng x.toInt a.toInt b.toInt))) := by
  unfold f_X7_in rng
  simp only [cmp_lt, cmp_gt]
  by_cases h1 : x < a
  · have h2 : ¬ (a.toInt ≤ x.toInt ∧ x.toInt ≤ b.toInt) := by rw [Int64.lt_iff_toInt_lt] at h1; omega
    rw [if_pos h1, decide_eq_false h2]; rfl
  · by_cases h3 : b < x
    · have h2 : ¬ (a.toInt ≤ x.toInt ∧ x.toInt ≤ b.toInt) := by rw [Int64.lt_iff_toInt_lt] at h3; omega
      rw [if_neg h1, if_pos h3, decide_eq_false h2]; rfl
    · have h2 : (a.toInt ≤ x.toInt ∧ x.toInt ≤ b.toInt) := by rw [Int64.lt_iff_toInt_lt] at h1 h3; omega
      rw [if_neg h1, if_neg h3, decide_eq_true h2]; rfl
theorem m1_e : ∀ P, P < 6 → (nI P - (1 : Int32)).toInt = (P : Int) - 1 := by decide +kernel
theorem rng_nI {x : Int32} {P : Nat} (h : rng x.toInt 0 ((P : Int) - 1) = true) : ∃ j, j < P ∧ x = nI j := by
  unfold rng at h
  have h := of_decide_eq_true h
  refine ⟨x.toInt.toNat, by omega, ?_⟩
  apply Int32.toInt_inj.mp
  have hb : x.toInt < 2 ^ 31 := Int32.toInt_lt x
  rw [nI_toInt (by omega)]
  omega
theorem rng_in {j P : Nat} (h : j < P) (hP : P < 2 ^ 31) : rng (nI j).toInt 0 ((P : Int) - 1) = true := by
  unfold rng
  rw [nI_toInt (by omega)]
  exact decide_eq_true (by omega)
theorem hasPerson_e {P : Nat} (hP : P ≤ 5) (x : Int32) : f_X1_hasPerson x (nI P) = some (nI (b2 (rng x.toInt 0 ((P : Int) - 1)))) := by
  unfold f_X1_hasPerson
  rw [within_e, b_some, m1_e P (by omega)]; rfl
theorem hasOath_e {P : Nat} (hP : P ≤ 5) (x : Int32) : f_X1_hasOath x (nI P) = some (nI (b2 (rng x.toInt 0 ((P : Int) - 1)))) := by
  unfold f_X1_hasOath
  rw [within_e, b_some, m1_e P (by omega)]; rfl
theorem isPerson_e {P : Nat} (hP : P ≤ 5) (x : Int32) : f_X7_isPerson x (nI P) = some (nI (b2 (rng x.toInt 0 ((P : Int) - 1)))) := by
  unfold f_X7_isPerson
  rw [in_e, b_some, Int32.toInt_toInt64, Int32.toInt_toInt64, m1_e P (by omega)]; rfl
theorem isOath_e {P : Nat} (hP : P ≤ 5) (x : Int32) : f_X7_isOath x (nI P) = some (nI (b2 (rng x.toInt 0 ((P : Int) - 1)))) := by
  unfold f_X7_isOath
  rw [in_e, b_some, Int32.toInt_toInt64, Int32.toInt_toInt64, m1_e P (by omega)]; rfl
theorem xPlace_e (x : Int32) : f_X6_isPlace x = some (nI (b2 (rng x.toInt 0 9))) := by
  unfold f_X6_isPlace
  rw [within_e, b_some]; rfl
theorem yPlace_e (x : Int32) : f_X7_isPlace x = some (nI (b2 (rng x.toInt 0 9))) := by
  unfold f_X7_isPlace
  rw [in_e, b_some, Int32.toInt_toInt64]; rfl
theorem in32_e (x : Int32) (a b : Int64) : f_X7_in (Int32.toInt64 x) a b = some (nI (b2 (rng x.toInt a.toInt b.toInt))) := by rw [in_e, Int32.toInt_toInt64]
theorem b2n1 {b : Bool} : (nI (b2 b) = (0 : Int32)) ↔ b = false := b2_0
