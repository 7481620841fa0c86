/-! ===== common divisors ===== -/
theorem itr_c {σ ρ : Type} {b : σ → Option (σ ⊕ ρ)} {n : Nat} {s s' : σ} (h : b s = some (.inl s')) : itr b (n + 1) s = itr b n s' := by
  show (b s).bind _ = _
  rw [h]; rfl
theorem itr_e {σ ρ : Type} {b : σ → Option (σ ⊕ ρ)} {n : Nat} {s : σ} {r : ρ} (h : b s = some (.inr r)) : itr b (n + 1) s = some r := by
  show (b s).bind _ = _
  rw [h]; rfl
theorem mod_half {y r k : Nat} (h0 : 0 < r) (h1 : r < y) (hy : y < 2 ^ (k + 1)) : y % r < 2 ^ k := by
  rw [Nat.pow_succ] at hy
  have h2 := Nat.mod_lt y h0
  have h3 := Nat.mod_add_div y r
  have h4 : 1 ≤ y / r := (Nat.le_div_iff_mul_le h0).mpr (by omega)
  have h5 : r * 1 ≤ r * (y / r) := Nat.mul_le_mul_left r h4
  omega
theorem Y_euclid : ∀ k x y n, x < 2 ^ 31 → y < 2 ^ k → y < 2 ^ 31 → 2 * k < n → itr (fun s => b_X7_common_13 s.1 s.2) n (nI x, nI y) = some (nI (Nat.gcd x y)) := by
  intro k
  induction k with
  | zero =>
    intro x y n hx hy _ hn
    have : y = 0 := by simpa using hy
    subst this
    obtain ⟨m, rfl⟩ : ∃ m, n = m + 1 := ⟨n - 1, by omega⟩
    rw [Nat.gcd_zero_right]
    exact itr_e (by show b_X7_common_13 (nI x) (nI 0) = _; unfold b_X7_common_13; rw [if_pos nI_0])
  | succ k ih =>
    intro x y n hx hy hy31 hn
    obtain ⟨m, rfl⟩ : ∃ m, n = m + 1 + 1 := ⟨n - 2, by omega⟩
    by_cases h0 : y = 0
    · subst h0
      rw [Nat.gcd_zero_right]
      exact itr_e (by show b_X7_common_13 (nI x) (nI 0) = _; unfold b_X7_common_13; rw [if_pos nI_0])
    · have hr : x % y < y := Nat.mod_lt _ (by omega)
      rw [itr_c (s' := (nI y, nI (x % y))) (by show b_X7_common_13 (nI x) (nI y) = _; unfold b_X7_common_13; rw [if_neg (nI_ne0 (by omega) hy31), rm_nI hx (by omega) hy31, b_some])]
      rw [Nat.gcd_comm x y, Nat.gcd_rec y x, Nat.gcd_comm (x % y) y]
      by_cases h1 : x % y = 0
      · rw [h1, Nat.gcd_zero_right]
        exact itr_e (by show b_X7_common_13 (nI y) (nI 0) = _; unfold b_X7_common_13; rw [if_pos nI_0])
      · rw [itr_c (s' := (nI (x % y), nI (y % (x % y)))) (by show b_X7_common_13 (nI y) (nI (x % y)) = _; unfold b_X7_common_13; rw [if_neg (nI_ne0 (by omega) (by omega)), rm_nI hy31 (by omega) (by omega), b_some])]
        have hh := mod_half (by omega) hr hy
        have hlt := Nat.mod_lt y (show 0 < x % y by omega)
        rw [ih (x % y) (y % (x % y)) m (by omega) hh (by omega) (by omega), Nat.gcd_comm y (x % y), Nat.gcd_rec (x % y) y, Nat.gcd_comm (y % (x % y))]
theorem Y_common {x y : Nat} (hx : x < 2 ^ 31) (hy : y < 2 ^ 20) : f_X7_common (nI x) (nI y) = some (nI (Nat.gcd x y)) := by
  unfold f_X7_common
  rw [if_pos (nI_pos' hx), Y_euclid 20 x y FU hx hy (by omega) (lt_FU (by omega))]; rfl
theorem X_euclid : ∀ k x y i n, x < 2 ^ 31 → y < 2 ^ k → y < 2 ^ 31 → 2 * k < n → i + 2 * k < 64 → itr (fun s => b_X6_commonDivisor_7 s.1 s.2.1 s.2.2) n (nI x, nI y, nI i) = some (nI (Nat.gcd x y)) := by
  intro k
  induction k with
  | zero =>
    intro x y i n hx hy _ hn hi
    have : y = 0 := by simpa using hy
    subst this
    obtain ⟨m, rfl⟩ : ∃ m, n = m + 1 := ⟨n - 1, by omega⟩
    rw [Nat.gcd_zero_right]
    refine itr_e ?_
    show b_X6_commonDivisor_7 (nI x) (nI 0) (nI i) = _
    unfold b_X6_commonDivisor_7
    rw [if_neg (show ¬ (64 : Int32) ≤ nI i from nI_ge (a := i) (b := 64) (by omega) (by omega)), if_pos nI_0]
  | succ k ih =>
    intro x y i n hx hy hy31 hn hi
    obtain ⟨m, rfl⟩ : ∃ m, n = m + 1 + 1 := ⟨n - 2, by omega⟩
    have b64 : ∀ j, j < 64 → ¬ (64 : Int32) ≤ nI j := fun j hj => nI_ge (a := j) (b := 64) hj (by omega)
    by_cases h0 : y = 0
    · subst h0
      rw [Nat.gcd_zero_right]
      refine itr_e ?_
      show b_X6_commonDivisor_7 (nI x) (nI 0) (nI i) = _
      unfold b_X6_commonDivisor_7
      rw [if_neg (b64 i (by omega)), if_pos nI_0]
    · have hr : x % y < y := Nat.mod_lt _ (by omega)
      rw [itr_c (s' := (nI y, nI (x % y), nI (i + 1))) (by show b_X6_commonDivisor_7 (nI x) (nI y) (nI i) = _; unfold b_X6_commonDivisor_7; rw [if_neg (b64 i (by omega)), if_neg (nI_ne0 (by omega) hy31), rm_nI hx (by omega) hy31, b_some, nI_1])]
      rw [Nat.gcd_comm x y, Nat.gcd_rec y x, Nat.gcd_comm (x % y) y]
      by_cases h1 : x % y = 0
      · rw [h1, Nat.gcd_zero_right]
        refine itr_e ?_
        show b_X6_commonDivisor_7 (nI y) (nI 0) (nI (i + 1)) = _
        unfold b_X6_commonDivisor_7
        rw [if_neg (b64 (i + 1) (by omega)), if_pos nI_0]
      · rw [itr_c (s' := (nI (x % y), nI (y % (x % y)), nI (i + 1 + 1))) (by show b_X6_commonDivisor_7 (nI y) (nI (x % y)) (nI (i + 1)) = _; unfold b_X6_commonDivisor_7; rw [if_neg (b64 (i + 1) (by omega)), if_neg (nI_ne0 (by omega) (by omega)), rm_nI hy31 (by omega) (by omega), b_some, nI_1])]
        have hh := mod_half (by omega) hr hy
        have hlt := Nat.mod_lt y (show 0 < x % y by omega)
        rw [ih (x % y) (y % (x % y)) (i + 1 + 1) m (by omega) hh (by omega) (by omega) (by omega), Nat.gcd_comm y (x % y), Nat.gcd_rec (x % y) y, Nat.gcd_comm (y % (x % y))]
theorem X_common {x y : Nat} (hx : x < 2 ^ 31) (hy : y < 2 ^ 20) : f_X6_commonDivisor (nI x) (nI y) = some (nI (Nat.gcd x y)) := by
  unfold f_X6_commonDivisor
  have := X_euclid 20 x y 0 FU hx hy (by omega) (lt_FU (by omega)) (by omega)
  rw [nI_0] at this
  rw [this]; rfl
theorem dv_nI {a b : Nat} (ha : a < 2 ^ 31) (h0 : 0 < b) (hb : b < 2 ^ 31) : dvI (nI a) (nI b) = some (nI (a / b)) := by
  unfold dvI
  rw [if_neg (nI_ne0 h0 hb), pk_div ha h0 hb]
theorem X_fraction {x y : Nat} (hx : x < 2 ^ 31) (hy0 : 0 < y) (hy : y < 2 ^ 20) (u : Int32) : f_X6_fraction (nI x) (nI y) u = some (if u = 0 then nI (y / Nat.gcd x y) else nI (x / Nat.gcd x y)) := by
  have hg0 : 0 < Nat.gcd x y := Nat.gcd_pos_of_pos_right _ hy0
  have hgy : Nat.gcd x y ≤ y := Nat.gcd_le_right _ hy0
  unfold f_X6_fraction
  have hm : (if (1 : Int32) < nI (Nat.gcd x y) then nI (Nat.gcd x y) else (1 : Int32)) = nI (Nat.gcd x y) := by
    by_cases h1 : Nat.gcd x y = 1
    · rw [h1]; decide
    · rw [if_pos (show (1 : Int32) < nI (Nat.gcd x y) from nI_lt (a := 1) (b := Nat.gcd x y) (by omega) (by omega))]
  rw [X_common hx hy, b_some, hm, dv_nI (by omega) hg0 (by omega), dv_nI hx hg0 (by omega)]
  by_cases h : u = 0
  · rw [if_pos h, if_pos h]; rfl
  · rw [if_neg h, if_neg h]; rfl
/-! ===== shares ===== -/
def facN : Nat → Nat
  | 0 => 1
  | n + 1 => facN n * (n + 1)
theorem fac_e : ∀ n, n < 6 → f_X7_factorial (nI n) = some (nI (facN n)) := by decide +kernel
def sN (f : Nat → Nat) : Nat → Nat
  | 0 => 0
  | n + 1 => sN f n + f n
theorem sN_congr {f g : Nat → Nat} : ∀ n, (∀ i, i < n → f i = g i) → sN f n = sN g n
  | 0, _ => rfl
  | n + 1, h => by
    show sN f n + f n = sN g n + g n
    rw [sN_congr n (fun i hi => h i (by omega)), h n (by omega)]
theorem sN_add (f g : Nat → Nat) (c : Nat) : ∀ n, sN (fun i => f i + c * g i) n = sN f n + c * sN g n
  | 0 => rfl
  | n + 1 => by
    show sN (fun i => f i + c * g i) n + (f n + c * g n) = (sN f n + f n) + c * (sN g n + g n)
    rw [sN_add f g c n, Nat.mul_add]
    omega
theorem sN_0 : ∀ n, sN (fun _ => 0) n = 0
  | 0 => rfl
  | n + 1 => by show sN (fun _ => 0) n + 0 = 0; rw [sN_0 n]
theorem sN_le {f : Nat → Nat} : ∀ {a b : Nat}, a ≤ b → sN f a ≤ sN f b := by
  intro a b h
  induction h with
  | refl => exact Nat.le_refl _
  | step _ ih => exact Nat.le_trans ih (Nat.le_add_right _ _)
def cN (P T : Nat) : Nat := facN (pop T) * facN (P - 1 - pop T)
def swN (C : Cty) (S T : Nat) : Nat → Nat
  | 0 => 0
  | n + 1 => swN C S T n + b2 (T.testBit (o1 C n) && T.testBit (o2 C n) && S.testBit n) * wo C n
def cdB (C : Cty) (p T n : Nat) : Bool := (decide (o1 C n = p) && T.testBit (o2 C n)) || (decide (o2 C n = p) && T.testBit (o1 C n))
def dN (C : Cty) (S p T : Nat) : Nat → Nat
  | 0 => 0
  | n + 1 => dN C S p T n + b2 (S.testBit n) * wo C n * b2 (cdB C p T n)
theorem sw_d {C : Cty} (hC : CM C) {S p T : Nat} (hp : p < cP C) (hT : T < 32) (hpT : T.testBit p = false) : ∀ n, n ≤ cO C → swN C S (sett T p) n = swN C S T n + dN C S p T n
  | 0, _ => rfl
  | n + 1, h => by
    have hP := hC.1
    obtain ⟨d1, d2, d3, -, -⟩ := hC.2.2.2.2.1 n (by omega)
    have ih := sw_d hC (S := S) hp hT hpT n (by omega)
    have e1 : swN C S (sett T p) (n + 1) = swN C S (sett T p) n + b2 ((sett T p).testBit (o1 C n) && (sett T p).testBit (o2 C n) && S.testBit n) * wo C n := rfl
    have e2 : swN C S T (n + 1) = swN C S T n + b2 (T.testBit (o1 C n) && T.testBit (o2 C n) && S.testBit n) * wo C n := rfl
    have e3 : dN C S p T (n + 1) = dN C S p T n + b2 (S.testBit n) * wo C n * b2 (cdB C p T n) := rfl
    rw [e1, e2, e3, ih, sett_tb T hT p (by omega) _ (show o1 C n < 5 by omega), sett_tb T hT p (by omega) _ (show o2 C n < 5 by omega)]
    have key : b2 ((T.testBit (o1 C n) || decide (o1 C n = p)) && (T.testBit (o2 C n) || decide (o2 C n = p)) && S.testBit n) * wo C n = b2 (T.testBit (o1 C n) && T.testBit (o2 C n) && S.testBit n) * wo C n + b2 (S.testBit n) * wo C n * b2 (cdB C p T n) := by
      unfold cdB
      by_cases h1 : o1 C n = p
      · have h2 : ¬ o2 C n = p := fun h => d3 (h1.trans h.symm)
        rw [h1, hpT, decide_eq_true (show p = p from rfl), decide_eq_false h2]
        cases T.testBit (o2 C n) <;> cases S.testBit n <;> simp [b2]
      · by_cases h2 : o2 C n = p
        · rw [h2, hpT, decide_eq_true (show p = p from rfl), decide_eq_false h1]
          cases T.testBit (o1 C n) <;> cases S.testBit n <;> simp [b2]
        · rw [decide_eq_false h1, decide_eq_false h2]
          cases T.testBit (o1 C n) <;> cases T.testBit (o2 C n) <;> cases S.testBit n <;> simp [b2]
    rw [key]
    omega
theorem K_e : ∀ P, P < 6 → ∀ p, p < P → ∀ o, o < P → ¬ o = p → sN (fun T => if T.testBit p then 0 else cN P T * b2 (T.testBit o)) (2 ^ P) = facN P / 2 := by decide +kernel
def wpN (C : Cty) (S p : Nat) : Nat → Nat
  | 0 => 0
  | n + 1 => wpN C S p n + b2 ((decide (o1 C n = p) || decide (o2 C n = p)) && S.testBit n) * wo C n
theorem Q_e {C : Cty} (hC : CM C) {S p : Nat} (hp : p < cP C) : ∀ n, n ≤ cO C → sN (fun T => if T.testBit p then 0 else cN (cP C) T * dN C S p T n) (2 ^ cP C) = facN (cP C) / 2 * wpN C S p n
  | 0, _ => by
    have : sN (fun T => if T.testBit p then 0 else cN (cP C) T * dN C S p T 0) (2 ^ cP C) = sN (fun _ => 0) (2 ^ cP C) := sN_congr _ (fun i _ => by show (if _ then 0 else _ * 0) = 0; split <;> simp)
    rw [this, sN_0]; rfl
  | n + 1, h => by
    have hP := hC.1
    obtain ⟨d1, d2, d3, -, -⟩ := hC.2.2.2.2.1 n (by omega)
    have ih := Q_e hC (S := S) hp n (by omega)
    have e1 : sN (fun T => if T.testBit p then 0 else cN (cP C) T * dN C S p T (n + 1)) (2 ^ cP C) = sN (fun T => (if T.testBit p then 0 else cN (cP C) T * dN C S p T n) + (b2 (S.testBit n) * wo C n) * (if T.testBit p then 0 else cN (cP C) T * b2 (cdB C p T n))) (2 ^ cP C) := by
      refine sN_congr _ (fun T _ => ?_)
      show (if T.testBit p then 0 else cN (cP C) T * (dN C S p T n + b2 (S.testBit n) * wo C n * b2 (cdB C p T n))) = _
      split
      · simp
      · rw [Nat.mul_add]
        congr 1
        rw [Nat.mul_left_comm]
    rw [e1, sN_add, ih]
    have e2 : wpN C S p (n + 1) = wpN C S p n + b2 ((decide (o1 C n = p) || decide (o2 C n = p)) && S.testBit n) * wo C n := rfl
    rw [e2, Nat.mul_add]
    congr 1
    by_cases h1 : o1 C n = p
    · have h2 : ¬ o2 C n = p := fun h => d3 (h1.trans h.symm)
      have e3 : sN (fun T => if T.testBit p then 0 else cN (cP C) T * b2 (cdB C p T n)) (2 ^ cP C) = facN (cP C) / 2 := by
        rw [← K_e (cP C) (by omega) p hp (o2 C n) d2 h2]
        refine sN_congr _ (fun T _ => ?_)
        unfold cdB
        rw [decide_eq_true h1, decide_eq_false h2]
        simp
      rw [e3, decide_eq_true h1]
      cases S.testBit n <;> simp [b2, Nat.mul_comm]
    · by_cases h2 : o2 C n = p
      · have e3 : sN (fun T => if T.testBit p then 0 else cN (cP C) T * b2 (cdB C p T n)) (2 ^ cP C) = facN (cP C) / 2 := by
          rw [← K_e (cP C) (by omega) p hp (o1 C n) d1 h1]
          refine sN_congr _ (fun T _ => ?_)
          unfold cdB
          rw [decide_eq_true h2, decide_eq_false h1]
          simp
        rw [e3, decide_eq_true h2, decide_eq_false h1]
        cases S.testBit n <;> simp [b2, Nat.mul_comm]
      · have e3 : sN (fun T => if T.testBit p then 0 else cN (cP C) T * b2 (cdB C p T n)) (2 ^ cP C) = 0 := by
          refine (sN_congr _ (fun T _ => ?_)).trans (sN_0 _)
          unfold cdB
          rw [decide_eq_false h2, decide_eq_false h1]
          simp [b2]
        rw [e3, decide_eq_false h1, decide_eq_false h2]
        simp [b2]

theorem oof_tb (C : Cty) (p : Nat) : ∀ n, n ≤ 5 → ∀ k, k < 5 → (oofN C p n).testBit k = (decide (k < n) && (decide (o1 C k = p) || decide (o2 C k = p)))
  | 0, _, k, _ => by simp [oofN]
  | n + 1, h, k, hk => by
    have ih := oof_tb C p n (by omega) k hk
    have hlt := oofN_lt C p n
    unfold oofN
    by_cases hc : o1 C n = p ∨ o2 C n = p
    · rw [if_pos hc, hear_tb n (by omega) _ hlt k hk, ih]
      by_cases hkn : k = n
      · subst hkn
        rcases hc with h1 | h1 <;> simp [h1]
      · have : (k < n + 1) ↔ (k < n) := by omega
        simp [hkn, this]
    · rw [if_neg hc, ih]
      by_cases hkn : k = n
      · subst hkn
        have h1 : ¬ o1 C k = p := fun h => hc (Or.inl h)
        have h2 : ¬ o2 C k = p := fun h => hc (Or.inr h)
        simp [h1, h2]
      · have : (k < n + 1) ↔ (k < n) := by omega
        simp [this]
theorem wp_wor {C : Cty} (hC : CM C) (S p : Nat) : ∀ n, n ≤ cO C → worN C (oofN C p (cO C) &&& S) n = wpN C S p n
  | 0, _ => rfl
  | n + 1, h => by
    have hO := hC.2.2.1
    have ih := wp_wor hC S p n (by omega)
    show worN C (oofN C p (cO C) &&& S) n + b2 ((oofN C p (cO C) &&& S).testBit n) * wo C n = wpN C S p n + b2 ((decide (o1 C n = p) || decide (o2 C n = p)) && S.testBit n) * wo C n
    rw [ih, Nat.testBit_and, oof_tb C p _ hO n (by omega), decide_eq_true (show n < cO C by omega), Bool.true_and]
def bothN (C : Cty) (T : Nat) : Nat → Nat
  | 0 => 0
  | n + 1 => if T.testBit (o1 C n) && T.testBit (o2 C n) then bothN C T n + 2 ^ n else bothN C T n
theorem bothN_lt (C : Cty) (T : Nat) : ∀ n, bothN C T n < 2 ^ n
  | 0 => by simp [bothN]
  | n + 1 => by
    have h := bothN_lt C T n
    unfold bothN
    split <;> rw [Nat.pow_succ] <;> omega
theorem both_tb (C : Cty) (T : Nat) : ∀ n, n ≤ 5 → ∀ k, k < 5 → (bothN C T n).testBit k = (decide (k < n) && (T.testBit (o1 C k) && T.testBit (o2 C k)))
  | 0, _, k, _ => by simp [bothN]
  | n + 1, h, k, hk => by
    have ih := both_tb C T n (by omega) k hk
    have hlt := bothN_lt C T n
    unfold bothN
    by_cases hc : (T.testBit (o1 C n) && T.testBit (o2 C n)) = true
    · rw [if_pos hc, hear_tb n (by omega) _ hlt k hk, ih]
      by_cases hkn : k = n
      · subst hkn
        simp [hc]
      · have : (k < n + 1) ↔ (k < n) := by omega
        simp [hkn, this]
    · rw [if_neg hc, ih]
      by_cases hkn : k = n
      · subst hkn
        have hc' : (T.testBit (o1 C k) && T.testBit (o2 C k)) = false := by simpa only [Bool.not_eq_true] using hc
        rw [hc']; simp
      · have : (k < n + 1) ↔ (k < n) := by omega
        simp [this]
theorem sw_wor {C : Cty} (hC : CM C) (S T : Nat) : ∀ n, n ≤ cO C → worN C (bothN C T (cO C) &&& S) n = swN C S T n
  | 0, _ => rfl
  | n + 1, h => by
    have hO := hC.2.2.1
    have ih := sw_wor hC S T n (by omega)
    show worN C (bothN C T (cO C) &&& S) n + b2 ((bothN C T (cO C) &&& S).testBit n) * wo C n = swN C S T n + b2 (T.testBit (o1 C n) && T.testBit (o2 C n) && S.testBit n) * wo C n
    rw [ih, Nat.testBit_and, both_tb C T _ hO n (by omega), decide_eq_true (show n < cO C by omega), Bool.true_and]
theorem Y_swornBy {C : Cty} (hC : CM C) {kind skyAt skyLoud one other worth hangs : Nat → Int32} (hY : CY C kind skyAt skyLoud one other worth hangs) {T S : Nat} (hT : T < 32) (hS : S < 2 ^ cO C) {N : Nat → Int32} (hN : N 6 = nI S) : f_X7_swornBy (nI T) (nI (cO C)) one other worth N = some (nI (swN C S T (cO C))) := by
  have hO := hC.2.2.1
  have hP := hC.1
  unfold f_X7_swornBy
  have h : itr (fun s => b_X7_swornBy_4 (nI T) (nI (cO C)) one other s.1 s.2) FU ((0 : Int32), (0 : Int32)) = some (nI (bothN C T (cO C))) := by
    refine itr_run (fun i => (nI (bothN C T i), nI i)) (cO C) ?_ ?_ FU (lt_FU (by omega))
    · intro i hi
      have hlt := bothN_lt C T i
      obtain ⟨e1, e2, -, -⟩ := hY.2.1 i hi
      obtain ⟨d1, d2, -, -, -⟩ := hC.2.2.2.2.1 i hi
      show b_X7_swornBy_4 (nI T) (nI (cO C)) one other (nI (bothN C T i)) (nI i) = some (.inl (nI (bothN C T (i + 1)), nI (i + 1)))
      unfold b_X7_swornBy_4
      rw [if_neg (nI_ge hi (by omega)), ald_nI (by omega), b_some, ald_nI (by omega), e1, e2, has_ok T hT _ (by omega), b_some]
      simp only [b_some, has_ok T hT _ (show o2 C i < 5 by omega), b2_0, hearN_or i (by omega) _ hlt, or0_e _ (lt32 (show i ≤ 5 by omega) hlt), nI_succ i, bothN]
      cases T.testBit (o1 C i) <;> cases T.testBit (o2 C i) <;> simp
    · show b_X7_swornBy_4 (nI T) (nI (cO C)) one other (nI (bothN C T (cO C))) (nI (cO C)) = _
      unfold b_X7_swornBy_4
      rw [if_pos (nI_le (Nat.le_refl _) (by omega))]
  have hb := lt32 hO (bothN_lt C T (cO C))
  rw [h, b_some, l_6, ald_nI (by omega), b_some, hN, and_e _ hb _ (lt32 hO hS), Y_worthsOf hC (fun k hk => (hY.2.1 k hk).2.2.1) (Nat.lt_of_le_of_lt Nat.and_le_left hb), b_some, sw_wor hC S T _ (Nat.le_refl _)]
theorem pop_le : ∀ P, P < 6 → ∀ T, T < 2 ^ P → ∀ p, p < P → T.testBit p = false → pop T ≤ P - 1 := by decide +kernel
theorem pow_e : ∀ P, P < 7 → ((1 : Int32) <<< (nI P &&& 31)) = nI (2 ^ P) := by decide +kernel
theorem fac_le : ∀ P, P < 6 → facN P ≤ 120 ∧ 0 < facN P := by decide +kernel
theorem fac_2 : ∀ P, P < 6 → 2 ≤ P → facN P = facN P / 2 * 2 ∧ 0 < facN P / 2 := by decide +kernel
theorem wp_le {C : Cty} (hC : CM C) (S p : Nat) : wpN C S p (cO C) ≤ 45 := by
  have h := worN_lt hC (oofN C p (cO C) &&& S) (cO C) (Nat.le_refl _)
  rw [wp_wor hC S p _ (Nat.le_refl _)] at h
  have := hC.2.2.1
  omega
theorem p_share {C : Cty} (hC : CM C) {kinds cp ld ones others worths hangs : Nat → Int32} (hX : CX C kinds cp ld ones others worths hangs) {kind skyAt skyLoud one other worth hangs' : Nat → Int32} (hY : CY C kind skyAt skyLoud one other worth hangs') {B : Nat} {a b c d e : Int32} {N : Nat → Int32} (hs : RS C B a b c d e N 0) (v1 v2 : Int32) : ∃ r, f_X6_share v1 v2 (nI (cP C)) (nI (cO C)) c ones others worths = some r ∧ f_X7_share v1 v2 (nI (cP C)) (nI (cO C)) one other worth N = some r := by
  have hP := hC.1
  have hO := hC.2.2.1
  unfold f_X6_share f_X7_share
  rw [hasPerson_e hP, isPerson_e hP, b_some, b_some]
  simp only [b2_0]
  by_cases g1 : rng v1.toInt 0 ((cP C : Int) - 1) = false
  · rw [if_pos g1, if_pos g1]; exact ⟨_, rfl, rfl⟩
  rw [if_neg g1, if_neg g1]
  obtain ⟨p, hp, rfl⟩ := rng_nI (by simpa only [Bool.not_eq_false] using g1)
  obtain ⟨-, v6, -, -, S, hS, rfl⟩ := hs.val hC
  rw [Nat.zero_add] at v6
  have hl := lt32 hO (oofN_lt C p (cO C))
  have hW45 := wp_le hC S p
  rw [X_oathsOf hC hX hp, b_some, and_e _ hl _ (lt32 hO hS), X_worthOf hC (fun k hk => (hX.2.1 k hk).2.2.1) (Nat.lt_of_le_of_lt Nat.and_le_left hl), b_some, wp_wor hC S p _ (Nat.le_refl _), l_2, X_fraction (by omega) (by omega) (by omega), b_some]
  have h2P : 2 ^ cP C ≤ 32 := p2_le _ (by omega)
  have hk : itr (fun s => b_X7_share_15 (nI p) v2 (nI (cP C)) (nI (cO C)) one other worth N s.1 s.2) FU ((0 : Int32), (0 : Int32)) = some (nI (facN (cP C) / 2 * wpN C S p (cO C))) := by
    rw [← Q_e hC (S := S) hp _ (Nat.le_refl _)]
    refine itr_run (fun T => (nI (sN (fun T => if T.testBit p then 0 else cN (cP C) T * dN C S p T (cO C)) T), nI T)) (2 ^ cP C) ?_ ?_ FU (lt_FU (by omega))
    · intro T hT
      show b_X7_share_15 (nI p) v2 (nI (cP C)) (nI (cO C)) one other worth N (nI (sN (fun T => if T.testBit p then 0 else cN (cP C) T * dN C S p T (cO C)) T)) (nI T) = some (.inl (nI (sN (fun T => if T.testBit p then 0 else cN (cP C) T * dN C S p T (cO C)) T + (if T.testBit p then 0 else cN (cP C) T * dN C S p T (cO C))), nI (T + 1)))
      unfold b_X7_share_15
      rw [pow_e _ (by omega), if_neg (nI_ge hT (by omega)), has_ok T (by omega) p (by omega), b_some]
      simp only [b2_0]
      by_cases ht : T.testBit p = false
      · have hpl := pop_le _ (by omega) T hT p hp ht
        have hp6 : pop T < 6 := by omega
        rw [if_pos ht, pop_ones T (by omega), b_some, fac_e _ hp6, b_some, b_some, l_1, pk_sub (by omega), pk_sub (by omega), fac_e _ (by omega), b_some, pk_mul, b_some, ← l_1, set_e T (by omega) p (by omega), Y_swornBy hC hY (lt32 hP (sett_lt _ (by omega) _ hT p hp)) hS v6, b_some, Y_swornBy hC hY (by omega) hS v6, b_some, sw_d hC hp (by omega) ht _ (Nat.le_refl _), pk_sub (by omega), pk_mul, nI_add, b_some, nI_1, Nat.add_sub_cancel_left, if_neg (by rw [ht]; decide)]
        rfl
      · rw [if_neg ht, if_pos (by simpa using ht), nI_1]; rfl
    · show b_X7_share_15 (nI p) v2 (nI (cP C)) (nI (cO C)) one other worth N _ (nI (2 ^ cP C)) = _
      unfold b_X7_share_15
      rw [pow_e _ (by omega), if_pos (nI_le (Nat.le_refl _) (by omega))]
  obtain ⟨f1, f2⟩ := fac_le (cP C) (by omega)
  have hF60 : facN (cP C) / 2 ≤ 60 := by omega
  have htot : facN (cP C) / 2 * wpN C S p (cO C) ≤ 60 * 45 := Nat.mul_le_mul hF60 hW45
  have hg0 : 0 < Nat.gcd (facN (cP C) / 2 * wpN C S p (cO C)) (facN (cP C)) := Nat.gcd_pos_of_pos_right _ f2
  have hgle : Nat.gcd (facN (cP C) / 2 * wpN C S p (cO C)) (facN (cP C)) ≤ facN (cP C) := Nat.gcd_le_right _ f2
  rw [hk, b_some, fac_e _ (by omega), b_some, Y_common (by omega) (by omega), b_some, b_some, dv_nI (by omega) hg0 (by omega), dv_nI (by omega) hg0 (by omega), b_some, b_some]
  have key : facN (cP C) / Nat.gcd (facN (cP C) / 2 * wpN C S p (cO C)) (facN (cP C)) = 2 / Nat.gcd (wpN C S p (cO C)) 2 ∧ (facN (cP C) / 2 * wpN C S p (cO C)) / Nat.gcd (facN (cP C) / 2 * wpN C S p (cO C)) (facN (cP C)) = wpN C S p (cO C) / Nat.gcd (wpN C S p (cO C)) 2 := by
    by_cases hP2 : 2 ≤ cP C
    · obtain ⟨q1, q2⟩ := fac_2 (cP C) (by omega) hP2
      have e1 : Nat.gcd (facN (cP C) / 2 * wpN C S p (cO C)) (facN (cP C)) = facN (cP C) / 2 * Nat.gcd (wpN C S p (cO C)) 2 := by
        conv => lhs; arg 2; rw [q1]
        rw [Nat.gcd_mul_left]
      rw [e1]
      refine ⟨?_, Nat.mul_div_mul_left _ _ q2⟩
      conv => lhs; arg 1; rw [q1]
      exact Nat.mul_div_mul_left _ _ q2
    · have hO0 : cO C = 0 := by
        rcases Nat.eq_zero_or_pos (cO C) with h | h
        · exact h
        · obtain ⟨d1, d2, d3, -, -⟩ := hC.2.2.2.2.1 0 h
          omega
      have hP1 : cP C = 1 := by omega
      rw [hP1, hO0]
      show facN 1 / Nat.gcd (facN 1 / 2 * 0) (facN 1) = 2 / Nat.gcd 0 2 ∧ facN 1 / 2 * 0 / Nat.gcd (facN 1 / 2 * 0) (facN 1) = 0 / Nat.gcd 0 2
      decide
  rw [key.1, key.2]
  by_cases c0 : v2 = 0
  · rw [if_pos c0, if_pos c0]; exact ⟨_, rfl, rfl⟩
  · rw [if_neg c0, if_neg c0]; exact ⟨_, rfl, rfl⟩
