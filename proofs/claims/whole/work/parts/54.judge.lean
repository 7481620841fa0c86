theorem th_x : ∀ n, n < 5 → f_X6_thousands (nI n) = some (lN (1000 ^ n)) := by decide +kernel
theorem th_y : ∀ n, n < 5 → f_X7_thousandTo (nI n) = some (lN (1000 ^ n)) := by decide +kernel
theorem th_i : ∀ n, n < 5 → (lN (1000 ^ n)).toInt = ((1000 ^ n : Nat) : Int) ∧ (lN (1000 ^ n) - (1 : Int64)).toInt = ((1000 ^ n : Nat) : Int) - 1 := by decide +kernel
theorem th_le : ∀ n, n < 5 → 1000 ^ n ≤ 1000000000000 := by decide +kernel
theorem l_1000 : (1000 : Int64) = lN 1000 := by decide
theorem fig_e {q : Nat} (hq : q < 2 ^ 62) : Int64.toInt32 (lN q - lN q / (1000 : Int64) * (1000 : Int64)) = nI (q % 1000) := by
  rw [l_1000, pk_lRem (by omega) (by omega) (by omega), lN_i]
theorem X_figuresAt {R j : Nat} (hR : R < 2 ^ 62) (hj : j < 5) : f_X6_figuresAt (lN R) (nI j) = some (nI (R / 1000 ^ j % 1000)) := by
  unfold f_X6_figuresAt
  have hle : ∀ i, R / 1000 ^ i ≤ R := fun i => Nat.div_le_self _ _
  have key : itr (fun s => b_X6_figuresAt_5 (nI j) s.1 s.2) FU (lN R, (0 : Int32)) = some (lN (R / 1000 ^ j)) := by
    have k := itr_run (b := fun s => b_X6_figuresAt_5 (nI j) s.1 s.2) (fun i => (lN (R / 1000 ^ i), nI i)) j (r := lN (R / 1000 ^ j)) ?_ ?_ FU (lt_FU (by omega))
    · rw [Nat.pow_zero, Nat.div_one] at k; exact k
    · intro i hi
      have := hle i
      show b_X6_figuresAt_5 (nI j) (lN (R / 1000 ^ i)) (nI i) = some (.inl (lN (R / 1000 ^ (i + 1)), nI (i + 1)))
      unfold b_X6_figuresAt_5
      rw [if_neg (nI_ge hi (by omega)), b_some, l_1000, pk_lDiv (by omega) (by omega) (by omega), nI_1, Nat.div_div_eq_div_mul, Nat.pow_succ]
    · show b_X6_figuresAt_5 (nI j) (lN (R / 1000 ^ j)) (nI j) = _
      unfold b_X6_figuresAt_5
      rw [if_pos (nI_le (Nat.le_refl _) (by omega))]
  have := hle j
  rw [key, b_some, fig_e (by omega)]
theorem dvL_nI {a b : Nat} (ha : a < 2 ^ 63) (h0 : 0 < b) (hb : b < 2 ^ 63) : dvL (lN a) (lN b) = some (lN (a / b)) := by
  unfold dvL
  rw [if_neg, pk_lDiv ha h0 hb]
  intro h
  have := (pk_lEQ (a := b) (b := 0) hb (by omega)).mp h
  omega
theorem l_100' : (100 : Int32) = nI 100 := l_100
theorem f3_e {F : Nat} (hF : F < 1000) : nI F / (100 : Int32) = nI (F / 100) ∧ ((nI F / (10 : Int32)) - (nI F / (10 : Int32)) / (10 : Int32) * (10 : Int32)) = nI (F / 10 % 10) ∧ (nI F - nI F / (10 : Int32) * (10 : Int32)) = nI (F % 10) := by
  rw [l_100, l_10]
  refine ⟨pk_div (by omega) (by omega) (by omega), ?_, pk_rem (by omega) (by omega) (by omega)⟩
  rw [pk_div (by omega) (by omega) (by omega), pk_rem (by omega) (by omega) (by omega)]
theorem p_judge {C : Cty} (hC : CM C) {kinds cp ld ones others worths hangs : Nat → Int32} (hX : CX C kinds cp ld ones others worths hangs) {kind skyAt skyLoud one other worth hangs' : Nat → Int32} (hY : CY C kind skyAt skyLoud one other worth hangs') {B : Nat} (hB : B < 2 ^ 28) {a b c d e : Int32} {N : Nat → Int32} (hs : RS C B a b c d e N 0) (ta tb tc td te v1 : Int32) (v2 : Int64) : ∃ r t1 t2 t3 t4 t5 N1, f_X6_judge v1 v2 (nI (cP C)) (nI (cK C)) (nI (cO C)) a b c d e ta tb tc td te kinds cp ld ones others worths hangs = some (r, t1, t2, t3, t4, t5) ∧ f_X7_judge v1 v2 (nI (cP C)) (nI (cK C)) (nI (cO C)) kind skyAt skyLoud one other worth hangs' N = some (r, N1) ∧ LT 1 N N1 := by
  unfold f_X6_judge f_X7_judge f_X4_copyFrom
  simp only [within_e, in32_e, b_some, b2_0, i64_1, i32_1, i64_4, i32_4]
  by_cases g1 : rng v1.toInt 1 4 = false
  · rw [if_pos g1, if_pos g1]; exact ⟨_, _, _, _, _, _, _, rfl, rfl, LT.rfl 1 N⟩
  rw [if_neg g1, if_neg g1]
  obtain ⟨n, hn1, hn4, rfl⟩ := rng_lo (lo := 1) (k := 4) (by simpa using g1)
  obtain ⟨ti1, ti2⟩ := th_i n (by omega)
  have tle := th_le n (by omega)
  rw [th_x n (by omega), th_y n (by omega), b_some, b_some, in_e, b_some, i64_0, ti2]
  simp only [cmp_lt, b2_0]
  by_cases g2 : v2 < 0
  · have g3 : rng v2.toInt 0 (((1000 ^ n : Nat) : Int) - 1) = false := by
      rw [Int64.lt_iff_toInt_lt, i64_0] at g2
      exact decide_eq_false (by omega)
    rw [if_pos g2, if_pos g3]; exact ⟨_, _, _, _, _, _, _, rfl, rfl, LT.rfl 1 N⟩
  rw [if_neg g2]
  by_cases g4 : v2 < lN (1000 ^ n)
  · have g3 : ¬ rng v2.toInt 0 (((1000 ^ n : Nat) : Int) - 1) = false := by
      rw [Int64.lt_iff_toInt_lt, i64_0] at g2
      rw [Int64.lt_iff_toInt_lt, ti1] at g4
      rw [Bool.not_eq_false]
      exact decide_eq_true (by omega)
    rw [if_pos g4, if_neg g3]
    obtain ⟨R, hR, rfl⟩ := pk_lOf g2
    have hR12 : R < 1000000000000 := by
      rw [Int64.lt_iff_toInt_lt, ti1, pk_lT hR] at g4
      omega
    obtain ⟨M, e1, h1, h2⟩ := r_copy hC hs
    rw [e1, b_some]
    obtain ⟨r1, r2, k1, k2, hQ⟩ := itr_two (b1 := fun s => b_X6_judge_41 (nI n) (lN R) (nI (cP C)) (nI (cK C)) (nI (cO C)) kinds cp ld ones others worths hangs s.1 s.2.1 s.2.2.1 s.2.2.2.1 s.2.2.2.2.1 s.2.2.2.2.2) (b2 := fun s => b_X7_judge_36 (nI n) (lN R) (nI (cP C)) (nI (cK C)) (nI (cO C)) kind skyAt skyLoud one other worth hangs' s.1 s.2) (fun i s1 s2 => s1.1 = nI i ∧ s2.1 = nI i ∧ RS C (B + i) s1.2.1 s1.2.2.1 s1.2.2.2.1 s1.2.2.2.2.1 s1.2.2.2.2.2 s2.2 9 ∧ LT 1 M s2.2) n (fun r1 r2 => (∃ x y, r1 = Sum.inl x ∧ r2 = Sum.inl y ∧ LT 1 M y) ∨ (∃ v t1 t2 t3 t4 t5 y, r1 = Sum.inr (v, t1, t2, t3, t4, t5) ∧ r2 = Sum.inr (v, y) ∧ LT 1 M y)) (by
      rintro i ⟨x, x1, x2, x3, x4, x5⟩ ⟨y, M'⟩ hi ⟨q1, q2, q3, q4⟩
      simp only at q1 q2 q3 q4
      subst q1
      subst q2
      dsimp only
      unfold b_X6_judge_41 b_X7_judge_36
      by_cases h : i < n
      · have ej : (nI n - (1 : Int32)) - nI i = nI (n - 1 - i) := by rw [l_1, pk_sub (by omega), pk_sub (by omega)]
        have hp0 : 0 < 1000 ^ (n - 1 - i) := Nat.pow_pos (by omega)
        have hp1 := th_le (n - 1 - i) (by omega)
        have hq : R / 1000 ^ (n - 1 - i) ≤ R := Nat.div_le_self _ _
        have hF : R / 1000 ^ (n - 1 - i) % 1000 < 1000 := Nat.mod_lt _ (by omega)
        obtain ⟨f1, f2, f3⟩ := f3_e hF
        rw [if_neg (nI_ge h (by omega)), if_neg (nI_ge h (by omega)), ej, X_figuresAt (by omega) (by omega), b_some, th_y _ (by omega), b_some, dvL_nI (by omega) hp0 (by omega), b_some, fig_e (by omega), b_some, f2, f3, f1]
        obtain ⟨r, t1, t2, t3, t4, t5, N1, w1, w2, w3, w4⟩ := r_doing hC hX hY (show B + i < 2 ^ 29 by omega) q3 (h := R / 1000 ^ (n - 1 - i) % 1000 / 100) (x := R / 1000 ^ (n - 1 - i) % 1000 / 10 % 10) (y := R / 1000 ^ (n - 1 - i) % 1000 % 10) (by omega) (by omega) (by omega)
        rw [w1, w2, b_some, b_some]
        by_cases g : r = 0
        · right
          rw [if_pos g, if_pos g]
          exact ⟨_, _, rfl, rfl, Or.inr ⟨_, _, _, _, _, _, _, rfl, rfl, q4.trans w3⟩⟩
        · left
          rw [if_neg g, if_neg g]
          exact ⟨h, _, _, rfl, rfl, nI_1 i, nI_1 i, w4 g, q4.trans w3⟩
      · right
        rw [show i = n by omega, if_pos (nI_le (Nat.le_refl _) (by omega)), if_pos (nI_le (Nat.le_refl _) (by omega))]
        exact ⟨_, _, rfl, rfl, Or.inl ⟨_, _, rfl, rfl, q4⟩⟩) FU 0 ((0 : Int32), a, b, c, d, e) ((0 : Int32), M) (by omega) (lt_FU (by omega)) ⟨rfl, rfl, h1, LT.rfl 1 M⟩
    rw [k1, k2]
    rcases hQ with ⟨x, y, rfl, rfl, hy⟩ | ⟨v, t1, t2, t3, t4, t5, y, rfl, rfl, hy⟩
    · exact ⟨_, _, _, _, _, _, _, rfl, rfl, h2.trans hy⟩
    · exact ⟨_, _, _, _, _, _, _, rfl, rfl, h2.trans hy⟩
  · have g3 : rng v2.toInt 0 (((1000 ^ n : Nat) : Int) - 1) = false := by
      rw [Int64.lt_iff_toInt_lt, ti1] at g4
      exact decide_eq_false (by omega)
    rw [if_neg g4, if_pos g3]; exact ⟨_, _, _, _, _, _, _, rfl, rfl, LT.rfl 1 N⟩
