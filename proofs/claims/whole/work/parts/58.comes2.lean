theorem X_all {n : Nat} (hn : n < 7) (v1 v3 v4 : Int32) : itr (fun s => b_X6_comes_42 v1 (nI n) v3 v4 s.1 s.2) FU ((1 : Int32), (0 : Int32)) = some (nI (10 ^ n)) := by
  refine itr_run (fun i => (nI (10 ^ i), nI i)) n ?_ ?_ FU (lt_FU (by omega))
  · intro i hi
    show b_X6_comes_42 v1 (nI n) v3 v4 (nI (10 ^ i)) (nI i) = some (.inl (nI (10 ^ (i + 1)), nI (i + 1)))
    unfold b_X6_comes_42
    rw [if_neg (nI_ge hi (by omega)), b_some, l_10, pk_mul, nI_1, Nat.pow_succ]
  · show b_X6_comes_42 v1 (nI n) v3 v4 (nI (10 ^ n)) (nI n) = _
    unfold b_X6_comes_42
    rw [if_pos (nI_le (Nat.le_refl _) (by omega))]
theorem sN_mono {f g : Nat → Nat} : ∀ n, (∀ i, i < n → f i ≤ g i) → sN f n ≤ sN g n
  | 0, _ => Nat.le_refl _
  | n + 1, h => Nat.add_le_add (sN_mono n (fun i hi => h i (by omega))) (h n (by omega))
theorem p_comes {C : Cty} (hC : CM C) {kinds cp ld ones others worths hangs : Nat → Int32} (hX : CX C kinds cp ld ones others worths hangs) {kind skyAt skyLoud one other worth hangs' : Nat → Int32} (hY : CY C kind skyAt skyLoud one other worth hangs') {B : Nat} (hB : B < 2 ^ 29) {a b c d e : Int32} {N : Nat → Int32} (hs : RS C B a b c d e N 0) (ta tb tc td te v1 v2 v3 v4 : Int32) : ∃ r t1 t2 t3 t4 t5 N1, f_X6_comes v1 v2 v3 v4 (nI (cP C)) (nI (cK C)) (nI (cO C)) a b c d e ta tb tc td te kinds cp ld ones others worths hangs = some (r, t1, t2, t3, t4, t5) ∧ f_X7_comes v1 v2 v3 v4 (nI (cP C)) (nI (cK C)) (nI (cO C)) kind skyAt skyLoud one other worth hangs' N = some (r, N1) ∧ LT 1 N N1 := by
  have hO := hC.2.2.1
  have hP := hC.1
  unfold f_X6_comes f_X7_comes
  rw [hasOath_e hO, isOath_e hO]
  simp only [within_e, in32_e, b_some, b2_0, i64_0, i32_0, i64_1, i32_1, i64_6, i32_6, i64_10, i32_10]
  by_cases g1 : rng v1.toInt 0 ((cO C : Int) - 1) = false
  · rw [if_pos g1, if_pos g1]; exact ⟨_, _, _, _, _, _, _, rfl, rfl, LT.rfl 1 N⟩
  rw [if_neg g1, if_neg g1]
  by_cases g2 : rng v2.toInt 1 6 = false
  · rw [if_pos g2, if_pos g2]; exact ⟨_, _, _, _, _, _, _, rfl, rfl, LT.rfl 1 N⟩
  rw [if_neg g2, if_neg g2]
  by_cases g3 : rng v3.toInt 0 10 = false
  · rw [if_pos g3, if_pos g3]; exact ⟨_, _, _, _, _, _, _, rfl, rfl, LT.rfl 1 N⟩
  rw [if_neg g3, if_neg g3]
  obtain ⟨k, hk, rfl⟩ := rng_nI (by simpa only [Bool.not_eq_false] using g1)
  obtain ⟨n, hn1, hn6, rfl⟩ := rng_lo (lo := 1) (k := 6) (by simpa using g2)
  obtain ⟨x, hx, rfl⟩ := rng_k (k := 10) (by simpa using g3)
  have hn : n < 7 := by omega
  have hx11 : x < 11 := by omega
  have h64 := p64 n hn
  obtain ⟨h10, h10p⟩ := p10 n hn
  obtain ⟨pl, wl, S, W, D, hm, ⟨hpx, rfl, rfl, rfl, rfl⟩, hN⟩ := hs
  have hw := wl32 hC hm
  obtain ⟨q1, q2, q3, q4, q5⟩ := hm
  have hD : D < 2 ^ 30 := by omega
  let g : Nat → Nat := fun c => if (trp C pl wl (fun i => c.testBit i) (S, W, D) n).1.testBit k then wgN x c n else 0
  have hgle : sN g (2 ^ n) ≤ 10 ^ n := by
    rw [← wg_sum n hn x hx11]
    exact sN_mono _ (fun i _ => by show (if _ then _ else 0) ≤ _; split <;> omega)
  -- the class
  have kX : ∃ t1 t2 t3 t4 t5, itr (fun s => b_X6_comes_67 (nI k) (nI n) (nI x) v4 (nI (10 ^ n)) (nI (cP C)) (nI (cK C)) (nI (cO C)) a (nI wl) (nI S) (nI W) (nI D) kinds cp ld ones others worths hangs s.1 s.2.1 s.2.2.1 s.2.2.2.1 s.2.2.2.2.1 s.2.2.2.2.2.1 s.2.2.2.2.2.2) FU ((0 : Int32), (0 : Int32), ta, tb, tc, td, te) = some (nI (sN g (2 ^ n)), t1, t2, t3, t4, t5) := by
    obtain ⟨r1, r2, k1, k2, hQ⟩ := itr_two (b1 := fun s => b_X6_comes_67 (nI k) (nI n) (nI x) v4 (nI (10 ^ n)) (nI (cP C)) (nI (cK C)) (nI (cO C)) a (nI wl) (nI S) (nI W) (nI D) kinds cp ld ones others worths hangs s.1 s.2.1 s.2.2.1 s.2.2.2.1 s.2.2.2.2.1 s.2.2.2.2.2.1 s.2.2.2.2.2.2) (b2 := fun s : Nat => if s < 2 ^ n then some (Sum.inl (s + 1)) else some (Sum.inr ())) (fun i s1 s2 => s2 = i ∧ s1.1 = nI (sN g i) ∧ s1.2.1 = nI i) (2 ^ n) (fun r1 _ => r1.1 = nI (sN g (2 ^ n))) (by
      rintro i ⟨p1, p2, p3, p4, p5, p6, p7⟩ y hi ⟨rfl, z1, z2⟩
      simp only at z1 z2
      subst z1 z2
      dsimp only
      unfold b_X6_comes_67
      rw [pow_e n hn]
      by_cases h : y < 2 ^ n
      · left
        obtain ⟨s1, s2, s3, s4, s5, e1⟩ := X_weight hC hX hpx hw q2 q3 q4 hD hk hn hx11 (show y < 64 by omega) p3 p4 p5 p6 p7
        rw [if_neg (nI_ge h (by omega)), if_pos h, e1, b_some, b_some]
        exact ⟨h, _, _, rfl, rfl, rfl, nI_add _ _, nI_1 _⟩
      · right
        rw [show y = 2 ^ n by omega, if_pos (nI_le (Nat.le_refl _) (by omega)), if_neg (by omega)]
        exact ⟨_, _, rfl, rfl, rfl⟩) FU 0 ((0 : Int32), (0 : Int32), ta, tb, tc, td, te) 0 (Nat.zero_le _) (lt_FU (by omega)) ⟨rfl, rfl, rfl⟩
    obtain ⟨z, t1, t2, t3, t4, t5⟩ := r1
    simp only at hQ
    subst hQ
    exact ⟨_, _, _, _, _, k1⟩
  -- the reference
  let gT : Nat → Nat := fun T => g (2 ^ n - 1 - T)
  let wT : Nat → Nat := fun T => wgN x (2 ^ n - 1 - T) n
  have kY : ∃ N1, LT 1 N N1 ∧ itr (fun s => b_X7_comes_46 (nI k) (nI n) (nI x) v4 (nI (cP C)) (nI (cK C)) (nI (cO C)) kind skyAt skyLoud one other worth hangs' s.1 s.2.1 s.2.2.1 s.2.2.2) FU ((0 : Int32), (0 : Int32), (0 : Int32), N) = some (nI (sN gT (2 ^ n)), nI (sN wT (2 ^ n)), N1) := by
    obtain ⟨r1, r2, k1, k2, hQ⟩ := itr_two (b1 := fun s => b_X7_comes_46 (nI k) (nI n) (nI x) v4 (nI (cP C)) (nI (cK C)) (nI (cO C)) kind skyAt skyLoud one other worth hangs' s.1 s.2.1 s.2.2.1 s.2.2.2) (b2 := fun s : Nat => if s < 2 ^ n then some (Sum.inl (s + 1)) else some (Sum.inr ())) (fun i s1 s2 => s2 = i ∧ s1.1 = nI (sN gT i) ∧ s1.2.1 = nI (sN wT i) ∧ s1.2.2.1 = nI i ∧ LT 1 N s1.2.2.2) (2 ^ n) (fun r1 _ => r1.1 = nI (sN gT (2 ^ n)) ∧ r1.2.1 = nI (sN wT (2 ^ n)) ∧ LT 1 N r1.2.2) (by
      rintro i ⟨p1, p2, p3, M⟩ y hi ⟨rfl, z1, z2, z3, z4⟩
      simp only at z1 z2 z3 z4
      subst z1 z2 z3
      dsimp only
      unfold b_X7_comes_46
      rw [pow_e n hn]
      by_cases h : y < 2 ^ n
      · left
        have hM0 : NY (cP C) M 0 pl wl S W D := hN.agree hP (fun j hj => z4 (0 + j) (by omega))
        have hM9 : NY (cP C) (va_cpy M M 0 9 9) 9 pl wl S W D := hM0.agree hP (fun j hj => by rw [pk_cpy_in (by omega) (by omega)]; congr 1; omega)
        obtain ⟨o1', -, -, -⟩ := trp_ok hC (pl := pl) (wl := wl) (cm := fun i => (2 ^ n - 1 - y).testBit i) (D := D) q2 q3 q4 n
        have v6 := (dayR_NY (L := 1) (S' := (trp C pl wl (fun i => (2 ^ n - 1 - y).testBit i) (S, W, D) n).1) (W' := (trp C pl wl (fun i => (2 ^ n - 1 - y).testBit i) (S, W, D) n).2.1) (D' := (trp C pl wl (fun i => (2 ^ n - 1 - y).testBit i) (S, W, D) n).2.2) hP hM9).2.2.1
        have hlt : LT 1 N (dayR (va_cpy M M 0 9 9) 1 (trp C pl wl (fun i => (2 ^ n - 1 - y).testBit i) (S, W, D) n).1 (trp C pl wl (fun i => (2 ^ n - 1 - y).testBit i) (S, W, D) n).2.1 (trp C pl wl (fun i => (2 ^ n - 1 - y).testBit i) (S, W, D) n).2.2) := fun j hj => by
          unfold dayR
          rw [upd_ne _ _ (by omega), upd_ne _ _ (by omega), upd_ne _ _ (by omega), pk_cpy_out (by omega)]
          exact z4 j hj
        rw [if_neg (nI_ge h (by omega)), if_pos h, Y_layTrial, b_some, Y_weight hC hY hM9 hw q2 q3 q4 hD hn hx11 h, b_some, b_some, l_15, ald_nI (by omega), b_some]
        dsimp only
        rw [show dayR (va_cpy M M 0 9 9) 1 (trp C pl wl (fun i => (2 ^ n - 1 - y).testBit i) (S, W, D) n).1 (trp C pl wl (fun i => (2 ^ n - 1 - y).testBit i) (S, W, D) n).2.1 (trp C pl wl (fun i => (2 ^ n - 1 - y).testBit i) (S, W, D) n).2.2 15 = _ from v6, has_ok _ (lt32 hO o1') k (by omega), b_some]
        simp only [b2_0]
        by_cases hb : (trp C pl wl (fun i => (2 ^ n - 1 - y).testBit i) (S, W, D) n).1.testBit k = true
        · have eg : gT y = wgN x (2 ^ n - 1 - y) n := by show (if _ then _ else 0) = _; rw [if_pos hb]
          rw [if_neg (by rw [hb]; decide), b_some]
          refine ⟨h, _, _, rfl, rfl, rfl, ?_, nI_add _ _, nI_1 _, hlt⟩
          show nI (sN gT y) + nI (wgN x (2 ^ n - 1 - y) n) = nI (sN gT y + gT y)
          rw [eg, nI_add]
        · have eg : gT y = 0 := by show (if _ then _ else 0) = _; rw [if_neg hb]
          rw [if_pos (by simpa using hb), b_some]
          refine ⟨h, _, _, rfl, rfl, rfl, ?_, nI_add _ _, nI_1 _, hlt⟩
          show nI (sN gT y) + (0 : Int32) = nI (sN gT y + gT y)
          rw [eg, add0_e]; rfl
      · right
        rw [show y = 2 ^ n by omega, if_pos (nI_le (Nat.le_refl _) (by omega)), if_neg (by omega)]
        exact ⟨_, _, rfl, rfl, rfl, rfl, z4⟩) FU 0 ((0 : Int32), (0 : Int32), (0 : Int32), N) 0 (Nat.zero_le _) (lt_FU (by omega)) ⟨rfl, rfl, rfl, rfl, LT.rfl 1 N⟩
    obtain ⟨z1, z2, N1⟩ := r1
    obtain ⟨w1, w2, w3⟩ := hQ
    simp only at w1 w2 w3
    subst w1 w2
    exact ⟨N1, w3, k1⟩
  obtain ⟨t1, t2, t3, t4, t5, kX⟩ := kX
  obtain ⟨N1, hL, kY⟩ := kY
  have e1 : sN gT (2 ^ n) = sN g (2 ^ n) := sN_rev (2 ^ n) g
  have e2 : sN wT (2 ^ n) = 10 ^ n := (sN_rev (2 ^ n) (fun c => wgN x c n)).trans (wg_sum n hn x hx11)
  have hg0 : 0 < Nat.gcd (sN g (2 ^ n)) (10 ^ n) := Nat.gcd_pos_of_pos_right _ h10p
  have hgl : Nat.gcd (sN g (2 ^ n)) (10 ^ n) ≤ 10 ^ n := Nat.gcd_le_right _ h10p
  rw [X_all hn, b_some, kX, b_some, kY, b_some]
  dsimp only
  rw [e1, e2, X_fraction (by omega) h10p (by omega), b_some, Y_common (by omega) (by omega), b_some, dv_nI (by omega) hg0 (by omega), dv_nI (by omega) hg0 (by omega), b_some, b_some]
  by_cases c0 : v4 = 0
  · rw [if_pos c0, if_pos c0]; exact ⟨_, _, _, _, _, _, _, rfl, rfl, hL⟩
  · rw [if_neg c0, if_neg c0]; exact ⟨_, _, _, _, _, _, _, rfl, rfl, hL⟩
