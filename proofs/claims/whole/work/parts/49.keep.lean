theorem p_undo {C : Cty} (hC : CM C) {B : Nat} {a b c d e : Int32} {N : Nat → Int32} (hs : RS C B a b c d e N 0) {len acts next : Int32} {row mrow : Nat → Int32} (ha : RA C B len row acts next mrow) : ∃ r a1 b1 c1 d1 e1 l1 k1 x1 N1, f_X6_undo a b c d e len row = some (r, a1, b1, c1, d1, e1, l1) ∧ f_X7_undo acts next N mrow = some (r, k1, x1, N1) ∧ RS C B a1 b1 c1 d1 e1 N1 0 ∧ RA C B l1 row k1 x1 mrow := by
  have ha0 := ha
  obtain ⟨n, x, h1, h2, rfl, rfl, rfl, h6⟩ := ha
  unfold f_X6_undo f_X7_undo f_X0_pop
  by_cases h : n = 0
  · subst h
    rw [if_pos nI_0, if_pos nI_0]
    exact ⟨_, _, _, _, _, _, _, _, _, _, rfl, rfl, hs, ha0⟩
  · obtain ⟨m, rfl⟩ : ∃ m, n = m + 1 := ⟨n - 1, by omega⟩
    have h7 := h6 m (by omega)
    rw [if_neg (nI_ne0 (by omega) (by omega)), if_neg (nI_ne0 (by omega) (by omega)), if_neg (nI_nle (by omega) (by omega)), nI_pred, b_some, b_some, l_13, nI_add, mod14 (by omega), b_some, Y_undoRow (Nat.mod_lt _ (by omega)), b_some, X_loadFrom (by omega) (by decide), b_some]
    refine ⟨_, _, _, _, _, _, _, _, _, _, rfl, rfl, h7.agree hC (fun k hk => ?_), m, (x + 13) % 14, by omega, Nat.mod_lt _ (by omega), rfl, rfl, rfl, fun j hj => ?_⟩
    · rw [pk_cpy_in (by omega) (by omega)]; congr 1; omega
    · have h8 := h6 j (by omega)
      rw [show ((x + 13) % 14 + 14 - m + j) % 14 = (x + 14 - (m + 1) + j) % 14 by omega]
      exact h8
def RK (C : Cty) (B : Nat) (ks : Int32) (kp ik mk : Nat → Int32) : Prop := ∃ s, s < 4 ∧ ks = nI s ∧ ∀ j, j < 2 → ik j = nI (b2 (s.testBit j)) ∧ (s.testBit j = true → RS C B (kp (5 * j)) (kp (5 * j + 1)) (kp (5 * j + 2)) (kp (5 * j + 3)) (kp (5 * j + 4)) mk (9 * j))
theorem RK.mono {C : Cty} {B B' : Nat} (hB : B ≤ B') {ks : Int32} {kp ik mk : Nat → Int32} (h : RK C B ks kp ik mk) : RK C B' ks kp ik mk := by
  obtain ⟨s, h1, h2, h3⟩ := h
  exact ⟨s, h1, h2, fun j hj => ⟨(h3 j hj).1, fun ht => ((h3 j hj).2 ht).mono hB⟩⟩
theorem astZ_1 {f : Nat → Int32} {n j : Nat} (h : j < n) (hn : n < 2 ^ 31 := by decide) : astZ f n (nI j) (1 : Int32) = some (upd f j (1 : Int32)) := by
  unfold astZ
  rw [if_neg (nI_in h hn), nI_clamp (by omega)]; rfl
theorem astZ_0 {f : Nat → Int32} {n j : Nat} (h : j < n) (hn : n < 2 ^ 31 := by decide) : astZ f n (nI j) (0 : Int32) = some (upd f j (0 : Int32)) := by
  unfold astZ
  rw [if_neg (nI_in h hn), nI_clamp (by omega)]; rfl
theorem Y_keepS {x : Nat} (hx : x < 2) (N row : Nat → Int32) : itr (fun s => b_X7_keep_21 (nI x) N s.1 s.2) FU ((0 : Int32), row) = some (va_cpy N row 0 (9 * x) 9) := by
  have key := itr_run (b := fun s => b_X7_keep_21 (nI x) N s.1 s.2) (fun i => (nI i, va_cpy N row 0 (9 * x) i)) 9 (r := va_cpy N row 0 (9 * x) 9) ?_ ?_ FU (lt_FU (by omega))
  · rw [cpy_0] at key; exact key
  · intro i hi
    show b_X7_keep_21 (nI x) N (nI i) (va_cpy N row 0 (9 * x) i) = some (.inl (nI (i + 1), va_cpy N row 0 (9 * x) (i + 1)))
    unfold b_X7_keep_21
    rw [if_neg (le9 hi), ald_nI (by omega), b_some, ix0, nI_add, ast_nI (by omega), b_some, nI_1, ← cpy_step, Nat.zero_add]
  · show b_X7_keep_21 (nI x) N (nI 9) (va_cpy N row 0 (9 * x) 9) = _
    unfold b_X7_keep_21
    rw [if_pos le9']
theorem Y_againS {x : Nat} (hx : x < 2) (N row : Nat → Int32) : itr (fun s => b_X7_again_26 (nI x) row s.1 s.2) FU ((0 : Int32), N) = some (va_cpy row N (9 * x) 0 9) := by
  have key := itr_run (b := fun s => b_X7_again_26 (nI x) row s.1 s.2) (fun i => (nI i, va_cpy row N (9 * x) 0 i)) 9 (r := va_cpy row N (9 * x) 0 9) ?_ ?_ FU (lt_FU (by omega))
  · rw [cpy_0] at key; exact key
  · intro i hi
    show b_X7_again_26 (nI x) row (nI i) (va_cpy row N (9 * x) 0 i) = some (.inl (nI (i + 1), va_cpy row N (9 * x) 0 (i + 1)))
    unfold b_X7_again_26
    rw [if_neg (le9 hi), ix0, nI_add, ald_nI (by omega), b_some, ast_nI (by omega), b_some, nI_1, ← cpy_step, Nat.zero_add]
  · show b_X7_again_26 (nI x) row (nI 9) (va_cpy row N (9 * x) 0 9) = _
    unfold b_X7_again_26
    rw [if_pos le9']
theorem sett4 : ∀ s, s < 4 → ∀ k, k < 2 → sett s k < 4 := by decide +kernel
theorem p_keep {C : Cty} (hC : CM C) {B : Nat} {a b c d e : Int32} {N : Nat → Int32} (hs : RS C B a b c d e N 0) {ks : Int32} {kp ik mk : Nat → Int32} (hk : RK C B ks kp ik mk) (v1 : Int32) : ∃ r s1 k1 i1 m1, f_X6_keep v1 ks a b c d e kp = some (r, s1, k1) ∧ f_X7_keep v1 N ik mk = some (r, i1, m1) ∧ RK C B s1 k1 i1 m1 := by
  unfold f_X6_keep f_X7_keep
  rw [within_e, in32_e, b_some, b_some]
  simp only [b2_0, show (0 : Int64).toInt = 0 from rfl, show (0 : Int32).toInt = 0 from rfl, show (1 : Int64).toInt = 1 from rfl, show (1 : Int32).toInt = 1 from rfl]
  by_cases g1 : rng v1.toInt 0 1 = false
  · rw [if_pos g1, if_pos g1]; exact ⟨_, _, _, _, _, rfl, rfl, hk⟩
  rw [if_neg g1, if_neg g1]
  obtain ⟨j, hj, rfl⟩ := rng_k (k := 1) (by simpa using g1)
  obtain ⟨s, h4, rfl, h3⟩ := hk
  have hday : N 8 = e := by
    obtain ⟨pl, wl, S, W, D, -, ⟨-, -, -, -, e5⟩, hN⟩ := hs
    rw [e5]; have := hN.2.2.2.2; rwa [Nat.zero_add] at this
  rw [X_saveTo (by omega) (by decide), b_some, set_e s (by omega) j (by omega), b_some, astZ_1 (by omega), b_some, Y_keepS (by omega), b_some, l_8, ald_nI (by omega), b_some, hday]
  refine ⟨_, _, _, _, _, rfl, rfl, sett s j, sett4 s h4 j (by omega), rfl, fun i hi => ?_⟩
  rw [sett_tb s (by omega) j (by omega) i (by omega)]
  by_cases hij : i = j
  · subst hij
    rw [upd_at]
    refine ⟨by simp [b2]; rfl, fun _ => ?_⟩
    obtain ⟨e1, e2, e3, e4, e5⟩ := rowS_at kp i a b c d e
    rw [e1, e2, e3, e4, e5]
    exact hs.agree hC (fun k hk => by rw [pk_cpy_in (by omega) (by omega)]; congr 1; omega)
  · rw [upd_ne _ _ hij, decide_eq_false hij, Bool.or_false]
    refine ⟨(h3 i hi).1, fun ht => ?_⟩
    rw [rowS_ne _ _ _ _ _ _ (by omega), rowS_ne _ _ _ _ _ _ (by omega), rowS_ne _ _ _ _ _ _ (by omega), rowS_ne _ _ _ _ _ _ (by omega), rowS_ne _ _ _ _ _ _ (by omega)]
    exact ((h3 i hi).2 ht).agree hC (fun k hk => pk_cpy_out (by omega))
theorem RA_0 (C : Cty) (B : Nat) {row mrow : Nat → Int32} {len acts next : Int32} (ha : RA C B len row acts next mrow) : RA C B (0 : Int32) row (0 : Int32) next mrow := by
  obtain ⟨n, x, h1, h2, rfl, rfl, rfl, h6⟩ := ha
  exact ⟨0, x, by omega, h2, rfl, rfl, rfl, fun j hj => absurd hj (by omega)⟩
theorem p_again {C : Cty} (hC : CM C) {B : Nat} {a b c d e : Int32} {N : Nat → Int32} (hs : RS C B a b c d e N 0) {ks : Int32} {kp ik mk : Nat → Int32} (hk : RK C B ks kp ik mk) {len acts next : Int32} {row mrow : Nat → Int32} (ha : RA C B len row acts next mrow) (v1 : Int32) : ∃ r a1 b1 c1 d1 e1 l1 k1 N1, f_X6_again v1 ks a b c d e len kp = some (r, a1, b1, c1, d1, e1, l1) ∧ f_X7_again v1 acts N ik mk = some (r, k1, N1) ∧ RS C B a1 b1 c1 d1 e1 N1 0 ∧ RA C B l1 row k1 next mrow := by
  unfold f_X6_again f_X7_again
  rw [within_e, in32_e, b_some, b_some]
  simp only [b2_0, show (0 : Int64).toInt = 0 from rfl, show (0 : Int32).toInt = 0 from rfl, show (1 : Int64).toInt = 1 from rfl, show (1 : Int32).toInt = 1 from rfl]
  by_cases g1 : rng v1.toInt 0 1 = false
  · rw [if_pos g1, if_pos g1]; exact ⟨_, _, _, _, _, _, _, _, _, rfl, rfl, hs, ha⟩
  rw [if_neg g1, if_neg g1]
  obtain ⟨j, hj, rfl⟩ := rng_k (k := 1) (by simpa using g1)
  obtain ⟨s, h4, rfl, h3⟩ := hk
  rw [bit_ok (by omega) (by omega), b_some, ald_nI (by omega), b_some, (h3 j (by omega)).1]
  simp only [b2_0]
  by_cases g2 : s.testBit j = false
  · rw [if_pos g2, if_pos g2]; exact ⟨_, _, _, _, _, _, _, _, _, rfl, rfl, hs, ha⟩
  have h7 := (h3 j (by omega)).2 (by simpa using g2)
  have h8 : RS C B (kp (5 * j)) (kp (5 * j + 1)) (kp (5 * j + 2)) (kp (5 * j + 3)) (kp (5 * j + 4)) (va_cpy mk N (9 * j) 0 9) 0 := h7.agree hC (fun k hk => by rw [pk_cpy_in (by omega) (by omega)]; congr 1; omega)
  have hday : va_cpy mk N (9 * j) 0 9 8 = kp (5 * j + 4) := by
    obtain ⟨pl, wl, S, W, D, -, ⟨-, -, -, -, e5⟩, hN⟩ := h8
    rw [e5]; have := hN.2.2.2.2; rwa [Nat.zero_add] at this
  rw [if_neg g2, if_neg g2, X_loadFrom (by omega) (by decide), b_some, Y_againS (by omega), b_some, l_8, ald_nI (by omega), b_some, hday]
  exact ⟨_, _, _, _, _, _, _, _, _, rfl, rfl, h8, RA_0 C B ha⟩
/-! what is asked -/
def oofN (C : Cty) (p : Nat) : Nat → Nat
  | 0 => 0
  | n + 1 => if o1 C n = p ∨ o2 C n = p then oofN C p n + 2 ^ n else oofN C p n
theorem oofN_lt (C : Cty) (p : Nat) : ∀ n, oofN C p n < 2 ^ n
  | 0 => by simp [oofN]
  | n + 1 => by
    have h := oofN_lt C p n
    unfold oofN
    split <;> rw [Nat.pow_succ] <;> omega
theorem X_oathsOf {C : Cty} (hC : CM C) {kinds cp ld ones others worths hangs : Nat → Int32} (hX : CX C kinds cp ld ones others worths hangs) {p : Nat} (hp : p < cP C) : f_X1_oathsOf (nI p) (nI (cO C)) ones others = some (nI (oofN C p (cO C))) := by
  have hO := hC.2.2.1
  have hP := hC.1
  unfold f_X1_oathsOf
  have h : itr (fun s => b_X1_oathsOf_4 (nI p) (nI (cO C)) ones others s.1 s.2) FU ((0 : Int32), (0 : Int32)) = some (nI (oofN C p (cO C))) := by
    refine itr_run (fun i => (nI (oofN C p i), nI i)) (cO C) ?_ ?_ FU (lt_FU (by omega))
    · intro i hi
      have hlt := oofN_lt C p i
      obtain ⟨e1, e2, -, -⟩ := hX.2.1 i hi
      obtain ⟨d1, d2, -, -, -⟩ := hC.2.2.2.2.1 i hi
      show b_X1_oathsOf_4 (nI p) (nI (cO C)) ones others (nI (oofN C p i)) (nI i) = some (.inl (nI (oofN C p (i + 1)), nI (i + 1)))
      unfold b_X1_oathsOf_4
      rw [if_neg (nI_ge hi (by omega)), at_nI (by omega) (by decide), b_some, at_nI (by omega) (by decide), b_some, e1, e2]
      simp only [nI_eq (show o1 C i < 2 ^ 31 by omega) (show p < 2 ^ 31 by omega), nI_eq (show o2 C i < 2 ^ 31 by omega) (show p < 2 ^ 31 by omega), b_some, hearN_or i (by omega) _ hlt, nI_succ i, oofN]
      by_cases h1 : o1 C i = p <;> by_cases h2 : o2 C i = p <;> simp [h1, h2]
    · show b_X1_oathsOf_4 (nI p) (nI (cO C)) ones others (nI (oofN C p (cO C))) (nI (cO C)) = _
      unfold b_X1_oathsOf_4
      rw [if_pos (nI_le (Nat.le_refl _) (by omega))]
  rw [h]; rfl
theorem Y_oathsOf {C : Cty} (hC : CM C) {kind skyAt skyLoud one other worth hangs : Nat → Int32} (hY : CY C kind skyAt skyLoud one other worth hangs) {p : Nat} (hp : p < cP C) : f_X7_oathsOf (nI p) (nI (cO C)) one other = some (nI (oofN C p (cO C))) := by
  have hO := hC.2.2.1
  have hP := hC.1
  unfold f_X7_oathsOf
  have h : itr (fun s => b_X7_oathsOf_4 (nI p) (nI (cO C)) one other s.1 s.2) FU ((0 : Int32), (0 : Int32)) = some (nI (oofN C p (cO C))) := by
    refine itr_run (fun i => (nI (oofN C p i), nI i)) (cO C) ?_ ?_ FU (lt_FU (by omega))
    · intro i hi
      have hlt := oofN_lt C p i
      obtain ⟨e1, e2, -, -⟩ := hY.2.1 i hi
      obtain ⟨d1, d2, -, -, -⟩ := hC.2.2.2.2.1 i hi
      show b_X7_oathsOf_4 (nI p) (nI (cO C)) one other (nI (oofN C p i)) (nI i) = some (.inl (nI (oofN C p (i + 1)), nI (i + 1)))
      unfold b_X7_oathsOf_4
      rw [if_neg (nI_ge hi (by omega)), ald_nI (by omega), b_some, ald_nI (by omega), b_some, e1, e2]
      simp only [nI_eq (show o1 C i < 2 ^ 31 by omega) (show p < 2 ^ 31 by omega), nI_eq (show o2 C i < 2 ^ 31 by omega) (show p < 2 ^ 31 by omega), b_some, hearN_or i (by omega) _ hlt, nI_succ i, oofN, or0_e _ (lt32 (show i ≤ 5 by omega) hlt)]
      by_cases h1 : o1 C i = p <;> by_cases h2 : o2 C i = p <;> simp [h1, h2]
    · show b_X7_oathsOf_4 (nI p) (nI (cO C)) one other (nI (oofN C p (cO C))) (nI (cO C)) = _
      unfold b_X7_oathsOf_4
      rw [if_pos (nI_le (Nat.le_refl _) (by omega))]
  rw [h]; rfl
