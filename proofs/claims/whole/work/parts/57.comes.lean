/-! ===== claps that do not come by chance ===== -/
def trp (C : Cty) (pl : Nat → Nat) (wl : Nat) (cm : Nat → Bool) (q : Nat × Nat × Nat) : Nat → Nat × Nat × Nat
  | 0 => q
  | i + 1 => (dayS C pl wl (trp C pl wl cm q i).1 (trp C pl wl cm q i).2.2 (cm i), dayW C pl wl (trp C pl wl cm q i).1 (trp C pl wl cm q i).2.1 (trp C pl wl cm q i).2.2 (cm i), (trp C pl wl cm q i).2.2 + 1)
theorem trp_ok {C : Cty} (hC : CM C) {pl : Nat → Nat} {wl : Nat} {cm : Nat → Bool} {S W D : Nat} (hS : S < 2 ^ cO C) (hc : clo C S) (hW : W ≤ 9999) : ∀ i, (trp C pl wl cm (S, W, D) i).1 < 2 ^ cO C ∧ clo C (trp C pl wl cm (S, W, D) i).1 ∧ (trp C pl wl cm (S, W, D) i).2.1 ≤ 9999 ∧ (trp C pl wl cm (S, W, D) i).2.2 = D + i
  | 0 => ⟨hS, hc, hW, rfl⟩
  | i + 1 => by
    obtain ⟨h1, h2, h3, h4⟩ := trp_ok hC (pl := pl) (wl := wl) (cm := cm) (D := D) hS hc hW i
    exact ⟨dayS_lt hC h1, clo_day hC h1 h2, capN_lt _, by show (trp C pl wl cm (S, W, D) i).2.2 + 1 = _; rw [h4]; omega⟩
theorem trp_congr {C : Cty} {pl : Nat → Nat} {wl : Nat} {cm cm' : Nat → Bool} {q : Nat × Nat × Nat} : ∀ n, (∀ i, i < n → cm i = cm' i) → trp C pl wl cm q n = trp C pl wl cm' q n
  | 0, _ => rfl
  | n + 1, h => by
    have ih := trp_congr (C := C) (pl := pl) (wl := wl) (q := q) n (fun i hi => h i (by omega))
    show (dayS C pl wl (trp C pl wl cm q n).1 (trp C pl wl cm q n).2.2 (cm n), dayW C pl wl (trp C pl wl cm q n).1 (trp C pl wl cm q n).2.1 (trp C pl wl cm q n).2.2 (cm n), (trp C pl wl cm q n).2.2 + 1) = _
    rw [ih, h n (by omega)]; rfl
/-- weight of the first i of some claps (those that come) -/
def wgN (x c : Nat) : Nat → Nat
  | 0 => 1
  | i + 1 => wgN x c i * (if c.testBit i then 10 - x else x)
theorem bit6 : ∀ c, c < 64 → ∀ i, i < 6 → f_X6_bit (nI c) (nI i) = some (nI (b2 (c.testBit i))) := by decide +kernel
theorem has6 : ∀ c, c < 64 → ∀ i, i < 6 → f_X7_has (nI c) (nI i) = some (nI (b2 (c.testBit i))) := by decide +kernel
theorem ten_m : ∀ x, x < 11 → (10 : Int32) - nI x = nI (10 - x) := by decide +kernel
theorem cpl_tb : ∀ n, n < 7 → ∀ T, T < 2 ^ n → ∀ i, i < n → (2 ^ n - 1 - T).testBit i = !T.testBit i := by decide +kernel
theorem wg_sum : ∀ n, n < 7 → ∀ x, x < 11 → sN (fun c => wgN x c n) (2 ^ n) = 10 ^ n := by decide +kernel
theorem p64 : ∀ n, n < 7 → 2 ^ n ≤ 64 := by decide
theorem p10 : ∀ n, n < 7 → 10 ^ n ≤ 1000000 ∧ 0 < 10 ^ n := by decide
theorem sN_shift (f : Nat → Nat) : ∀ n, sN f (n + 1) = f 0 + sN (fun i => f (i + 1)) n
  | 0 => by show 0 + f 0 = f 0 + 0; omega
  | n + 1 => by
    show sN f (n + 1) + f (n + 1) = f 0 + (sN (fun i => f (i + 1)) n + f (n + 1))
    rw [sN_shift f n]; omega
theorem sN_rev : ∀ (n : Nat) (f : Nat → Nat), sN (fun i => f (n - 1 - i)) n = sN f n
  | 0, _ => rfl
  | n + 1, f => by
    rw [sN_shift f n]
    show sN (fun i => f (n + 1 - 1 - i)) n + f (n + 1 - 1 - n) = _
    have h : sN (fun i => f (n + 1 - 1 - i)) n = sN (fun i => f (i + 1)) n := by
      rw [← sN_rev n (fun i => f (i + 1))]
      refine sN_congr _ (fun i hi => ?_)
      show f (n + 1 - 1 - i) = f (n - 1 - i + 1)
      congr 1; omega
    rw [h, show n + 1 - 1 - n = 0 by omega]; omega
theorem X_weight {C : Cty} (hC : CM C) {kinds cp ld ones others worths hangs : Nat → Int32} (hX : CX C kinds cp ld ones others worths hangs) {pk : Int32} {pl : Nat → Nat} {wl S W D : Nat} (hp : PX (cP C) pl pk) (hw : wl < 32) (hS : S < 2 ^ cO C) (hc : clo C S) (hW : W ≤ 9999) (hD : D < 2 ^ 30) {k n x c : Nat} (hk : k < cO C) (hn : n < 7) (hx : x < 11) (hc64 : c < 64) (t1 t2 t3 t4 t5 : Int32) : ∃ s1 s2 s3 s4 s5, f_X6_weightIfSworn (nI k) (nI n) (nI x) (nI c) (nI (cP C)) (nI (cK C)) (nI (cO C)) pk (nI wl) (nI S) (nI W) (nI D) t1 t2 t3 t4 t5 kinds cp ld ones others worths hangs = some (nI (if (trp C pl wl (fun i => c.testBit i) (S, W, D) n).1.testBit k then wgN x c n else 0), s1, s2, s3, s4, s5) := by
  unfold f_X6_weightIfSworn f_X4_copyFrom
  rw [b_some]
  dsimp only
  have key : itr (fun s => b_X6_weightIfSworn_17 (nI k) (nI n) (nI x) (nI c) (nI (cP C)) (nI (cK C)) (nI (cO C)) pk (nI wl) kinds cp ld ones others worths hangs s.1 s.2.1 s.2.2.1 s.2.2.2.1 s.2.2.2.2) FU ((1 : Int32), (0 : Int32), nI S, nI W, nI D) = some (nI (wgN x c n), nI (trp C pl wl (fun i => c.testBit i) (S, W, D) n).1, nI (trp C pl wl (fun i => c.testBit i) (S, W, D) n).2.1, nI (trp C pl wl (fun i => c.testBit i) (S, W, D) n).2.2) := by
    refine itr_run (fun i => (nI (wgN x c i), nI i, nI (trp C pl wl (fun i => c.testBit i) (S, W, D) i).1, nI (trp C pl wl (fun i => c.testBit i) (S, W, D) i).2.1, nI (trp C pl wl (fun i => c.testBit i) (S, W, D) i).2.2)) n ?_ ?_ FU (lt_FU (by omega))
    · intro i hi
      obtain ⟨h1, h2, h3, h4⟩ := trp_ok hC (pl := pl) (wl := wl) (cm := fun i => c.testBit i) (D := D) hS hc hW i
      show b_X6_weightIfSworn_17 (nI k) (nI n) (nI x) (nI c) (nI (cP C)) (nI (cK C)) (nI (cO C)) pk (nI wl) kinds cp ld ones others worths hangs (nI (wgN x c i)) (nI i) (nI (trp C pl wl (fun i => c.testBit i) (S, W, D) i).1) (nI (trp C pl wl (fun i => c.testBit i) (S, W, D) i).2.1) (nI (trp C pl wl (fun i => c.testBit i) (S, W, D) i).2.2) = some (.inl (nI (wgN x c i * (if c.testBit i then 10 - x else x)), nI (i + 1), nI (dayS C pl wl (trp C pl wl (fun i => c.testBit i) (S, W, D) i).1 (trp C pl wl (fun i => c.testBit i) (S, W, D) i).2.2 (c.testBit i)), nI (dayW C pl wl (trp C pl wl (fun i => c.testBit i) (S, W, D) i).1 (trp C pl wl (fun i => c.testBit i) (S, W, D) i).2.1 (trp C pl wl (fun i => c.testBit i) (S, W, D) i).2.2 (c.testBit i)), nI ((trp C pl wl (fun i => c.testBit i) (S, W, D) i).2.2 + 1)))
      unfold b_X6_weightIfSworn_17
      have eT := X_passDay hC hX hp hw h1 h3 (show (trp C pl wl (fun i => c.testBit i) (S, W, D) i).2.2 < 2 ^ 31 by omega) true
      have eF := X_passDay hC hX hp hw h1 h3 (show (trp C pl wl (fun i => c.testBit i) (S, W, D) i).2.2 < 2 ^ 31 by omega) false
      rw [← b2_t] at eT
      rw [← b2_f] at eF
      rw [if_neg (nI_ge hi (by omega)), bit6 c hc64 i (by omega), b_some, ten_m x hx, pk_mul, pk_mul, eT, eF]
      simp only [b_some, b2_1, nI_succ i]
      by_cases hb : c.testBit i = true
      · rw [if_pos hb, hb]; rfl
      · rw [if_neg hb, show c.testBit i = false by simpa using hb]; rfl
    · show b_X6_weightIfSworn_17 (nI k) (nI n) (nI x) (nI c) (nI (cP C)) (nI (cK C)) (nI (cO C)) pk (nI wl) kinds cp ld ones others worths hangs (nI (wgN x c n)) (nI n) (nI (trp C pl wl (fun i => c.testBit i) (S, W, D) n).1) (nI (trp C pl wl (fun i => c.testBit i) (S, W, D) n).2.1) (nI (trp C pl wl (fun i => c.testBit i) (S, W, D) n).2.2) = _
      unfold b_X6_weightIfSworn_17
      rw [if_pos (nI_le (Nat.le_refl _) (by omega))]
  obtain ⟨h1, -, -, -⟩ := trp_ok hC (pl := pl) (wl := wl) (cm := fun i => c.testBit i) (D := D) hS hc hW n
  rw [key, b_some]
  dsimp only
  rw [X_isSworn hC h1 hk, b_some]
  simp only [b2_0]
  by_cases hb : (trp C pl wl (fun i => c.testBit i) (S, W, D) n).1.testBit k = true
  · rw [if_neg (by rw [hb]; decide), if_pos hb]; exact ⟨_, _, _, _, _, rfl⟩
  · rw [if_pos (by simpa using hb), if_neg hb]; exact ⟨_, _, _, _, _, rfl⟩
theorem dayR_self {P : Nat} {M : Nat → Int32} {pl : Nat → Nat} {wl S W D : Nat} (h : NY P M 9 pl wl S W D) : dayR M 1 S W D = M := by
  unfold dayR
  rw [upd_self M (9 * 1 + 6) h.2.2.1, upd_self M (9 * 1 + 7) h.2.2.2.1, upd_self M (9 * 1 + 8) h.2.2.2.2]
theorem dayR_dayR (M : Nat → Int32) (a b c a' b' c' : Nat) : dayR (dayR M 1 a b c) 1 a' b' c' = dayR M 1 a' b' c' := by
  funext j
  unfold dayR upd
  by_cases h8 : j = 9 * 1 + 8
  · simp [h8]
  · by_cases h7 : j = 9 * 1 + 7
    · simp [h7]
    · by_cases h6 : j = 9 * 1 + 6
      · simp [h6]
      · simp [h8, h7, h6]
theorem Y_weight {C : Cty} (hC : CM C) {kind skyAt skyLoud one other worth hangs : Nat → Int32} (hY : CY C kind skyAt skyLoud one other worth hangs) {M : Nat → Int32} {pl : Nat → Nat} {wl S W D : Nat} (hM : NY (cP C) M 9 pl wl S W D) (hw : wl < 32) (hS : S < 2 ^ cO C) (hc : clo C S) (hW : W ≤ 9999) (hD : D < 2 ^ 30) {n x T : Nat} (hn : n < 7) (hx : x < 11) (hT : T < 2 ^ n) (v1 v4 v5 v6 : Int32) : itr (fun s => b_X7_comes_64 v1 (nI n) (nI x) v4 v5 v6 (nI T) (nI (cP C)) (nI (cK C)) (nI (cO C)) kind skyAt skyLoud one other worth hangs s.1 s.2.1 s.2.2) FU ((1 : Int32), (0 : Int32), M) = some (nI (wgN x (2 ^ n - 1 - T) n), dayR M 1 (trp C pl wl (fun i => (2 ^ n - 1 - T).testBit i) (S, W, D) n).1 (trp C pl wl (fun i => (2 ^ n - 1 - T).testBit i) (S, W, D) n).2.1 (trp C pl wl (fun i => (2 ^ n - 1 - T).testBit i) (S, W, D) n).2.2) := by
  have h64 := p64 n hn
  have key := itr_run (b := fun s => b_X7_comes_64 v1 (nI n) (nI x) v4 v5 v6 (nI T) (nI (cP C)) (nI (cK C)) (nI (cO C)) kind skyAt skyLoud one other worth hangs s.1 s.2.1 s.2.2) (fun i => (nI (wgN x (2 ^ n - 1 - T) i), nI i, dayR M 1 (trp C pl wl (fun i => (2 ^ n - 1 - T).testBit i) (S, W, D) i).1 (trp C pl wl (fun i => (2 ^ n - 1 - T).testBit i) (S, W, D) i).2.1 (trp C pl wl (fun i => (2 ^ n - 1 - T).testBit i) (S, W, D) i).2.2)) n (r := (nI (wgN x (2 ^ n - 1 - T) n), dayR M 1 (trp C pl wl (fun i => (2 ^ n - 1 - T).testBit i) (S, W, D) n).1 (trp C pl wl (fun i => (2 ^ n - 1 - T).testBit i) (S, W, D) n).2.1 (trp C pl wl (fun i => (2 ^ n - 1 - T).testBit i) (S, W, D) n).2.2)) ?_ ?_ FU (lt_FU (by omega))
  · have e0 : dayR M 1 (trp C pl wl (fun i => (2 ^ n - 1 - T).testBit i) (S, W, D) 0).1 (trp C pl wl (fun i => (2 ^ n - 1 - T).testBit i) (S, W, D) 0).2.1 (trp C pl wl (fun i => (2 ^ n - 1 - T).testBit i) (S, W, D) 0).2.2 = M := dayR_self hM
    rw [e0] at key
    exact key
  · intro i hi
    obtain ⟨h1, h2, h3, h4⟩ := trp_ok hC (pl := pl) (wl := wl) (cm := fun i => (2 ^ n - 1 - T).testBit i) (D := D) hS hc hW i
    have hMi : NY (cP C) (dayR M 1 (trp C pl wl (fun i => (2 ^ n - 1 - T).testBit i) (S, W, D) i).1 (trp C pl wl (fun i => (2 ^ n - 1 - T).testBit i) (S, W, D) i).2.1 (trp C pl wl (fun i => (2 ^ n - 1 - T).testBit i) (S, W, D) i).2.2) (9 * 1) pl wl _ _ _ := dayR_NY (L := 1) hC.1 hM
    have eT := Y_passOn hC hY (L := 1) (by omega) hMi hw h1 h2 h3 (show (trp C pl wl (fun i => (2 ^ n - 1 - T).testBit i) (S, W, D) i).2.2 < 2 ^ 31 by omega) true
    have eF := Y_passOn hC hY (L := 1) (by omega) hMi hw h1 h2 h3 (show (trp C pl wl (fun i => (2 ^ n - 1 - T).testBit i) (S, W, D) i).2.2 < 2 ^ 31 by omega) false
    rw [← b2_t, dayR_dayR, ← l_1] at eT
    rw [← b2_f, dayR_dayR, ← l_1] at eF
    have hb := cpl_tb n hn T hT i hi
    show b_X7_comes_64 v1 (nI n) (nI x) v4 v5 v6 (nI T) (nI (cP C)) (nI (cK C)) (nI (cO C)) kind skyAt skyLoud one other worth hangs (nI (wgN x (2 ^ n - 1 - T) i)) (nI i) (dayR M 1 (trp C pl wl (fun i => (2 ^ n - 1 - T).testBit i) (S, W, D) i).1 (trp C pl wl (fun i => (2 ^ n - 1 - T).testBit i) (S, W, D) i).2.1 (trp C pl wl (fun i => (2 ^ n - 1 - T).testBit i) (S, W, D) i).2.2) = some (.inl (nI (wgN x (2 ^ n - 1 - T) i * (if (2 ^ n - 1 - T).testBit i then 10 - x else x)), nI (i + 1), dayR M 1 (dayS C pl wl (trp C pl wl (fun i => (2 ^ n - 1 - T).testBit i) (S, W, D) i).1 (trp C pl wl (fun i => (2 ^ n - 1 - T).testBit i) (S, W, D) i).2.2 ((2 ^ n - 1 - T).testBit i)) (dayW C pl wl (trp C pl wl (fun i => (2 ^ n - 1 - T).testBit i) (S, W, D) i).1 (trp C pl wl (fun i => (2 ^ n - 1 - T).testBit i) (S, W, D) i).2.1 (trp C pl wl (fun i => (2 ^ n - 1 - T).testBit i) (S, W, D) i).2.2 ((2 ^ n - 1 - T).testBit i)) ((trp C pl wl (fun i => (2 ^ n - 1 - T).testBit i) (S, W, D) i).2.2 + 1)))
    unfold b_X7_comes_64
    rw [if_neg (nI_ge hi (by omega)), has6 T (by omega) i (by omega), b_some, ten_m x hx, pk_mul, pk_mul, eT, eF, hb]
    simp only [b_some, b2_0, nI_succ i]
    by_cases ht : T.testBit i = true
    · rw [if_neg (by rw [ht]; decide), if_neg (by rw [ht]; decide), ht]; rfl
    · have ht' : T.testBit i = false := by simpa using ht
      rw [if_pos ht', if_pos ht', ht']; rfl
  · show b_X7_comes_64 v1 (nI n) (nI x) v4 v5 v6 (nI T) (nI (cP C)) (nI (cK C)) (nI (cO C)) kind skyAt skyLoud one other worth hangs (nI (wgN x (2 ^ n - 1 - T) n)) (nI n) _ = _
    unfold b_X7_comes_64
    rw [if_pos (nI_le (Nat.le_refl _) (by omega))]
