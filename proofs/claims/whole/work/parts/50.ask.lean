theorem Y_who {C : Cty} (hC : CM C) {kind skyAt skyLoud one other worth hangs : Nat → Int32} (hY : CY C kind skyAt skyLoud one other worth hangs) {N : Nat → Int32} {pl : Nat → Nat} {wl S W D : Nat} (hN : NY (cP C) N 0 pl wl S W D) (hw : wl < 32) (hD : D < 2 ^ 31) : f_X7_hearNow (nI (cP C)) (nI (cK C)) kind skyAt skyLoud N = some (nI (hskN C pl wl D)) := by
  obtain ⟨a, b, ea, eb, hn, hs⟩ := Y_sky hC hY hD
  unfold f_X7_hearNow
  have h8 : N 8 = nI D := by have := hN.2.2.2.2; rwa [Nat.zero_add] at this
  rw [l_8, ald_nI (by omega), b_some, h8, ea, b_some, b_some, eb, b_some]
  have hwho : f_X7_hearers (0 : Int32) a b (nI (cP C)) kind N = some (nI (hskN C pl wl D)) := by
    unfold hskN
    cases h : skyN C D with
    | none => rw [hn h]; exact Y_hearers_none hC.1
    | some q =>
      obtain ⟨p, l⟩ := q
      obtain ⟨e1, e2, b1, b3⟩ := hs p l h
      rw [e1, e2]
      exact Y_hearers hC hY.1 (L := 0) (by omega) hN hw b1 b3
  rw [hwho]; rfl
theorem p_person {C : Cty} (hC : CM C) {kinds cp ld ones others worths hangs : Nat → Int32} (hX : CX C kinds cp ld ones others worths hangs) {kind skyAt skyLoud one other worth hangs' : Nat → Int32} (hY : CY C kind skyAt skyLoud one other worth hangs') {B : Nat} (hB : B < 2 ^ 30) {a b c d e : Int32} {N : Nat → Int32} (hs : RS C B a b c d e N 0) (v1 v2 : Int32) : ∃ r, f_X6_person v1 v2 (nI (cP C)) (nI (cK C)) (nI (cO C)) a b c e kinds cp ld ones others = some r ∧ f_X7_person v1 v2 (nI (cP C)) (nI (cK C)) (nI (cO C)) kind skyAt skyLoud one other N = some r := by
  have hP := hC.1
  have hO := hC.2.2.1
  unfold f_X6_person f_X7_person
  rw [hasPerson_e hP, isPerson_e hP, b_some, b_some]
  simp only [b2_0]
  by_cases g1 : rng v1.toInt 0 ((cP C : Int) - 1) = false
  · rw [if_pos g1, if_pos g1]; exact ⟨_, rfl, rfl⟩
  rw [if_neg g1, if_neg g1]
  obtain ⟨k, hk, rfl⟩ := rng_nI (by simpa using g1)
  obtain ⟨pl, wl, S, W, D, hm, ⟨hp, rfl, rfl, rfl, rfl⟩, hN⟩ := hs
  have hw := wl32 hC hm
  obtain ⟨h1, h2, h3, h4, h5⟩ := hm
  have hNk : N k = nI (pl k) := by have := (hN.1 k hk).1; rwa [Nat.zero_add] at this
  have hN5 : N 5 = nI wl := by have := hN.2.1; rwa [Nat.zero_add] at this
  have hN6 : N 6 = nI S := by have := hN.2.2.1; rwa [Nat.zero_add] at this
  by_cases c0 : v2 = 0
  · rw [if_pos c0, if_pos c0, (hp k hk).1, b_some, ald_nI (by omega), b_some, hNk]; exact ⟨_, rfl, rfl⟩
  rw [if_neg c0, if_neg c0]
  by_cases c1 : v2 = 1
  · rw [if_pos c1, if_pos c1, at_nI (by omega) (by decide), b_some, ald_nI (by omega), b_some, hX.1 k hk, hY.1 k hk]; exact ⟨_, rfl, rfl⟩
  rw [if_neg c1, if_neg c1]
  by_cases c2 : v2 = 2
  · rw [if_pos c2, if_pos c2, bit_ok hw (by omega), b_some, l_5, ald_nI (by omega), b_some, hN5, bit_e wl hw k (by omega)]; exact ⟨_, rfl, rfl⟩
  rw [if_neg c2, if_neg c2, X_oathsOf hC hX hk, Y_oathsOf hC hY hk]
  by_cases c3 : v2 = 3
  · rw [if_pos c3, if_pos c3]; exact ⟨_, rfl, rfl⟩
  rw [if_neg c3, if_neg c3]
  by_cases c4 : v2 = 4
  · rw [if_pos c4, if_pos c4, b_some, b_some, l_6, ald_nI (by omega), b_some, hN6]; exact ⟨_, rfl, rfl⟩
  rw [if_neg c4, if_neg c4]
  by_cases c5 : v2 = 5
  · rw [if_pos c5, if_pos c5, X_skyHearers hC hX hp hw (by omega), b_some, Y_who hC hY hN hw (by omega), b_some, bit_ok (hskN_lt hC pl wl D) (by omega), b_some, bit_e _ (hskN_lt hC pl wl D) k (by omega)]; exact ⟨_, rfl, rfl⟩
  rw [if_neg c5, if_neg c5]; exact ⟨_, rfl, rfl⟩
theorem p_oath {C : Cty} (hC : CM C) {kinds cp ld ones others worths hangs : Nat → Int32} (hX : CX C kinds cp ld ones others worths hangs) {kind skyAt skyLoud one other worth hangs' : Nat → Int32} (hY : CY C kind skyAt skyLoud one other worth hangs') {B : Nat} {a b c d e : Int32} {N : Nat → Int32} (hs : RS C B a b c d e N 0) (v1 v2 : Int32) : ∃ r, f_X6_oath v1 v2 (nI (cO C)) c ones others worths hangs = some r ∧ f_X7_oath v1 v2 (nI (cO C)) one other worth hangs' N = some r := by
  have hO := hC.2.2.1
  unfold f_X6_oath f_X7_oath
  rw [hasOath_e hO, isOath_e hO, b_some, b_some]
  simp only [b2_0]
  by_cases g1 : rng v1.toInt 0 ((cO C : Int) - 1) = false
  · rw [if_pos g1, if_pos g1]; exact ⟨_, rfl, rfl⟩
  rw [if_neg g1, if_neg g1]
  obtain ⟨k, hk, rfl⟩ := rng_nI (by simpa using g1)
  obtain ⟨pl, wl, S, W, D, ⟨h1, h2, h3, h4, h5⟩, ⟨hp, rfl, rfl, rfl, rfl⟩, hN⟩ := hs
  have hN6 : N 6 = nI S := by have := hN.2.2.1; rwa [Nat.zero_add] at this
  obtain ⟨e1, e2, e3, e4⟩ := hX.2.1 k hk
  obtain ⟨f1, f2, f3, f4⟩ := hY.2.1 k hk
  rw [at_nI (f := ones) (by omega) (by decide), at_nI (f := others) (by omega) (by decide), at_nI (f := worths) (by omega) (by decide), at_nI (f := hangs) (by omega) (by decide), ald_nI (f := one) (by omega), ald_nI (f := other) (by omega), ald_nI (f := worth) (by omega), ald_nI (f := hangs') (by omega), e1, e2, e3, e4, f1, f2, f3, f4]
  by_cases c0 : v2 = 0
  · rw [if_pos c0, if_pos c0]; exact ⟨_, rfl, rfl⟩
  rw [if_neg c0, if_neg c0]
  by_cases c1 : v2 = 1
  · rw [if_pos c1, if_pos c1]; exact ⟨_, rfl, rfl⟩
  rw [if_neg c1, if_neg c1]
  by_cases c2 : v2 = 2
  · rw [if_pos c2, if_pos c2]; exact ⟨_, rfl, rfl⟩
  rw [if_neg c2, if_neg c2]
  by_cases c3 : v2 = 3
  · rw [if_pos c3, if_pos c3]; exact ⟨_, rfl, rfl⟩
  rw [if_neg c3, if_neg c3]
  by_cases c4 : v2 = 4
  · rw [if_pos c4, if_pos c4, bit_ok (lt32 hO h2) (by omega), b_some, l_6, ald_nI (by omega), b_some, hN6, bit_e S (lt32 hO h2) k (by omega)]; exact ⟨_, rfl, rfl⟩
  rw [if_neg c4, if_neg c4]; exact ⟨_, rfl, rfl⟩
theorem p_count {C : Cty} (hC : CM C) {kinds cp ld ones others worths hangs : Nat → Int32} (hX : CX C kinds cp ld ones others worths hangs) {kind skyAt skyLoud one other worth hangs' : Nat → Int32} (hY : CY C kind skyAt skyLoud one other worth hangs') {B : Nat} (hB : B < 2 ^ 30) {a b c d e : Int32} {N : Nat → Int32} (hs : RS C B a b c d e N 0) {tl al hl : Int32} (v1 : Int32) : ∃ r, f_X6_count v1 tl (nI (cP C)) (nI (cK C)) (nI (cO C)) a b c d e al hl kinds cp ld = some r ∧ f_X7_count v1 (nI (cP C)) (nI (cK C)) (nI (cO C)) tl al hl kind skyAt skyLoud N = some r := by
  obtain ⟨pl, wl, S, W, D, hm, ⟨hp, rfl, rfl, rfl, rfl⟩, hN⟩ := hs
  have hw := wl32 hC hm
  obtain ⟨h1, h2, h3, h4, h5⟩ := hm
  have hN5 : N 5 = nI wl := by have := hN.2.1; rwa [Nat.zero_add] at this
  have hN6 : N 6 = nI S := by have := hN.2.2.1; rwa [Nat.zero_add] at this
  have hN7 : N 7 = nI W := by have := hN.2.2.2.1; rwa [Nat.zero_add] at this
  have hN8 : N 8 = nI D := by have := hN.2.2.2.2; rwa [Nat.zero_add] at this
  have g5 : ald N 18 (5 : Int32) = some (nI wl) := by rw [l_5, ald_nI (by omega), hN5]
  have g6 : ald N 18 (6 : Int32) = some (nI S) := by rw [l_6, ald_nI (by omega), hN6]
  have g7 : ald N 18 (7 : Int32) = some (nI W) := by rw [l_7, ald_nI (by omega), hN7]
  have g8 : ald N 18 (8 : Int32) = some (nI D) := by rw [l_8, ald_nI (by omega), hN8]
  unfold f_X6_count f_X7_count
  rw [g5, g6, g7, g8, X_skyHearers hC hX hp hw (by omega), Y_who hC hY hN hw (by omega)]
  by_cases c0 : v1 = 0
  · rw [if_pos c0, if_pos c0]; exact ⟨_, rfl, rfl⟩
  rw [if_neg c0, if_neg c0]
  by_cases c1 : v1 = 1
  · rw [if_pos c1, if_pos c1]; exact ⟨_, rfl, rfl⟩
  rw [if_neg c1, if_neg c1]
  by_cases c2 : v1 = 2
  · rw [if_pos c2, if_pos c2]; exact ⟨_, rfl, rfl⟩
  rw [if_neg c2, if_neg c2]
  by_cases c3 : v1 = 3
  · rw [if_pos c3, if_pos c3]; exact ⟨_, rfl, rfl⟩
  rw [if_neg c3, if_neg c3]
  by_cases c4 : v1 = 4
  · rw [if_pos c4, if_pos c4]; exact ⟨_, rfl, rfl⟩
  rw [if_neg c4, if_neg c4]
  by_cases c5 : v1 = 5
  · rw [if_pos c5, if_pos c5]; exact ⟨_, rfl, rfl⟩
  rw [if_neg c5, if_neg c5]
  by_cases c6 : v1 = 6
  · rw [if_pos c6, if_pos c6]; exact ⟨_, rfl, rfl⟩
  rw [if_neg c6, if_neg c6]
  by_cases c7 : v1 = 7
  · rw [if_pos c7, if_pos c7]; exact ⟨_, rfl, rfl⟩
  rw [if_neg c7, if_neg c7]
  by_cases c8 : v1 = 8
  · rw [if_pos c8]; exact ⟨_, rfl, rfl⟩
  rw [if_neg c8]
  by_cases c9 : v1 = 9
  · rw [if_pos c9]; exact ⟨_, rfl, rfl⟩
  rw [if_neg c9]
  by_cases c10 : v1 = 10
  · rw [if_pos c10]; exact ⟨_, rfl, rfl⟩
  rw [if_neg c10]; exact ⟨_, rfl, rfl⟩
/-! ===== which clap it was ===== -/
def fitB (pa wa ha : Nat → Nat) (clap j : Nat) : Bool := decide (dst (pa j) (clap / 10) ≤ (if wa j = 1 then clap % 10 / 2 else clap % 10)) == decide (ha j = 1)
def fitN (pa wa ha : Nat → Nat) (clap : Nat) : Nat → Bool
  | 0 => true
  | n + 1 => fitN pa wa ha clap n && fitB pa wa ha clap n

theorem fit_first {pa wa ha : Nat → Nat} {clap : Nat} : ∀ n, fitN pa wa ha clap n = false → ∃ j, j < n ∧ fitN pa wa ha clap j = true ∧ fitB pa wa ha clap j = false
  | 0, h => by simp [fitN] at h
  | n + 1, h => by
    by_cases h1 : fitN pa wa ha clap n = true
    · refine ⟨n, by omega, h1, ?_⟩
      unfold fitN at h
      rw [h1] at h
      simpa using h
    · obtain ⟨j, hj, h2, h3⟩ := fit_first n (by simpa using h1)
      exact ⟨j, by omega, h2, h3⟩
theorem fit_pre {pa wa ha : Nat → Nat} {clap : Nat} : ∀ n, fitN pa wa ha clap n = true → ∀ j, j < n → fitB pa wa ha clap j = true
  | 0, _, j, hj => absurd hj (by omega)
  | n + 1, h, j, hj => by
    unfold fitN at h
    simp only [Bool.and_eq_true] at h
    by_cases hjn : j = n
    · subst hjn; exact h.2
    · exact fit_pre n h.1 j (by omega)
theorem two_1 {w : Nat} (h : w < 2) : (nI w = (1 : Int32)) ↔ w = 1 := nI_eq (a := w) (b := 1) (by omega) (by omega)
theorem two_0 {w : Nat} (h : w < 2) : (nI w = (0 : Int32)) ↔ w = 0 := nI_eq (a := w) (b := 0) (by omega) (by omega)
theorem fits_step {n : Nat} (hn : n ≤ 6) {a b c : Nat → Int32} {pa wa ha : Nat → Nat} (hag : ∀ j, j < n → pa j < 10 ∧ wa j < 2 ∧ ha j < 2 ∧ a j = nI (pa j) ∧ b j = nI (wa j) ∧ c j = nI (ha j)) {clap : Nat} (hc : clap < 100) {i : Nat} (hi : i < n) : b_X2_fits_2 (nI (clap / 10)) (nI (clap % 10)) (nI n) a b c (nI i) = if fitB pa wa ha clap i = true then some (.inl (nI (i + 1))) else some (.inr (.inr (0 : Int32))) := by
  obtain ⟨g1, g2, g3, e1, e2, e3⟩ := hag i hi
  unfold b_X2_fits_2
  rw [if_neg (nI_ge hi (by omega)), at_nI (by omega) (by decide), b_some, at_nI (by omega) (by decide), b_some, at_nI (by omega) (by decide), e1, e2, e3, reach_1 _ (by omega) _ (by omega) _ g1, reach_0 _ (by omega) _ (by omega) _ g1]
  simp only [b_some, two_1 g2, two_1 g3, b2_1, b2_0, nI_succ i, fitB]
  by_cases h1 : wa i = 1
  · simp only [h1]
    by_cases h2 : ha i = 1 <;> by_cases h3 : dst (pa i) (clap / 10) ≤ clap % 10 / 2 <;> simp [h2, h3]
  · simp only [h1]
    by_cases h2 : ha i = 1 <;> by_cases h3 : dst (pa i) (clap / 10) ≤ clap % 10 <;> simp [h2, h3]
theorem X_fits {n : Nat} (hn : n ≤ 6) {a b c : Nat → Int32} {pa wa ha : Nat → Nat} (hag : ∀ j, j < n → pa j < 10 ∧ wa j < 2 ∧ ha j < 2 ∧ a j = nI (pa j) ∧ b j = nI (wa j) ∧ c j = nI (ha j)) {clap : Nat} (hc : clap < 100) : f_X2_fits (nI (clap / 10)) (nI (clap % 10)) (nI n) a b c = some (nI (b2 (fitN pa wa ha clap n))) := by
  unfold f_X2_fits
  by_cases h : fitN pa wa ha clap n = true
  · have key : itr (fun s => b_X2_fits_2 (nI (clap / 10)) (nI (clap % 10)) (nI n) a b c s) FU (0 : Int32) = some (.inl ()) := by
      refine itr_run (fun i => nI i) n ?_ ?_ FU (lt_FU (by omega))
      · intro i hi
        show b_X2_fits_2 (nI (clap / 10)) (nI (clap % 10)) (nI n) a b c (nI i) = _
        rw [fits_step hn hag hc hi, if_pos (fit_pre n h i hi)]
      · show b_X2_fits_2 (nI (clap / 10)) (nI (clap % 10)) (nI n) a b c (nI n) = _
        unfold b_X2_fits_2
        rw [if_pos (nI_le (Nat.le_refl _) (by omega))]
    rw [key, h]; rfl
  · obtain ⟨j, hj, h2, h3⟩ := fit_first n (by simpa using h)
    have key : itr (fun s => b_X2_fits_2 (nI (clap / 10)) (nI (clap % 10)) (nI n) a b c s) FU (0 : Int32) = some (.inr (0 : Int32)) := by
      refine itr_run (fun i => nI i) j ?_ ?_ FU (lt_FU (by omega))
      · intro i hi
        show b_X2_fits_2 (nI (clap / 10)) (nI (clap % 10)) (nI n) a b c (nI i) = _
        rw [fits_step hn hag hc (by omega), if_pos (fit_pre j h2 i hi)]
      · show b_X2_fits_2 (nI (clap / 10)) (nI (clap % 10)) (nI n) a b c (nI j) = _
        rw [fits_step hn hag hc hj, if_neg (by rw [h3]; decide)]
    rw [key, show fitN pa wa ha clap n = false by simpa using h]; rfl
theorem d10_e : ∀ k, k < 100 → nI k / (10 : Int32) = nI (k / 10) := by decide +kernel
theorem r10_e : ∀ k, k < 100 → (nI k - nI k / (10 : Int32) * (10 : Int32)) = nI (k % 10) := by decide +kernel
theorem Y_fits {n : Nat} (hn : n ≤ 6) {a b c : Nat → Int32} {pa wa ha : Nat → Nat} (hag : ∀ j, j < n → pa j < 10 ∧ wa j < 2 ∧ ha j < 2 ∧ a j = nI (pa j) ∧ b j = nI (wa j) ∧ c j = nI (ha j)) {clap : Nat} (hc : clap < 100) (v1 v2 v3 : Int32) : itr (fun s => b_X7_which_34 v1 v2 v3 (nI clap) (nI n) a b c s.1 s.2) FU ((1 : Int32), (0 : Int32)) = some (nI (b2 (fitN pa wa ha clap n))) := by
  refine itr_run (fun i => (nI (b2 (fitN pa wa ha clap i)), nI i)) n ?_ ?_ FU (lt_FU (by omega))
  · intro i hi
    obtain ⟨g1, g2, g3, e1, e2, e3⟩ := hag i hi
    have hd := dst_lt g1 (show clap / 10 < 10 by omega)
    show b_X7_which_34 v1 v2 v3 (nI clap) (nI n) a b c (nI (b2 (fitN pa wa ha clap i))) (nI i) = some (.inl (nI (b2 (fitN pa wa ha clap (i + 1))), nI (i + 1)))
    unfold b_X7_which_34
    rw [if_neg (nI_ge hi (by omega)), ald_nI (by omega), b_some, ald_nI (by omega), ald_nI (by omega), e1, e2, e3, r10_e clap hc, d10_e clap hc, half_e _ (by omega)]
    simp only [b_some, two_1 g2, two_1 g3, b2_0, far_ok _ g1 _ (show clap / 10 < 10 by omega), nI_ltI (show clap % 10 / 2 < 2 ^ 31 by omega) (show dst (pa i) (clap / 10) < 2 ^ 31 by omega), nI_ltI (show clap % 10 < 2 ^ 31 by omega) (show dst (pa i) (clap / 10) < 2 ^ 31 by omega), nI_succ i, fitN, fitB]
    by_cases h0 : fitN pa wa ha clap i = true
    · by_cases h1 : wa i = 1
      · simp only [h1]
        by_cases h3 : clap % 10 / 2 < dst (pa i) (clap / 10)
        · have h4 : ¬ dst (pa i) (clap / 10) ≤ clap % 10 / 2 := by omega
          by_cases h2 : ha i = 1 <;> simp [h0, h2, h3, h4, b2] <;> rfl
        · have h4 : dst (pa i) (clap / 10) ≤ clap % 10 / 2 := by omega
          by_cases h2 : ha i = 1 <;> simp [h0, h2, h3, h4, b2] <;> rfl
      · simp only [h1]
        by_cases h3 : clap % 10 < dst (pa i) (clap / 10)
        · have h4 : ¬ dst (pa i) (clap / 10) ≤ clap % 10 := by omega
          by_cases h2 : ha i = 1 <;> simp [h0, h2, h3, h4, b2] <;> rfl
        · have h4 : dst (pa i) (clap / 10) ≤ clap % 10 := by omega
          by_cases h2 : ha i = 1 <;> simp [h0, h2, h3, h4, b2] <;> rfl
    · by_cases h1 : wa i = 1 <;> simp [h0, h1, b2] <;> rfl
  · show b_X7_which_34 v1 v2 v3 (nI clap) (nI n) a b c (nI (b2 (fitN pa wa ha clap n))) (nI n) = _
    unfold b_X7_which_34
    rw [if_pos (nI_le (Nat.le_refl _) (by omega))]

def whC (F : Nat → Bool) : Nat → Nat
  | 0 => 0
  | k + 1 => whC F k + b2 (F k)
def whF (F : Nat → Bool) : Nat → Option Nat
  | 0 => none
  | k + 1 => match whF F k with
    | none => if F k then some k else none
    | some h => some h
theorem wh_lt (F : Nat → Bool) : ∀ k, whC F k ≤ k ∧ (∀ h, whF F k = some h → h < k) ∧ (whF F k = none ↔ whC F k = 0)
  | 0 => ⟨Nat.le_refl _, fun h e => by simp [whF] at e, by simp [whF, whC]⟩
  | k + 1 => by
    obtain ⟨h1, h2, h3⟩ := wh_lt F k
    have e1 : whC F (k + 1) = whC F k + b2 (F k) := rfl
    have hb : b2 (F k) ≤ 1 ∧ (b2 (F k) = 0 ↔ F k = false) := by unfold b2; cases F k <;> simp
    cases hw : whF F k with
    | none =>
      have h0 := h3.mp hw
      have e2 : whF F (k + 1) = if F k then some k else none := by show (match whF F k with | none => _ | some h => _) = _; rw [hw]
      rw [e1, e2, h0]
      cases hf : F k
      · simp [b2]
      · simp [b2]
    | some h =>
      have h5 := h2 h hw
      have h4 : ¬ whC F k = 0 := fun e => by rw [h3.mpr e] at hw; cases hw
      have e2 : whF F (k + 1) = some h := by show (match whF F k with | none => _ | some h => _) = _; rw [hw]
      rw [e1, e2]
      refine ⟨by omega, fun h' e => ?_, ?_⟩
      · cases e; omega
      · simp only [reduceCtorEq, false_iff]; omega
theorem neg9c : ∀ j, j < 100 → ¬ nI j = (-9 : Int32) := by decide +kernel

theorem p_which {l l' : Int32} {a b c a' b' c' : Nat → Int32} (h : RH l a b c l' a' b' c') (v1 : Int32) : ∃ r, f_X6_which v1 l a b c = some r ∧ f_X7_which v1 l' a' b' c' = some r := by
  obtain ⟨n, pa, wa, ha, hn, rfl, rfl, hag⟩ := h
  have hX : ∀ j, j < n → pa j < 10 ∧ wa j < 2 ∧ ha j < 2 ∧ a j = nI (pa j) ∧ b j = nI (wa j) ∧ c j = nI (ha j) := fun j hj => by
    obtain ⟨q1, q2, q3, q4, q5, q6, q7, q8, q9⟩ := hag j hj
    exact ⟨q1, q2, q3, q4, q6, q8⟩
  have hY : ∀ j, j < n → pa j < 10 ∧ wa j < 2 ∧ ha j < 2 ∧ a' j = nI (pa j) ∧ b' j = nI (wa j) ∧ c' j = nI (ha j) := fun j hj => by
    obtain ⟨q1, q2, q3, q4, q5, q6, q7, q8, q9⟩ := hag j hj
    exact ⟨q1, q2, q3, q5, q7, q9⟩
  let F : Nat → Bool := fun k => fitN pa wa ha k n
  unfold f_X6_which f_X7_which
  rw [within_e, in32_e, b_some, b_some]
  simp only [b2_0, show (0 : Int64).toInt = 0 from rfl, show (0 : Int32).toInt = 0 from rfl, show (1 : Int64).toInt = 1 from rfl, show (1 : Int32).toInt = 1 from rfl]
  by_cases g1 : rng v1.toInt 0 1 = false
  · rw [if_pos g1, if_pos g1]; exact ⟨_, rfl, rfl⟩
  rw [if_neg g1, if_neg g1]
  have k1 : itr (fun s => b_X6_which_20 v1 (nI n) a b c s.1 s.2.1 s.2.2) FU ((0 : Int32), (-9 : Int32), (0 : Int32)) = some (nI (whC F 100), hgI (whF F 100)) := by
    refine itr_run (fun i => (nI (whC F i), hgI (whF F i), nI i)) 100 ?_ ?_ FU (lt_FU (by omega))
    · intro i hi
      obtain ⟨w1, w2, w3⟩ := wh_lt F i
      show b_X6_which_20 v1 (nI n) a b c (nI (whC F i)) (hgI (whF F i)) (nI i) = some (.inl (nI (whC F (i + 1)), hgI (whF F (i + 1)), nI (i + 1)))
      unfold b_X6_which_20
      have e1 : whC F (i + 1) = whC F i + b2 (F i) := rfl
      rw [if_neg (by rw [l_100]; exact nI_ge hi (by omega)), r10_e i hi, d10_e i hi, X_fits hn hX hi, b_some]
      simp only [b2_0, e1]
      cases hw : whF F i with
      | none =>
        have e2 : whF F (i + 1) = if F i then some i else none := by show (match whF F i with | none => _ | some h => _) = _; rw [hw]
        rw [e2, hgI_n, if_pos (show (-9 : Int32) = -9 from rfl), nI_succ i]
        by_cases hf : F i = true
        · rw [if_neg (show ¬ fitN pa wa ha i n = false by rw [show fitN pa wa ha i n = true from hf]; decide), if_pos hf, hgI_s, hf, nI_1]; rfl
        · have hf' : F i = false := by simpa using hf
          rw [if_pos (show fitN pa wa ha i n = false from hf'), if_neg hf, hgI_n, hf']; rfl
      | some h =>
        have e2 : whF F (i + 1) = some h := by show (match whF F i with | none => _ | some h => _) = _; rw [hw]
        rw [e2, hgI_s, if_neg (neg9c h (by have := w2 h hw; omega)), nI_succ i]
        by_cases hf : F i = true
        · rw [if_neg (show ¬ fitN pa wa ha i n = false by rw [show fitN pa wa ha i n = true from hf]; decide), hf, nI_1]; rfl
        · have hf' : F i = false := by simpa using hf
          rw [if_pos (show fitN pa wa ha i n = false from hf'), hf']; rfl
    · show b_X6_which_20 v1 (nI n) a b c (nI (whC F 100)) (hgI (whF F 100)) (nI 100) = _
      unfold b_X6_which_20
      rw [if_pos (by decide)]
  have k2 : itr (fun s => b_X7_which_21 v1 (nI n) a' b' c' s.1 s.2.1 s.2.2) FU ((0 : Int32), (-9 : Int32), (0 : Int32)) = some (nI (whC F 100), hgI (whF F 100)) := by
    refine itr_run (fun i => (nI (whC F i), hgI (whF F i), nI i)) 100 ?_ ?_ FU (lt_FU (by omega))
    · intro i hi
      obtain ⟨w1, w2, w3⟩ := wh_lt F i
      show b_X7_which_21 v1 (nI n) a' b' c' (nI (whC F i)) (hgI (whF F i)) (nI i) = some (.inl (nI (whC F (i + 1)), hgI (whF F (i + 1)), nI (i + 1)))
      unfold b_X7_which_21
      have e1 : whC F (i + 1) = whC F i + b2 (F i) := rfl
      rw [if_neg (by rw [l_100]; exact nI_ge hi (by omega)), Y_fits hn hY hi, b_some]
      simp only [b2_0, b_some, e1, add0_e]
      cases hw : whF F i with
      | none =>
        have e2 : whF F (i + 1) = if F i then some i else none := by show (match whF F i with | none => _ | some h => _) = _; rw [hw]
        have h0 := w3.mp hw
        rw [e2, h0, if_pos nI_0, nI_succ i]
        by_cases hf : F i = true
        · rw [if_neg (show ¬ fitN pa wa ha i n = false by rw [show fitN pa wa ha i n = true from hf]; decide), if_pos hf, hgI_s, hf]; rfl
        · have hf' : F i = false := by simpa using hf
          rw [if_pos (show fitN pa wa ha i n = false from hf'), if_neg hf, hf']; rfl
      | some h =>
        have e2 : whF F (i + 1) = some h := by show (match whF F i with | none => _ | some h => _) = _; rw [hw]
        have h4 : ¬ whC F i = 0 := fun e => by rw [w3.mpr e] at hw; cases hw
        rw [e2, if_neg (nI_ne0 (by omega) (by omega)), nI_succ i]
        by_cases hf : F i = true
        · rw [if_neg (show ¬ fitN pa wa ha i n = false by rw [show fitN pa wa ha i n = true from hf]; decide), hf, nI_1]; rfl
        · have hf' : F i = false := by simpa using hf
          rw [if_pos (show fitN pa wa ha i n = false from hf'), hf']; rfl
    · show b_X7_which_21 v1 (nI n) a' b' c' (nI (whC F 100)) (hgI (whF F 100)) (nI 100) = _
      unfold b_X7_which_21
      rw [if_pos (by decide)]
  rw [k1, k2, b_some]
  by_cases c0 : v1 = 0
  · simp only [if_pos c0]; exact ⟨_, rfl, rfl⟩
  · simp only [if_neg c0]; exact ⟨_, rfl, rfl⟩
