/-! ===== the calls: text, heard, acts ===== -/
def RT (len : Int32) (lt : Nat → Int32) (len' : Int32) (tx : Nat → Int32) : Prop := ∃ n, n ≤ 60 ∧ len = nI n ∧ len' = nI n ∧ ∀ j, j < n → lt j = tx j
theorem p_write {len len' : Int32} {lt tx : Nat → Int32} (h : RT len lt len' tx) (v : Int32) : ∃ r l1 t1 l2 t2, f_X6_write v len lt = some (r, l1, t1) ∧ f_X7_write v len' tx = some (r, l2, t2) ∧ RT l1 t1 l2 t2 := by
  have h0 := h
  obtain ⟨n, hn, rfl, rfl, hag⟩ := h
  unfold f_X6_write f_X7_write f_X5_add
  rw [within_e, in32_e, b_some, b_some]
  simp only [b2_0, show (0 : Int64).toInt = (0 : Int32).toInt from rfl, show (255 : Int64).toInt = (255 : Int32).toInt from rfl]
  by_cases hb : rng v.toInt (0 : Int32).toInt (255 : Int32).toInt = false
  · rw [if_pos hb, if_pos hb]
    exact ⟨_, _, _, _, _, rfl, rfl, h0⟩
  · rw [if_neg hb, if_neg hb, show (60 : Int32) = nI 60 from rfl]
    by_cases h60 : n < 60
    · rw [if_pos (nI_lt h60 (by omega)), if_neg (by rw [nI_eq (by omega) (by omega)]; omega), put_nI h60 (by decide), ast_nI h60]
      refine ⟨_, _, _, _, _, rfl, rfl, n + 1, by omega, nI_1 n, nI_1 n, fun j hj => ?_⟩
      show upd lt n v j = upd tx n v j
      by_cases hjn : j = n
      · subst hjn; rw [upd_at, upd_at]
      · rw [upd_ne _ _ hjn, upd_ne _ _ hjn]; exact hag j (by omega)
    · rw [if_neg (nI_nlt (by omega) (by omega)), if_pos (by rw [show n = 60 by omega])]
      exact ⟨_, _, _, _, _, rfl, rfl, h0⟩
theorem p_wipe {len len' : Int32} {lt tx : Nat → Int32} (h : RT len lt len' tx) : ∃ r l1 l2, f_X6_wipe len = some (r, l1) ∧ f_X7_wipe len' = some (r, l2) ∧ RT l1 lt l2 tx := by
  obtain ⟨n, hn, rfl, rfl, hag⟩ := h
  exact ⟨_, _, _, rfl, rfl, 0, by omega, rfl, rfl, fun j hj => absurd hj (by omega)⟩
def RH (l : Int32) (a b c : Nat → Int32) (l' : Int32) (a' b' c' : Nat → Int32) : Prop := ∃ (n : Nat) (pa wa ha : Nat → Nat), n ≤ 6 ∧ l = nI n ∧ l' = nI n ∧ ∀ j, j < n → pa j < 10 ∧ wa j < 2 ∧ ha j < 2 ∧ a j = nI (pa j) ∧ a' j = nI (pa j) ∧ b j = nI (wa j) ∧ b' j = nI (wa j) ∧ c j = nI (ha j) ∧ c' j = nI (ha j)
theorem rng_k {x : Int32} {k : Nat} (h : rng x.toInt 0 (k : Int) = true) : ∃ j, j < k + 1 ∧ x = nI j := rng_nI (P := k + 1) (by rw [show (((k + 1 : Nat) : Int) - 1) = (k : Int) by omega]; exact h)
theorem p_hear {l l' : Int32} {a b c a' b' c' : Nat → Int32} (h : RH l a b c l' a' b' c') (v1 v2 v3 : Int32) : ∃ r l1 a1 b1 c1 l2 a2 b3 c2, f_X6_hear v1 v2 v3 l a b c = some (r, l1, a1, b1, c1) ∧ f_X7_hear v1 v2 v3 l' a' b' c' = some (r, l2, a2, b3, c2) ∧ RH l1 a1 b1 c1 l2 a2 b3 c2 := by
  have h0 := h
  obtain ⟨n, pa, wa, ha, hn, rfl, rfl, hag⟩ := h
  unfold f_X6_hear f_X7_hear f_X2_add
  rw [xPlace_e, yPlace_e, b_some, b_some]
  simp only [b2_0, within_e, in32_e, b_some, show (0 : Int64).toInt = 0 from rfl, show (0 : Int32).toInt = 0 from rfl, show (1 : Int64).toInt = 1 from rfl, show (1 : Int32).toInt = 1 from rfl]
  by_cases g1 : rng v1.toInt 0 9 = false
  · rw [if_pos g1, if_pos g1]; exact ⟨_, _, _, _, _, _, _, _, _, rfl, rfl, h0⟩
  rw [if_neg g1, if_neg g1]
  by_cases g2 : rng v2.toInt 0 1 = false
  · rw [if_pos g2, if_pos g2]; exact ⟨_, _, _, _, _, _, _, _, _, rfl, rfl, h0⟩
  rw [if_neg g2, if_neg g2]
  by_cases g3 : rng v3.toInt 0 1 = false
  · rw [if_pos g3, if_pos g3]; exact ⟨_, _, _, _, _, _, _, _, _, rfl, rfl, h0⟩
  rw [if_neg g3, if_neg g3, show (6 : Int32) = nI 6 from rfl]
  obtain ⟨j1, hj1, rfl⟩ := rng_k (k := 9) (by simpa using g1)
  obtain ⟨j2, hj2, rfl⟩ := rng_k (k := 1) (by simpa using g2)
  obtain ⟨j3, hj3, rfl⟩ := rng_k (k := 1) (by simpa using g3)
  by_cases h6 : n < 6
  · rw [if_pos (nI_lt h6 (by omega)), if_neg (by rw [nI_eq (by omega) (by omega)]; omega)]
    simp only [put_nI h6 (by decide), ast_nI h6, b_some]
    refine ⟨_, _, _, _, _, _, _, _, _, rfl, rfl, n + 1, fun j => if j = n then j1 else pa j, fun j => if j = n then j2 else wa j, fun j => if j = n then j3 else ha j, by omega, nI_1 n, nI_1 n, fun j hj => ?_⟩
    by_cases hjn : j = n
    · subst hjn
      refine ⟨?_, ?_, ?_, ?_, ?_, ?_, ?_, ?_, ?_⟩ <;> simp [upd_at] <;> assumption
    · simp only [if_neg hjn, upd_ne _ _ hjn]
      exact hag j (by omega)
  · rw [if_neg (nI_nlt (by omega) (by omega)), if_pos (by rw [show n = 6 by omega])]
    exact ⟨_, _, _, _, _, _, _, _, _, rfl, rfl, h0⟩
theorem p_unhear {l l' : Int32} {a b c a' b' c' : Nat → Int32} (h : RH l a b c l' a' b' c') : ∃ r l1 l2, f_X6_unhear l = some (r, l1) ∧ f_X7_unhear l' = some (r, l2) ∧ RH l1 a b c l2 a' b' c' := by
  obtain ⟨n, pa, wa, ha, hn, rfl, rfl, hag⟩ := h
  exact ⟨_, _, _, rfl, rfl, 0, pa, wa, ha, by omega, rfl, rfl, fun j hj => absurd hj (by omega)⟩
/-! acts -/
theorem wl32 {C : Cty} (hC : CM C) {B wl S W D : Nat} (h : SM C B wl S W D) : wl < 32 := lt32 hC.1 h.1
theorem p_day {C : Cty} (hC : CM C) {kinds cp ld ones others worths hangs : Nat → Int32} (hX : CX C kinds cp ld ones others worths hangs) {kind skyAt skyLoud one other worth hangs' : Nat → Int32} (hY : CY C kind skyAt skyLoud one other worth hangs') {B : Nat} (hB : B < 2 ^ 30) {a b c d e : Int32} {N : Nat → Int32} (hs : RS C B a b c d e N 0) {len acts next : Int32} {row mrow : Nat → Int32} (ha : RA C B len row acts next mrow) : ∃ r c1 d1 e1 l1 w1 k1 x1 N1 m1, f_X6_day (nI (cP C)) (nI (cK C)) (nI (cO C)) a b c d e len kinds cp ld ones others worths hangs row = some (r, c1, d1, e1, l1, w1) ∧ f_X7_day (nI (cP C)) (nI (cK C)) (nI (cO C)) acts next kind skyAt skyLoud one other worth hangs' N mrow = some (r, k1, x1, N1, m1) ∧ RS C (B + 1) a b c1 d1 e1 N1 0 ∧ RA C (B + 1) l1 w1 k1 x1 m1 := by
  obtain ⟨l1, w1, k1, x1, m1, ep, ek, hra⟩ := acts_push hC ha hs
  obtain ⟨pl, wl, S, W, D, hm, ⟨hp, rfl, rfl, rfl, rfl⟩, hN⟩ := hs
  have hw := wl32 hC hm
  obtain ⟨h1, h2, h3, h4, h5⟩ := hm
  unfold f_X6_day f_X7_day
  rw [ep, b_some, ek, b_some]
  have eX := X_passDay hC hX hp hw h2 h4 (show D < 2 ^ 31 by omega) true
  have eY := Y_passOn hC hY (L := 0) (by omega) hN hw h2 h3 h4 (show D < 2 ^ 31 by omega) true
  rw [← b2_t] at eX eY
  rw [show nI 0 = (0 : Int32) from rfl] at eY
  rw [eX, b_some, eY, b_some]
  refine ⟨_, _, _, _, _, _, _, _, _, _, rfl, rfl, ⟨pl, wl, _, _, _, ⟨h1, dayS_lt hC h2, clo_day hC h2 h3, capN_lt _, by omega⟩, ⟨hp, rfl, rfl, rfl, rfl⟩, dayR_NY hC.1 hN⟩, hra.mono (by omega)⟩

theorem NY.set6 {P : Nat} (hP : P ≤ 5) {N : Nat → Int32} {o : Nat} {pl : Nat → Nat} {wl S W D : Nat} (h : NY P N o pl wl S W D) (S' : Nat) : NY P (upd N (o + 6) (nI S')) o pl wl S' W D :=
  ⟨fun p hp => by rw [upd_ne _ _ (by omega)]; exact h.1 p hp, by rw [upd_ne _ _ (by omega)]; exact h.2.1, by rw [upd_at], by rw [upd_ne _ _ (by omega)]; exact h.2.2.2.1, by rw [upd_ne _ _ (by omega)]; exact h.2.2.2.2⟩
theorem NY.set5 {P : Nat} (hP : P ≤ 5) {N : Nat → Int32} {o : Nat} {pl : Nat → Nat} {wl S W D : Nat} (h : NY P N o pl wl S W D) (wl' : Nat) : NY P (upd N (o + 5) (nI wl')) o pl wl' S W D :=
  ⟨fun p hp => by rw [upd_ne _ _ (by omega)]; exact h.1 p hp, by rw [upd_at], by rw [upd_ne _ _ (by omega)]; exact h.2.2.1, by rw [upd_ne _ _ (by omega)]; exact h.2.2.2.1, by rw [upd_ne _ _ (by omega)]; exact h.2.2.2.2⟩
theorem NY.setp {P : Nat} (hP : P ≤ 5) {N : Nat → Int32} {o : Nat} {pl : Nat → Nat} {wl S W D : Nat} (h : NY P N o pl wl S W D) {p v : Nat} (hp : p < P) (hv : v < 10) : NY P (upd N (o + p) (nI v)) o (setP pl p v) wl S W D := by
  refine ⟨fun j hj => ?_, by rw [upd_ne _ _ (by omega)]; exact h.2.1, by rw [upd_ne _ _ (by omega)]; exact h.2.2.1, by rw [upd_ne _ _ (by omega)]; exact h.2.2.2.1, by rw [upd_ne _ _ (by omega)]; exact h.2.2.2.2⟩
  unfold setP
  by_cases he : j = p
  · subst he; rw [upd_at, if_pos rfl]; exact ⟨rfl, hv⟩
  · rw [upd_ne _ _ (by omega), if_neg he]; exact h.1 j hj
theorem p_drum {C : Cty} (hC : CM C) {kinds cp ld ones others worths hangs : Nat → Int32} (hX : CX C kinds cp ld ones others worths hangs) {kind skyAt skyLoud one other worth hangs' : Nat → Int32} (hY : CY C kind skyAt skyLoud one other worth hangs') {B : Nat} {a b c d e : Int32} {N : Nat → Int32} (hs : RS C B a b c d e N 0) {len acts next : Int32} {row mrow : Nat → Int32} (ha : RA C B len row acts next mrow) (v1 v2 : Int32) : ∃ r c1 l1 w1 k1 x1 N1 m1, f_X6_drum v1 v2 (nI (cP C)) (nI (cO C)) a b c d e len kinds ones others hangs row = some (r, c1, l1, w1) ∧ f_X7_drum v1 v2 (nI (cP C)) (nI (cO C)) acts next kind one other hangs' N mrow = some (r, k1, x1, N1, m1) ∧ RS C B a b c1 d e N1 0 ∧ RA C B l1 w1 k1 x1 m1 := by
  obtain ⟨l1, w1, k1, x1, m1, ep, ek, hra⟩ := acts_push hC ha hs
  unfold f_X6_drum f_X7_drum
  rw [xPlace_e, yPlace_e, b_some, b_some]
  simp only [b2_0, within_e, in32_e, b_some, show (0 : Int64).toInt = 0 from rfl, show (0 : Int32).toInt = 0 from rfl, show (9 : Int64).toInt = 9 from rfl, show (9 : Int32).toInt = 9 from rfl]
  by_cases g1 : rng v1.toInt 0 9 = false
  · rw [if_pos g1, if_pos g1]; exact ⟨_, _, _, _, _, _, _, _, rfl, rfl, hs, ha⟩
  rw [if_neg g1, if_neg g1]
  by_cases g2 : rng v2.toInt 0 9 = false
  · rw [if_pos g2, if_pos g2]; exact ⟨_, _, _, _, _, _, _, _, rfl, rfl, hs, ha⟩
  rw [if_neg g2, if_neg g2]
  obtain ⟨j1, hj1, rfl⟩ := rng_k (k := 9) (by simpa using g1)
  obtain ⟨j2, hj2, rfl⟩ := rng_k (k := 9) (by simpa using g2)
  obtain ⟨pl, wl, S, W, D, hm, ⟨hp, rfl, rfl, rfl, rfl⟩, hN⟩ := hs
  have hw := wl32 hC hm
  obtain ⟨h1, h2, h3, h4, h5⟩ := hm
  have hlt := lt32 hC.1 (hearN_lt C pl wl j1 j2 (cP C))
  have eY := Y_clap hC hY (L := 0) (by omega) hlt h2 hN.2.2.1 (Y_hearers hC hY.1 (L := 0) (by omega) hN hw hj1 hj2)
  rw [show nI 0 = (0 : Int32) from rfl] at eY
  rw [ep, b_some, ek, b_some, X_hearers hC hX.1 hp hw hj1 hj2, b_some, X_freeBy hC hX hlt h2, b_some, eY, b_some]
  exact ⟨_, _, _, _, _, _, _, _, rfl, rfl, ⟨pl, wl, _, _, _, ⟨h1, clapN_lt hC h2, clo_clap hC h2, h4, h5⟩, ⟨hp, rfl, rfl, rfl, rfl⟩, hN.set6 hC.1 _⟩, hra⟩
/-! oaths sworn or not -/
def swn (C : Cty) (S k : Nat) : Bool := !S.testBit k && (match hg C k with
  | none => true
  | some j => S.testBit j)
theorem X_isSworn {C : Cty} (hC : CM C) {S : Nat} (hS : S < 2 ^ cO C) {k : Nat} (hk : k < cO C) : f_X4_isSworn (nI k) (nI S) (nI (cO C)) = some (nI (b2 (S.testBit k))) := by
  have hO := hC.2.2.1
  unfold f_X4_isSworn
  rw [hasOath_e hO, b_some, if_neg (by rw [b2_0, rng_in hk (by omega)]; decide), bit_ok (lt32 hO hS) (by omega), b_some]
  simp only [b2_1]
  by_cases h : S.testBit k = true
  · rw [if_pos h, h]; rfl
  · rw [if_neg h, show S.testBit k = false by simpa using h]; rfl
theorem X_canSwear {C : Cty} (hC : CM C) {hangs : Nat → Int32} (hh : ∀ k, k < cO C → hangs k = hgI (hg C k)) {S : Nat} (hS : S < 2 ^ cO C) {k : Nat} (hk : k < cO C) : f_X4_canSwear (nI k) (nI S) (nI (cO C)) hangs = some (nI (b2 (swn C S k))) := by
  have hO := hC.2.2.1
  unfold f_X4_canSwear
  rw [hasOath_e hO, b_some, if_neg (by rw [b2_0, rng_in hk (by omega)]; decide), X_isSworn hC hS hk, b_some, at_nI (by omega) (by decide), b_some, hh k hk]
  simp only [b2_0]
  unfold swn
  by_cases h : S.testBit k = false
  · rw [if_pos h, h]
    cases hg1 : hg C k with
    | none => rw [hgI_n, if_pos rfl]; rfl
    | some j =>
      have hj := (hC.2.2.2.2.1 k hk).2.2.2.2 j hg1
      rw [hgI_s, if_neg (neg9 j (by omega)), X_isSworn hC hS (by omega), b_some]
      simp only [b2_0]
      by_cases h2 : S.testBit j = false
      · rw [if_pos h2, h2]; rfl
      · rw [if_neg h2, show S.testBit j = true by simpa using h2]; rfl
  · rw [if_neg h, show S.testBit k = true by simpa using h]; rfl
theorem Y_canSwear {C : Cty} (hC : CM C) {hangs : Nat → Int32} (hh : ∀ k, k < cO C → hangs k = hgI (hg C k)) {L : Nat} (hL : L < 2) {N : Nat → Int32} {S : Nat} (hS : S < 2 ^ cO C) (hNS : N (9 * L + 6) = nI S) {k : Nat} (hk : k < cO C) : f_X7_canSwear (nI L) (nI k) (nI (cO C)) hangs N = some (nI (b2 (swn C S k))) := by
  have hO := hC.2.2.1
  unfold f_X7_canSwear
  rw [ix6 hL, ald_nI (by omega), b_some, hNS, isOath_e hO, b_some, if_neg (by rw [b2_0, rng_in hk (by omega)]; decide), has_ok _ (lt32 hO hS) k (by omega), b_some, ald_nI (by omega), b_some, hh k hk]
  simp only [b2_0]
  unfold swn
  by_cases h : S.testBit k = false
  · rw [if_pos h, h]
    cases hg1 : hg C k with
    | none => rw [hgI_n, if_pos rfl]; rfl
    | some j =>
      have hj := (hC.2.2.2.2.1 k hk).2.2.2.2 j hg1
      rw [hgI_s, if_neg (neg9 j (by omega)), b_some, has_ok _ (lt32 hO hS) j (by omega), b_some]
      simp only [b2_0]
      by_cases h2 : S.testBit j = false
      · rw [if_pos h2, h2]; rfl
      · rw [if_neg h2, show S.testBit j = true by simpa using h2]; rfl
  · rw [if_neg h, show S.testBit k = true by simpa using h]; rfl
