/-! ===== one part of a text, letter by letter ===== -/
theorem p2_e (p : Nat) : (2 : Int32) * nI p = nI (2 * p) := by rw [show (2 : Int32) = nI 2 from rfl, pk_mul]
theorem lt5 {a : Nat} (h : a < 5) : nI a < (5 : Int32) := by rw [l_5]; exact nI_lt h (by omega)
theorem nlt5 {a : Nat} (h : a < 5) : ¬ (5 : Int32) ≤ nI a := by rw [l_5]; exact nI_ge h (by omega)
theorem i32_3 : (3 : Int32).toInt = 3 := rfl
theorem r_P {n pos : Nat} (hn : n ≤ 60) (hpos : pos < n) {lt tx : Nat → Int32} (hag : ∀ j, j < n → lt j = tx j) {P : Nat} (hP : P < 5) (K O : Int32) (pc kc rp rs ro : Nat → Int32) : (∃ p' v w, pos < p' ∧ p' ≤ n ∧ v < 10 ∧ w < 4 ∧ f_X3_readPerson (nI pos) (0 : Int32) (nI n) lt (nI P) pc kc = some (nI p', (0 : Int32), nI (P + 1), upd pc P (nI v), upd kc P (nI w)) ∧ f_X7_readPart (80 : Int32) (nI P) K O (nI n) (nI pos) (-9 : Int32) rp rs ro tx = some (nI (P + 1), K, O, nI p', (-9 : Int32), upd (upd rp (2 * P) (nI v)) (2 * P + 1) (nI w), rs, ro)) ∨ (∃ p' A B, p' ≤ n ∧ f_X3_readPerson (nI pos) (0 : Int32) (nI n) lt (nI P) pc kc = some (nI p', (1 : Int32), nI P, pc, kc) ∧ f_X7_readPart (80 : Int32) (nI P) K O (nI n) (nI pos) (-9 : Int32) rp rs ro tx = some (A, K, O, nI p', nI p', B, rs, ro)) := by
  obtain ⟨v, p1, g1, v1, v2, v3, v4, ex1, ey1⟩ := s_fig hn (show pos + 1 ≤ n by omega) hag (most := 9) (by decide) true
  rw [sT_t] at ex1
  rw [fT_t] at ey1
  obtain ⟨w, p2, g2, w1, w2, w3, w4, ex2, ey2⟩ := s_fig hn v3 hag (most := 3) (by decide) g1
  have EX : f_X3_readPerson (nI pos) (0 : Int32) (nI n) lt (nI P) pc kc = if sT g2 = (0 : Int32) then (f_X1_addPerson (nI v) (nI w) (nI P) pc kc).bind fun r_7 => some (nI p2, sT g2, r_7.1, r_7.2.1, r_7.2.2) else some (nI p2, sT g2, nI P, pc, kc) := by
    unfold f_X3_readPerson f_X3_hasRoom
    rw [if_pos (lt5 hP), if_pos rfl, b_some]
    dsimp only
    rw [if_neg (by decide), b_some, nI_1, ex1, b_some]
    dsimp only
    rw [ex2, b_some]
  have EY : f_X7_readPart (80 : Int32) (nI P) K O (nI n) (nI pos) (-9 : Int32) rp rs ro tx = some (nI (P + 1), K, O, nI p2, fT g2 p2, upd (upd rp (2 * P) (nI v)) (2 * P + 1) (nI w), rs, ro) := by
    unfold f_X7_readPart
    rw [if_pos rfl, if_neg (nlt5 hP), b_some, nI_1, ey1, b_some, p2_e, ast_nI (by omega), b_some]
    dsimp only
    rw [ey2, b_some, nI_1, ast_nI (by omega), b_some, nI_1, b_some]
  cases g2 with
  | true =>
    left
    obtain ⟨h1, h2, h3⟩ := w4 rfl
    obtain ⟨_, h4, h5⟩ := v4 h1
    rw [i32_3] at h2
    rw [i32_9] at h4
    refine ⟨p2, v, w, by omega, w3, by omega, by omega, ?_, EY⟩
    rw [EX, if_pos (show sT true = (0 : Int32) from rfl)]
    unfold f_X1_addPerson
    rw [put_nI (by omega) (by decide), b_some, put_nI (by omega) (by decide), b_some, b_some, b_some, nI_1]
    rfl
  | false =>
    right
    exact ⟨p2, _, _, w3, by rw [EX, if_neg (by decide)]; rfl, EY⟩
theorem r_C {n pos : Nat} (hn : n ≤ 60) (hpos : pos < n) {lt tx : Nat → Int32} (hag : ∀ j, j < n → lt j = tx j) {K : Nat} (hK : K < 5) (P O : Int32) (pc kc rp rs ro : Nat → Int32) : (∃ p' v w, pos < p' ∧ p' ≤ n ∧ v < 10 ∧ w < 10 ∧ f_X3_readClap (nI pos) (0 : Int32) (nI n) lt (nI K) pc kc = some (nI p', (0 : Int32), nI (K + 1), upd pc K (nI v), upd kc K (nI w)) ∧ f_X7_readPart (67 : Int32) P (nI K) O (nI n) (nI pos) (-9 : Int32) rp rs ro tx = some (P, nI (K + 1), O, nI p', (-9 : Int32), rp, upd (upd rs (2 * K) (nI v)) (2 * K + 1) (nI w), ro)) ∨ (∃ p' A B, p' ≤ n ∧ f_X3_readClap (nI pos) (0 : Int32) (nI n) lt (nI K) pc kc = some (nI p', (1 : Int32), nI K, pc, kc) ∧ f_X7_readPart (67 : Int32) P (nI K) O (nI n) (nI pos) (-9 : Int32) rp rs ro tx = some (P, A, O, nI p', nI p', rp, B, ro)) := by
  obtain ⟨v, p1, g1, v1, v2, v3, v4, ex1, ey1⟩ := s_fig hn (show pos + 1 ≤ n by omega) hag (most := 9) (by decide) true
  rw [sT_t] at ex1
  rw [fT_t] at ey1
  obtain ⟨w, p2, g2, w1, w2, w3, w4, ex2, ey2⟩ := s_fig hn v3 hag (most := 9) (by decide) g1
  have EX : f_X3_readClap (nI pos) (0 : Int32) (nI n) lt (nI K) pc kc = if sT g2 = (0 : Int32) then (f_X1_addSky (nI v) (nI w) (nI K) pc kc).bind fun r_7 => some (nI p2, sT g2, r_7.1, r_7.2.1, r_7.2.2) else some (nI p2, sT g2, nI K, pc, kc) := by
    unfold f_X3_readClap f_X3_hasRoom
    rw [if_pos (lt5 hK), if_pos rfl, b_some]
    dsimp only
    rw [if_neg (by decide), b_some, nI_1, ex1, b_some]
    dsimp only
    rw [ex2, b_some]
  have EY : f_X7_readPart (67 : Int32) P (nI K) O (nI n) (nI pos) (-9 : Int32) rp rs ro tx = some (P, nI (K + 1), O, nI p2, fT g2 p2, rp, upd (upd rs (2 * K) (nI v)) (2 * K + 1) (nI w), ro) := by
    unfold f_X7_readPart
    rw [if_neg (by decide), if_neg (by decide), if_pos rfl, if_neg (nlt5 hK), b_some, nI_1, ey1, b_some, p2_e, ast_nI (by omega), b_some]
    dsimp only
    rw [ey2, b_some, nI_1, ast_nI (by omega), b_some, nI_1, b_some]
  cases g2 with
  | true =>
    left
    obtain ⟨h1, h2, h3⟩ := w4 rfl
    obtain ⟨_, h4, h5⟩ := v4 h1
    rw [i32_9] at h2 h4
    refine ⟨p2, v, w, by omega, w3, by omega, by omega, ?_, EY⟩
    rw [EX, if_pos (show sT true = (0 : Int32) from rfl)]
    unfold f_X1_addSky
    rw [put_nI (by omega) (by decide), b_some, put_nI (by omega) (by decide), b_some, b_some, b_some, nI_1]
    rfl
  | false =>
    right
    exact ⟨p2, _, _, w3, by rw [EX, if_neg (by decide)]; rfl, EY⟩
theorem m1_lt {P : Nat} (h : P ≤ 5) : (nI P - (1 : Int32)).toInt < 100 := by rw [m1_e P (by omega)]; omega
theorem r_O {n pos : Nat} (hn : n ≤ 60) (hpos : pos < n) {lt tx : Nat → Int32} (hag : ∀ j, j < n → lt j = tx j) {P O : Nat} (hP1 : 1 < P) (hP : P ≤ 5) (hO : O < 5) (K : Int32) (ones others worths hangs rp rs ro : Nat → Int32) : (∃ p' a b w g, pos < p' ∧ p' ≤ n ∧ a < P ∧ b < P ∧ a ≠ b ∧ w ≤ 9 ∧ (∀ j, g = some j → j < O) ∧ f_X3_readOath (nI pos) (0 : Int32) (nI n) lt (nI P) (nI O) ones others worths hangs = some (nI p', (0 : Int32), nI (O + 1), upd ones O (nI a), upd others O (nI b), upd worths O (nI w), upd hangs O (hgI g)) ∧ f_X7_readPart (79 : Int32) (nI P) K (nI O) (nI n) (nI pos) (-9 : Int32) rp rs ro tx = some (nI P, K, nI (O + 1), nI p', (-9 : Int32), rp, rs, upd (upd (upd (upd ro (4 * O) (nI a)) (4 * O + 1) (nI b)) (4 * O + 2) (nI w)) (4 * O + 3) (hgI g))) ∨ (∃ p' A B, p' ≤ n ∧ f_X3_readOath (nI pos) (0 : Int32) (nI n) lt (nI P) (nI O) ones others worths hangs = some (nI p', (1 : Int32), nI O, ones, others, worths, hangs) ∧ f_X7_readPart (79 : Int32) (nI P) K (nI O) (nI n) (nI pos) (-9 : Int32) rp rs ro tx = some (nI P, K, A, nI p', nI p', rp, rs, B)) := by
  obtain ⟨a, p1, g1, a1, a2, a3, a4, ex1, ey1⟩ := s_fig hn (show pos + 1 ≤ n by omega) hag (m1_lt hP) true
  rw [sT_t] at ex1
  rw [fT_t] at ey1
  obtain ⟨b, p2, g2, b1, b2, b3, b4, ex2, ey2⟩ := s_other hn a3 hag (m1_lt hP) g1 a1
  obtain ⟨w, p3, g3, w1, w2, w3, w4, ex3, ey3⟩ := s_fig hn b3 hag (most := 9) (by decide) g2
  obtain ⟨g, p4, g4, h2, h3, h4, ex4, ey4⟩ := s_hang hn w3 hag (m1_lt (show O ≤ 5 by omega)) g3
  have EX : f_X3_readOath (nI pos) (0 : Int32) (nI n) lt (nI P) (nI O) ones others worths hangs = if sT g4 = (0 : Int32) then (f_X1_addOath (nI a) (nI b) (nI w) (hgI g) (nI O) ones others worths hangs).bind fun r_10 => some (nI p4, sT g4, r_10.1, r_10.2.1, r_10.2.2.1, r_10.2.2.2.1, r_10.2.2.2.2) else some (nI p4, sT g4, nI O, ones, others, worths, hangs) := by
    unfold f_X3_readOath f_X3_hasRoom
    rw [if_pos (show (2 : Int32) ≤ nI P by rw [l_2]; exact nI_le (by omega) (by omega)), if_pos (lt5 hO), if_pos rfl, b_some]
    dsimp only
    rw [if_neg (by decide), b_some, nI_1, ex1, b_some]
    dsimp only
    rw [ex2, b_some]
    dsimp only
    rw [ex3, b_some]
    dsimp only
    rw [ex4, b_some]
  have EY : f_X7_readPart (79 : Int32) (nI P) K (nI O) (nI n) (nI pos) (-9 : Int32) rp rs ro tx = some (nI P, K, nI (O + 1), nI p4, fT g4 p4, rp, rs, upd (upd (upd (upd ro (4 * O) (nI a)) (4 * O + 1) (nI b)) (4 * O + 2) (nI w)) (4 * O + 3) (hgI g)) := by
    have E : f_X7_readSworn (nI P) (nI O) (nI n) (nI (pos + 1)) (-9 : Int32) ro tx = some (nI (O + 1), nI p4, fT g4 p4, upd (upd (upd (upd ro (4 * O) (nI a)) (4 * O + 1) (nI b)) (4 * O + 2) (nI w)) (4 * O + 3) (hgI g)) := by
      rw [sworn_e, ey1, b_some, p4_e, ast_nI (by omega), b_some, ald_nI (by omega), b_some, upd_at]
      dsimp only
      rw [ey2, b_some, nI_1, ast_nI (by omega), b_some]
      dsimp only
      rw [ey3, b_some, l_2, nI_add, ast_nI (by omega), b_some]
      dsimp only
      rw [ey4, b_some, l_3, nI_add, ast_nI (by omega), b_some, nI_1]
    unfold f_X7_readPart
    rw [if_neg (by decide), if_neg (by decide), if_neg (by decide), if_pos rfl, if_neg (nlt5 hO), if_neg (show ¬ nI P ≤ (1 : Int32) by rw [l_1]; exact nI_ge hP1 (by omega)), b_some, nI_1, E, b_some]
  cases g4 with
  | true =>
    left
    obtain ⟨c1, c2, c3⟩ := h4 rfl
    obtain ⟨d1, d2, d3⟩ := w4 c1
    obtain ⟨e1, e2, e3, e4⟩ := b4 d1
    obtain ⟨_, f2, f3⟩ := a4 e1
    rw [i32_9] at d2
    rw [m1_e P (by omega)] at e2 f2
    refine ⟨p4, a, b, w, g, by omega, h3, by omega, by omega, e3, by omega, fun j hj => ?_, ?_, EY⟩
    · have := c2 j hj
      rw [m1_e O (by omega)] at this
      omega
    · rw [EX, if_pos (show sT true = (0 : Int32) from rfl)]
      unfold f_X1_addOath
      rw [put_nI (by omega) (by decide), b_some, put_nI (by omega) (by decide), b_some, put_nI (by omega) (by decide), b_some, put_nI (by omega) (by decide), b_some, b_some, b_some, nI_1]
      rfl
  | false =>
    right
    exact ⟨p4, _, _, h3, by rw [EX, if_neg (by decide)]; rfl, EY⟩
