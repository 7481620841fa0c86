theorem l_0 : (0 : Int32) = nI 0 := by decide
theorem l_1 : (1 : Int32) = nI 1 := by decide
theorem l_2 : (2 : Int32) = nI 2 := by decide
theorem l_3 : (3 : Int32) = nI 3 := by decide
theorem l_4 : (4 : Int32) = nI 4 := by decide
theorem l_5 : (5 : Int32) = nI 5 := by decide
theorem l_6 : (6 : Int32) = nI 6 := by decide
theorem l_7 : (7 : Int32) = nI 7 := by decide
theorem l_8 : (8 : Int32) = nI 8 := by decide
theorem l_9 : (9 : Int32) = nI 9 := by decide
theorem l_10 : (10 : Int32) = nI 10 := by decide
theorem l_11 : (11 : Int32) = nI 11 := by decide
theorem l_12 : (12 : Int32) = nI 12 := by decide
theorem l_13 : (13 : Int32) = nI 13 := by decide
theorem l_14 : (14 : Int32) = nI 14 := by decide
theorem l_15 : (15 : Int32) = nI 15 := by decide
theorem l_16 : (16 : Int32) = nI 16 := by decide
theorem l_17 : (17 : Int32) = nI 17 := by decide
theorem l_18 : (18 : Int32) = nI 18 := by decide
theorem l_19 : (19 : Int32) = nI 19 := by decide
theorem l_20 : (20 : Int32) = nI 20 := by decide
theorem l_21 : (21 : Int32) = nI 21 := by decide
theorem l_22 : (22 : Int32) = nI 22 := by decide
theorem l_23 : (23 : Int32) = nI 23 := by decide
theorem l_24 : (24 : Int32) = nI 24 := by decide
theorem l_25 : (25 : Int32) = nI 25 := by decide
theorem l_26 : (26 : Int32) = nI 26 := by decide
theorem l_27 : (27 : Int32) = nI 27 := by decide
theorem l_28 : (28 : Int32) = nI 28 := by decide
theorem l_29 : (29 : Int32) = nI 29 := by decide
theorem l_30 : (30 : Int32) = nI 30 := by decide
theorem l_31 : (31 : Int32) = nI 31 := by decide
theorem l_40 : (40 : Int32) = nI 40 := by decide
theorem l_60 : (60 : Int32) = nI 60 := by decide
theorem l_100 : (100 : Int32) = nI 100 := by decide
theorem l_9999 : (9999 : Int32) = nI 9999 := by decide
theorem swn_hang {C : Cty} {S k : Nat} (h : swn C S k = true) : ∀ j, hg C k = some j → S.testBit j = true := by
  intro j hj
  unfold swn at h
  rw [hj] at h
  simp only [Bool.and_eq_true] at h
  exact h.2
theorem p_swear {C : Cty} (hC : CM C) {hangs hangs' : Nat → Int32} (hh : ∀ k, k < cO C → hangs k = hgI (hg C k)) (hh' : ∀ k, k < cO C → hangs' k = hgI (hg C k)) {B : Nat} {a b c d e : Int32} {N : Nat → Int32} (hs : RS C B a b c d e N 0) {len acts next : Int32} {row mrow : Nat → Int32} (ha : RA C B len row acts next mrow) (v1 : Int32) : ∃ r c1 l1 w1 k1 x1 N1 m1, f_X6_swear v1 (nI (cO C)) a b c d e len hangs row = some (r, c1, l1, w1) ∧ f_X7_swear v1 (nI (cO C)) acts next hangs' N mrow = some (r, k1, x1, N1, m1) ∧ RS C B a b c1 d e N1 0 ∧ RA C B l1 w1 k1 x1 m1 := by
  have hO := hC.2.2.1
  obtain ⟨l1, w1, k1, x1, m1, ep, ek, hra⟩ := acts_push hC ha hs
  unfold f_X6_swear f_X7_swear
  rw [hasOath_e hO, isOath_e hO, b_some, b_some]
  simp only [b2_0]
  by_cases g1 : rng v1.toInt 0 ((cO C : Int) - 1) = false
  · rw [if_pos g1, if_pos g1]; exact ⟨_, _, _, _, _, _, _, _, rfl, rfl, hs, ha⟩
  rw [if_neg g1, if_neg g1]
  obtain ⟨k, hk, rfl⟩ := rng_nI (by simpa using g1)
  have hs0 := hs
  obtain ⟨pl, wl, S, W, D, hm, ⟨hp, rfl, rfl, rfl, rfl⟩, hN⟩ := hs
  obtain ⟨h1, h2, h3, h4, h5⟩ := hm
  have h32 := lt32 hO h2
  have eY := Y_canSwear hC hh' (L := 0) (by omega) h2 hN.2.2.1 hk
  rw [← l_0] at eY
  rw [X_canSwear hC hh h2 hk, b_some, eY, b_some]
  simp only [b2_0]
  by_cases g2 : swn C S k = false
  · rw [if_pos g2, if_pos g2]; exact ⟨_, _, _, _, _, _, _, _, rfl, rfl, hs0, ha⟩
  rw [if_neg g2, if_neg g2, ep, b_some, ek, b_some]
  have hsl := sett_lt _ (by omega) _ h2 k hk
  rw [set_e _ h32 k (by omega), b_some, pop_bit _ (lt32 hO hsl), b_some, l_6, ald_nI (by omega), b_some, show N 6 = nI S from hN.2.2.1, set_e _ h32 k (by omega), ast_nI (by omega), b_some, ald_nI (by omega), b_some, upd_at, pop_ones _ (lt32 hO hsl), b_some]
  exact ⟨_, _, _, _, _, _, _, _, rfl, rfl, ⟨pl, wl, _, _, _, ⟨h1, hsl, clo_set hC hk h2 h3 (swn_hang (by simpa using g2)), h4, h5⟩, ⟨hp, rfl, rfl, rfl, rfl⟩, hN.set6 hC.1 _⟩, hra⟩
theorem p_form {C : Cty} (hC : CM C) {hangs hangs' : Nat → Int32} (hh : ∀ k, k < cO C → hangs k = hgI (hg C k)) (hh' : ∀ k, k < cO C → hangs' k = hgI (hg C k)) {B : Nat} {a b c d e : Int32} {N : Nat → Int32} (hs : RS C B a b c d e N 0) {len acts next : Int32} {row mrow : Nat → Int32} (ha : RA C B len row acts next mrow) (v1 : Int32) : ∃ r c1 l1 w1 k1 x1 N1 m1, f_X6_form v1 (nI (cO C)) a b c d e len hangs row = some (r, c1, l1, w1) ∧ f_X7_form v1 (nI (cO C)) acts next hangs' N mrow = some (r, k1, x1, N1, m1) ∧ RS C B a b c1 d e N1 0 ∧ RA C B l1 w1 k1 x1 m1 := by
  have hO := hC.2.2.1
  obtain ⟨l1, w1, k1, x1, m1, ep, ek, hra⟩ := acts_push hC ha hs
  unfold f_X6_form f_X7_form
  rw [hasOath_e hO, isOath_e hO, b_some, b_some]
  simp only [b2_0]
  by_cases g1 : rng v1.toInt 0 ((cO C : Int) - 1) = false
  · rw [if_pos g1, if_pos g1]; exact ⟨_, _, _, _, _, _, _, _, rfl, rfl, hs, ha⟩
  rw [if_neg g1, if_neg g1]
  obtain ⟨k, hk, rfl⟩ := rng_nI (by simpa using g1)
  have hs0 := hs
  obtain ⟨pl, wl, S, W, D, hm, ⟨hp, rfl, rfl, rfl, rfl⟩, hN⟩ := hs
  obtain ⟨h1, h2, h3, h4, h5⟩ := hm
  have h32 := lt32 hO h2
  rw [X_isSworn hC h2 hk, b_some, l_6, ald_nI (by omega), b_some, show N 6 = nI S from hN.2.2.1, has_ok _ h32 k (by omega), b_some]
  simp only [b2_0]
  by_cases g2 : S.testBit k = false
  · rw [if_pos g2, if_pos g2]; exact ⟨_, _, _, _, _, _, _, _, rfl, rfl, hs0, ha⟩
  have eY := Y_formOn hC hh' (L := 0) (by omega) hk h2 hN.2.2.1
  rw [← l_0] at eY
  rw [if_neg g2, if_neg g2, ep, b_some, ek, b_some, X_letOff hC hh hk h2, b_some, eY, b_some]
  exact ⟨_, _, _, _, _, _, _, _, rfl, rfl, ⟨pl, wl, _, _, _, ⟨h1, letN_lt hC hk h2, clo_let hC hk h2, h4, h5⟩, ⟨hp, rfl, rfl, rfl, rfl⟩, hN.set6 hC.1 _⟩, hra⟩
theorem p_move {C : Cty} (hC : CM C) {B : Nat} {a b c d e : Int32} {N : Nat → Int32} (hs : RS C B a b c d e N 0) {len acts next : Int32} {row mrow : Nat → Int32} (ha : RA C B len row acts next mrow) (v1 v2 : Int32) : ∃ r a1 l1 w1 k1 x1 N1 m1, f_X6_move v1 v2 (nI (cP C)) a b c d e len row = some (r, a1, l1, w1) ∧ f_X7_move v1 v2 (nI (cP C)) acts next N mrow = some (r, k1, x1, N1, m1) ∧ RS C B a1 b c d e N1 0 ∧ RA C B l1 w1 k1 x1 m1 := by
  have hP := hC.1
  obtain ⟨l1, w1, k1, x1, m1, ep, ek, hra⟩ := acts_push hC ha hs
  unfold f_X6_move f_X7_move
  rw [hasPerson_e hP, isPerson_e hP, b_some, b_some]
  simp only [b2_0, xPlace_e, yPlace_e, b_some]
  by_cases g1 : rng v1.toInt 0 ((cP C : Int) - 1) = false
  · rw [if_pos g1, if_pos g1]; exact ⟨_, _, _, _, _, _, _, _, rfl, rfl, hs, ha⟩
  rw [if_neg g1, if_neg g1]
  by_cases g2 : rng v2.toInt 0 9 = false
  · rw [if_pos g2, if_pos g2]; exact ⟨_, _, _, _, _, _, _, _, rfl, rfl, hs, ha⟩
  rw [if_neg g2, if_neg g2]
  obtain ⟨k, hk, rfl⟩ := rng_nI (by simpa using g1)
  obtain ⟨v, hv, rfl⟩ := rng_k (k := 9) (by simpa using g2)
  have hs0 := hs
  obtain ⟨pl, wl, S, W, D, hm, ⟨hp, rfl, rfl, rfl, rfl⟩, hN⟩ := hs
  obtain ⟨h1, h2, h3, h4, h5⟩ := hm
  have hNk : N k = nI (pl k) := by have := (hN.1 k hk).1; rwa [Nat.zero_add] at this
  rw [(hp k hk).1, b_some, ald_nI (by omega), b_some, hNk]
  by_cases g3 : nI (pl k) = nI v
  · rw [if_pos g3, if_pos g3]; exact ⟨_, _, _, _, _, _, _, _, rfl, rfl, hs0, ha⟩
  obtain ⟨pk', e1, e2⟩ := X_putAt hP hp hk hv
  rw [if_neg g3, if_neg g3, ep, b_some, ek, b_some, e1, b_some]
  simp only [ald_nI (f := N) (show k < 18 by omega), b_some, ast_nI (f := N) (show k < 18 by omega), hNk]
  refine ⟨_, _, _, _, _, _, _, _, rfl, rfl, ⟨setP pl k v, wl, _, _, _, ⟨h1, h2, h3, h4, h5⟩, ⟨e2, rfl, rfl, rfl, rfl⟩, ?_⟩, hra⟩
  have := hN.setp hP hk hv
  rwa [Nat.zero_add] at this
theorem X_isOf {C : Cty} (hC : CM C) {kinds : Nat → Int32} (hk : ∀ p, p < cP C → kinds p = nI (kd C p)) {p : Nat} (hp : p < cP C) (v : Int32) : f_X1_isOf (nI p) v (nI (cP C)) kinds = some (nI (b2 (decide (nI (kd C p) = v)))) := by
  have hP := hC.1
  unfold f_X1_isOf
  rw [hasPerson_e hP, b_some, if_neg (by rw [b2_0, rng_in hp (by omega)]; decide), at_nI (by omega) (by decide), b_some, hk p hp]
  by_cases h : nI (kd C p) = v
  · rw [if_pos h, decide_eq_true h]; rfl
  · rw [if_neg h, decide_eq_false h]; rfl
def cwl (C : Cty) (p : Nat) : Bool := decide (kd C p ≠ 1) && decide (kd C p ≠ 2)
theorem X_canTurnWool {C : Cty} (hC : CM C) {kinds : Nat → Int32} (hk : ∀ p, p < cP C → kinds p = nI (kd C p)) {p : Nat} (hp : p < cP C) : f_X1_canTurnWool (nI p) (nI (cP C)) kinds = some (nI (b2 (cwl C p))) := by
  have h4 := hC.2.2.2.1 p hp
  unfold f_X1_canTurnWool cwl
  rw [X_isOf hC hk hp, b_some, X_isOf hC hk hp, b_some]
  simp only [b2_0, kd_0 h4, kd_3 h4, decide_eq_false_iff_not]
  rcases (show kd C p = 0 ∨ kd C p = 1 ∨ kd C p = 2 ∨ kd C p = 3 by omega) with h | h | h | h <;> rw [h] <;> rfl
theorem Y_canWool {C : Cty} (hC : CM C) {kind : Nat → Int32} (hk : ∀ p, p < cP C → kind p = nI (kd C p)) {p : Nat} (hp : p < cP C) : f_X7_canWool (nI p) (nI (cP C)) kind = some (nI (b2 (cwl C p))) := by
  have hP := hC.1
  have h4 := hC.2.2.2.1 p hp
  unfold f_X7_canWool cwl
  rw [isPerson_e hP, b_some, if_neg (by rw [b2_0, rng_in hp (by omega)]; decide), ald_nI (by omega), b_some, b_some, hk p hp]
  simp only [kd_1 h4, kd_2 h4]
  rcases (show kd C p = 0 ∨ kd C p = 1 ∨ kd C p = 2 ∨ kd C p = 3 by omega) with h | h | h | h <;> rw [h] <;> rfl
theorem p_wool {C : Cty} (hC : CM C) {kinds kind : Nat → Int32} (hk : ∀ p, p < cP C → kinds p = nI (kd C p)) (hk' : ∀ p, p < cP C → kind p = nI (kd C p)) {B : Nat} {a b c d e : Int32} {N : Nat → Int32} (hs : RS C B a b c d e N 0) {len acts next : Int32} {row mrow : Nat → Int32} (ha : RA C B len row acts next mrow) (v1 : Int32) : ∃ r b1 l1 w1 k1 x1 N1 m1, f_X6_wool v1 (nI (cP C)) a b c d e len kinds row = some (r, b1, l1, w1) ∧ f_X7_wool v1 (nI (cP C)) acts next kind N mrow = some (r, k1, x1, N1, m1) ∧ RS C B a b1 c d e N1 0 ∧ RA C B l1 w1 k1 x1 m1 := by
  have hP := hC.1
  obtain ⟨l1, w1, k1, x1, m1, ep, ek, hra⟩ := acts_push hC ha hs
  unfold f_X6_wool f_X7_wool
  rw [hasPerson_e hP, isPerson_e hP, b_some, b_some]
  simp only [b2_0]
  by_cases g1 : rng v1.toInt 0 ((cP C : Int) - 1) = false
  · rw [if_pos g1, if_pos g1]; exact ⟨_, _, _, _, _, _, _, _, rfl, rfl, hs, ha⟩
  rw [if_neg g1, if_neg g1]
  obtain ⟨k, hk1, rfl⟩ := rng_nI (by simpa using g1)
  rw [X_canTurnWool hC hk hk1, Y_canWool hC hk' hk1, b_some, b_some]
  simp only [b2_0]
  by_cases g2 : cwl C k = false
  · rw [if_pos g2, if_pos g2]; exact ⟨_, _, _, _, _, _, _, _, rfl, rfl, hs, ha⟩
  have hs0 := hs
  obtain ⟨pl, wl, S, W, D, hm, ⟨hp, rfl, rfl, rfl, rfl⟩, hN⟩ := hs
  have hw := wl32 hC hm
  obtain ⟨h1, h2, h3, h4, h5⟩ := hm
  have htl := tog_lt _ (by omega) _ h1 k hk1
  rw [if_neg g2, if_neg g2, ep, b_some, ek, b_some]
  rw [tog_e _ hw k (by omega), b_some, bit_ok (lt32 hP htl) (by omega), b_some, l_5, ald_nI (by omega), b_some, show N 5 = nI wl from hN.2.1, tog_e _ hw k (by omega), ast_nI (by omega), b_some, ald_nI (by omega), b_some, upd_at, bit_e _ (lt32 hP htl) k (by omega)]
  exact ⟨_, _, _, _, _, _, _, _, rfl, rfl, ⟨pl, _, _, _, _, ⟨htl, h2, h3, h4, h5⟩, ⟨hp, rfl, rfl, rfl, rfl⟩, hN.set5 hP _⟩, hra⟩
