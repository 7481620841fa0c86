theorem upd_same (N : Nat → Int32) (k : Nat) {x : Int32} (h : N k = x) : upd N k x = N := upd_self N k h
theorem hasO_f {C : Cty} (hC : CM C) {k : Nat} (hk : ¬ k < cO C) (hk2 : k < 2 ^ 31) : rng (nI k).toInt 0 ((cO C : Int) - 1) = false := by
  unfold rng
  rw [nI_toInt hk2]
  exact decide_eq_false (by omega)
theorem hasP_f {C : Cty} (hC : CM C) {k : Nat} (hk : ¬ k < cP C) (hk2 : k < 2 ^ 31) : rng (nI k).toInt 0 ((cP C : Int) - 1) = false := by
  unfold rng
  rw [nI_toInt hk2]
  exact decide_eq_false (by omega)
theorem b2_ff {b : Bool} (h : b = false) : nI (b2 b) = (0 : Int32) := b2_0.mpr h
theorem r_tswear {C : Cty} (hC : CM C) {hangs kind skyAt skyLoud one other worth hangs' : Nat → Int32} (hh : ∀ k, k < cO C → hangs k = hgI (hg C k)) (hh' : ∀ k, k < cO C → hangs' k = hgI (hg C k)) {B : Nat} {a b c d e : Int32} {N : Nat → Int32} (hs : RS C B a b c d e N 9) {k : Nat} (hk2 : k < 2 ^ 31) : ∃ r c1 N1, f_X4_trySwear (nI k) c (nI (cO C)) hangs = some (r, c1) ∧ f_X7_tryThing (2 : Int32) (0 : Int32) (nI k) (nI (cP C)) (nI (cK C)) (nI (cO C)) kind skyAt skyLoud one other worth hangs' N = some (r, N1) ∧ RS C B a b c1 d e N1 9 ∧ LT 1 N N1 := by
  have hO := hC.2.2.1
  obtain ⟨-, v6, -, -, S, hS, rfl⟩ := hs.val hC
  have h32 := lt32 hO hS
  unfold f_X4_trySwear f_X7_tryThing
  rw [if_neg (by decide), if_neg (by decide), if_pos rfl, if_pos rfl, l_15, ald_nI (by omega)]
  simp only [b_some]
  rw [show N 15 = nI S from v6, or0_e S h32, ast_nI (by omega), ast_nI (by omega)]
  simp only [b_some]
  rw [upd_same N 15 v6]
  by_cases hk : k < cO C
  · have eY := Y_canSwear hC hh' (L := 1) (by omega) hS v6 hk
    rw [← l_1] at eY
    rw [X_canSwear hC hh hS hk, b_some, eY, b_some]
    simp only [b2_0]
    by_cases g2 : swn C S k = false
    · rw [if_pos g2, if_pos g2]; exact ⟨_, _, _, rfl, rfl, hs, LT.rfl 1 N⟩
    · rw [if_neg g2, if_neg g2, set_e S h32 k (by omega)]
      obtain ⟨pl, wl, S', W, D, ⟨h1, h2, h3, h4, h5⟩, ⟨hp, q2, q3, q4, q5⟩, hN⟩ := hs
      have hSS : S' = S := by
        have := q3.symm
        rwa [nI_eq (by have := lt32 hO h2; omega) (by omega)] at this
      subst hSS
      refine ⟨_, _, _, rfl, rfl, ⟨pl, wl, _, _, _, ⟨h1, sett_lt _ (by omega) _ h2 k hk, clo_set hC hk h2 h3 (swn_hang (by simpa using g2)), h4, h5⟩, ⟨hp, q2, rfl, q4, q5⟩, hN.set6 hC.1 _⟩, fun j hj => upd_ne _ _ (by omega)⟩
  · have e1 : f_X4_canSwear (nI k) (nI S) (nI (cO C)) hangs = some (0 : Int32) := by
      unfold f_X4_canSwear
      rw [hasOath_e hO, b_some, if_pos (b2_ff (hasO_f hC hk hk2))]
    have e2 : f_X7_canSwear (1 : Int32) (nI k) (nI (cO C)) hangs' N = some (0 : Int32) := by
      unfold f_X7_canSwear
      rw [l_1, ix6 (by omega), ald_nI (by omega), b_some, isOath_e hO, b_some, if_pos (b2_ff (hasO_f hC hk hk2))]
    rw [e1, e2, b_some, b_some, if_pos rfl, if_pos rfl]
    exact ⟨_, _, _, rfl, rfl, hs, LT.rfl 1 N⟩
theorem r_twool {C : Cty} (hC : CM C) {kinds kind skyAt skyLoud one other worth hangs' : Nat → Int32} (hk1 : ∀ p, p < cP C → kinds p = nI (kd C p)) (hk1' : ∀ p, p < cP C → kind p = nI (kd C p)) {B : Nat} {a b c d e : Int32} {N : Nat → Int32} (hs : RS C B a b c d e N 9) {k : Nat} (hk2 : k < 2 ^ 31) : ∃ r b1 N1, f_X4_tryWool (nI k) b (nI (cP C)) kinds = some (r, b1) ∧ f_X7_tryThing (5 : Int32) (0 : Int32) (nI k) (nI (cP C)) (nI (cK C)) (nI (cO C)) kind skyAt skyLoud one other worth hangs' N = some (r, N1) ∧ RS C B a b1 c d e N1 9 ∧ LT 1 N N1 := by
  have hP := hC.1
  have hs0 := hs
  obtain ⟨pl, wl, S, W, D, hm, ⟨hp, rfl, q3, q4, q5⟩, hN⟩ := hs
  have hw := wl32 hC hm
  obtain ⟨h1, h2, h3, h4, h5⟩ := hm
  have v5 : N 14 = nI wl := hN.2.1
  unfold f_X4_tryWool f_X7_tryThing
  rw [if_neg (by decide), if_neg (by decide), if_neg (by decide), if_neg (by decide), if_neg (by decide), if_pos rfl, if_pos rfl, l_14, ald_nI (by omega)]
  simp only [b_some]
  rw [v5, xor0_e wl hw, ast_nI (by omega), ast_nI (by omega)]
  simp only [b_some]
  rw [upd_same N 14 v5]
  by_cases hk : k < cP C
  · rw [X_canTurnWool hC hk1 hk, Y_canWool hC hk1' hk, b_some, b_some]
    simp only [b2_0]
    by_cases g2 : cwl C k = false
    · rw [if_pos g2, if_pos g2]; exact ⟨_, _, _, rfl, rfl, hs0, LT.rfl 1 N⟩
    · rw [if_neg g2, if_neg g2, tog_e wl hw k (by omega)]
      exact ⟨_, _, _, rfl, rfl, ⟨pl, _, _, _, _, ⟨tog_lt _ (by omega) _ h1 k hk, h2, h3, h4, h5⟩, ⟨hp, rfl, q3, q4, q5⟩, hN.set5 hP _⟩, fun j hj => upd_ne _ _ (by omega)⟩
  · have e0 : ∀ v, f_X1_isOf (nI k) v (nI (cP C)) kinds = some (0 : Int32) := fun v => by
      unfold f_X1_isOf
      rw [hasPerson_e hP, b_some, if_pos (b2_ff (hasP_f hC hk hk2))]
    have e1 : f_X1_canTurnWool (nI k) (nI (cP C)) kinds = some (0 : Int32) := by
      unfold f_X1_canTurnWool
      rw [e0, b_some, if_pos rfl, e0, b_some, if_pos rfl]
    have e2 : f_X7_canWool (nI k) (nI (cP C)) kind = some (0 : Int32) := by
      unfold f_X7_canWool
      rw [isPerson_e hP, b_some, if_pos (b2_ff (hasP_f hC hk hk2))]
    rw [e1, e2, b_some, b_some, if_pos rfl, if_pos rfl]
    exact ⟨_, _, _, rfl, rfl, hs0, LT.rfl 1 N⟩
theorem plc_r {v : Nat} (hv : v < 10) : f_X7_isPlace (nI v) = some (1 : Int32) := by
  rw [yPlace_e]
  have : rng (nI v).toInt 0 9 = true := rng_in (j := v) (P := 10) hv (by omega)
  rw [this]; rfl
theorem r_tmove {C : Cty} (hC : CM C) {kind skyAt skyLoud one other worth hangs' : Nat → Int32} {B : Nat} {a b c d e : Int32} {N : Nat → Int32} (hs : RS C B a b c d e N 9) {k v : Nat} (hk2 : k < 2 ^ 31) (hv : v < 10) : ∃ r a1 N1, f_X4_tryMove (nI k) (nI v) a (nI (cP C)) = some (r, a1) ∧ f_X7_tryThing (4 : Int32) (nI k) (nI v) (nI (cP C)) (nI (cK C)) (nI (cO C)) kind skyAt skyLoud one other worth hangs' N = some (r, N1) ∧ RS C B a1 b c d e N1 9 ∧ LT 1 N N1 := by
  have hP := hC.1
  unfold f_X4_tryMove f_X7_tryThing
  rw [if_neg (by decide), if_neg (by decide), if_neg (by decide), if_neg (by decide), if_pos rfl, hasPerson_e hP, isPerson_e hP, b_some, b_some, plc_r hv, b_some, if_neg (show ¬ (1 : Int32) = 0 by decide)]
  by_cases hk : k < cP C
  · have hNk : N (9 + k) = nI 0 ∨ True := Or.inr trivial
    rw [if_neg (by rw [b2_0, rng_in hk (by omega)]; decide), if_neg (by rw [b2_0, rng_in hk (by omega)]; decide)]
    obtain ⟨a1, w1, w2⟩ := r_put hC hs hk hv
    have hv2 : ∃ q, f_X4_placeOf (nI k) a = some (nI q) ∧ N (9 + k) = nI q := by
      obtain ⟨pl, wl, S, W, D, hm, ⟨hp, -, -, -, -⟩, hN⟩ := hs
      exact ⟨pl k, (hp k hk).1, (hN.1 k hk).1⟩
    obtain ⟨q, u1, u2⟩ := hv2
    rw [u1, b_some, l_9, nI_add, ald_nI (by omega), b_some, u2]
    by_cases g : nI q = nI v
    · rw [if_pos g, if_pos g]; exact ⟨_, _, _, rfl, rfl, hs, LT.rfl 1 N⟩
    · rw [if_neg g, if_neg g, w1, b_some, ast_nI (by omega), b_some]
      exact ⟨_, _, _, rfl, rfl, w2, fun j hj => upd_ne _ _ (by omega)⟩
  · rw [if_pos (b2_ff (hasP_f hC hk hk2)), if_pos (b2_ff (hasP_f hC hk hk2))]
    exact ⟨_, _, _, rfl, rfl, hs, LT.rfl 1 N⟩
/-- a told doing, by its three figures -/
theorem r_doing {C : Cty} (hC : CM C) {kinds cp ld ones others worths hangs : Nat → Int32} (hX : CX C kinds cp ld ones others worths hangs) {kind skyAt skyLoud one other worth hangs' : Nat → Int32} (hY : CY C kind skyAt skyLoud one other worth hangs') {B : Nat} (hB : B < 2 ^ 29) {a b c d e : Int32} {N : Nat → Int32} (hs : RS C B a b c d e N 9) {h x y : Nat} (hh : h < 10) (hx : x < 10) (hy : y < 10) : ∃ r t1 t2 t3 t4 t5 N1, f_X6_canHappen (nI h) (nI x) (nI y) (nI (cP C)) (nI (cK C)) (nI (cO C)) a b c d e kinds cp ld ones others worths hangs = some (r, t1, t2, t3, t4, t5) ∧ f_X7_tryThing (nI h) (nI x) (nI y) (nI (cP C)) (nI (cK C)) (nI (cO C)) kind skyAt skyLoud one other worth hangs' N = some (r, N1) ∧ LT 1 N N1 ∧ (¬ r = 0 → RS C (B + 1) t1 t2 t3 t4 t5 N1 9) := by
  have hO := hC.2.2.1
  have hP := hC.1
  have hhX : ∀ k, k < cO C → hangs k = hgI (hg C k) := fun k hk => (hX.2.1 k hk).2.2.2
  have hhY : ∀ k, k < cO C → hangs' k = hgI (hg C k) := fun k hk => (hY.2.1 k hk).2.2.2
  have x0 : (nI x = (0 : Int32)) ↔ x = 0 := nI_eq (a := x) (b := 0) (by omega) (by omega)
  have y0 : (nI y = (0 : Int32)) ↔ y = 0 := nI_eq (a := y) (b := 0) (by omega) (by omega)
  have hmono := hs.mono (B' := B + 1) (by omega)
  obtain ⟨-, v6, -, -, S, hS, hSc⟩ := hs.val hC
  have h32 := lt32 hO hS
  have v5 := (hs.val hC).1
  have hwl : ∃ wl, wl < 32 ∧ b = nI wl := by
    obtain ⟨pl, wl, S', W, D, hm, ⟨-, h2, -, -, -⟩, -⟩ := hs
    exact ⟨wl, wl32 hC hm, h2⟩
  obtain ⟨wl, hwl1, hwl2⟩ := hwl
  rcases (show h = 0 ∨ h = 1 ∨ h = 2 ∨ h = 3 ∨ h = 4 ∨ h = 5 ∨ h = 6 ∨ 7 ≤ h by omega) with rfl | rfl | rfl | rfl | rfl | rfl | rfl | h7
  · -- a day
    rw [← l_0]
    obtain ⟨r, c1, d1, e1, N1, w1, w2, w3, w4⟩ := r_day hC hX hY (L := 1) (by omega) (show B < 2 ^ 30 by omega) hs true
    rw [← b2_t] at w1 w2
    rw [← l_1] at w2
    obtain ⟨c3, d3, e3, M3, k1, k2, k3, k4⟩ := r_days hC hX hY hB hs (show 1 ≤ 30 by omega)
    obtain ⟨c5, d5, e5, M5, j1, j2, j3, j4⟩ := r_days hC hX hY hB hs (show 0 ≤ 30 by omega)
    unfold f_X6_canHappen f_X7_tryThing
    rw [if_neg (by decide), if_neg (by decide), if_pos (show (0 : Int32) = 0 from rfl), if_pos (show (0 : Int32) = 0 from rfl), w2, b_some, l_1, k1, b_some, l_0, j1, b_some, ← l_0, ← l_1]
    simp only [x0, y0]
    by_cases g1 : x = 0
    · rw [if_pos g1, if_pos g1]
      by_cases g2 : y = 0
      · rw [if_pos g2, if_pos g2]
        have hk2 : M3 = N1 := by
          have : f_X7_goOn (nI 1) (nI (cP C)) (nI (cK C)) (nI (cO C)) kind skyAt skyLoud one other worth hangs' N = some N1 := by
            unfold f_X7_goOn
            have key : itr (fun s => b_X7_goOn_2 (nI 1) (nI (cP C)) (nI (cK C)) (nI (cO C)) kind skyAt skyLoud one other worth hangs' s.1 s.2) FU ((0 : Int32), N) = some N1 := by
              refine itr_run (fun i => (nI i, if i = 0 then N else N1)) 1 ?_ ?_ FU (lt_FU (by omega))
              · intro i hi
                have : i = 0 := by omega
                subst this
                show b_X7_goOn_2 (nI 1) (nI (cP C)) (nI (cK C)) (nI (cO C)) kind skyAt skyLoud one other worth hangs' (nI 0) N = _
                unfold b_X7_goOn_2
                rw [if_neg (by decide), w2, b_some]; rfl
              · show b_X7_goOn_2 (nI 1) (nI (cP C)) (nI (cK C)) (nI (cO C)) kind skyAt skyLoud one other worth hangs' (nI 1) N1 = _
                unfold b_X7_goOn_2
                rw [if_pos (by decide)]
            rw [key]; rfl
          rw [this] at k2
          exact (Option.some.inj k2).symm
        rw [hk2] at k3
        exact ⟨_, _, _, _, _, _, _, rfl, rfl, w4, fun _ => k3⟩
      · rw [if_neg g2, if_neg g2]
        exact ⟨_, _, _, _, _, _, _, rfl, rfl, w4, fun h9 => absurd rfl h9⟩
    · rw [if_neg g1, if_neg g1]
      exact ⟨_, _, _, _, _, _, _, rfl, rfl, w4, fun h9 => absurd rfl h9⟩
  · -- a drum
    rw [← l_1]
    obtain ⟨w, r, c1, N1, w1, w2, w3, w4, w5, -⟩ := r_clap hC hX hY (L := 1) (by omega) hs hx hy
    rw [← l_1] at w3
    unfold f_X6_canHappen f_X7_tryThing
    rw [if_pos (show (1 : Int32) = 1 from rfl), if_neg (by decide), if_pos (show (1 : Int32) = 1 from rfl), w1, b_some, w2, b_some, w3, b_some]
    exact ⟨_, _, _, _, _, _, _, rfl, rfl, w5, fun _ => w4.mono (by omega)⟩
  · -- sworn
    rw [← l_2]
    obtain ⟨r, c1, N1, w1, w2, w3, w4⟩ := r_tswear (kind := kind) (skyAt := skyAt) (skyLoud := skyLoud) (one := one) (other := other) (worth := worth) hC hhX hhY hs (k := y) (by omega)
    by_cases g1 : x = 0
    · subst g1
      rw [← l_0, w2]
      unfold f_X6_canHappen
      rw [if_neg (by decide), if_neg (by decide), if_pos (show (0 : Int32) = 0 from rfl), if_neg (by decide), if_neg (by decide), if_pos (show (2 : Int32) = 2 from rfl), w1, b_some]
      exact ⟨_, _, _, _, _, _, _, rfl, rfl, w4, fun _ => w3.mono (by omega)⟩
    · have g2 : ¬ nI x = (0 : Int32) := fun h9 => g1 (x0.mp h9)
      unfold f_X6_canHappen f_X7_tryThing
      rw [if_neg (by decide), if_neg (by decide), if_neg g2, if_neg (by decide), if_neg (by decide), if_pos (show (2 : Int32) = 2 from rfl), if_neg g2, l_15, ald_nI (by omega), b_some, show N 15 = c from v6, hSc, or0_e S h32, ast_nI (by omega), b_some, upd_same N 15 (by rw [← hSc]; exact v6)]
      exact ⟨_, _, _, _, _, _, _, rfl, rfl, LT.rfl 1 N, fun h9 => absurd rfl h9⟩
  · -- let off
    rw [← l_3]
    by_cases g1 : x = 0
    · subst g1
      rw [← l_0]
      unfold f_X6_canHappen f_X7_tryThing f_X4_tryLetOff
      rw [if_neg (by decide), if_neg (by decide), if_pos (show (0 : Int32) = 0 from rfl), if_neg (by decide), if_neg (by decide), if_neg (by decide), if_pos (show (3 : Int32) = 3 from rfl), if_neg (by decide), if_neg (by decide), if_neg (by decide), if_pos (show (3 : Int32) = 3 from rfl), if_pos (show (0 : Int32) = 0 from rfl), isOath_e hO, b_some]
      by_cases hk : y < cO C
      · rw [hSc, X_isSworn hC hS hk, b_some, if_neg (show ¬ nI (b2 (rng (nI y).toInt 0 ((cO C : Int) - 1))) = (0 : Int32) by rw [b2_0, rng_in hk (by omega)]; decide), l_15, ald_nI (by omega), b_some, show N 15 = c from v6, hSc, has_ok S h32 y (by omega), b_some]
        simp only [b2_0]
        by_cases g2 : S.testBit y = false
        · rw [if_pos g2, if_pos g2]; exact ⟨_, _, _, _, _, _, _, rfl, rfl, LT.rfl 1 N, fun h9 => absurd rfl h9⟩
        · have eY := Y_formOn hC hhY (L := 1) (by omega) hk hS (by rw [← hSc]; exact v6)
          rw [← l_1] at eY
          rw [if_neg g2, if_neg g2, X_letOff hC hhX hk hS, b_some, eY, b_some]
          obtain ⟨pl, wl', S', W, D, ⟨h1, h2, h3, h4, h5⟩, ⟨hp, q2, q3, q4, q5⟩, hN⟩ := hs
          exact ⟨_, _, _, _, _, _, _, rfl, rfl, fun j hj => upd_ne _ _ (by omega), fun _ => ⟨pl, wl', _, _, _, ⟨h1, letN_lt hC hk hS, clo_let hC hk hS, h4, by omega⟩, ⟨hp, q2, rfl, q4, q5⟩, hN.set6 hC.1 _⟩⟩
      · have e1 : f_X4_isSworn (nI y) c (nI (cO C)) = some (0 : Int32) := by
          unfold f_X4_isSworn
          rw [hasOath_e hO, b_some, if_pos (b2_ff (hasO_f hC hk (by omega)))]
        rw [e1, b_some, if_pos rfl, if_pos (b2_ff (hasO_f hC hk (by omega)))]
        exact ⟨_, _, _, _, _, _, _, rfl, rfl, LT.rfl 1 N, fun h9 => absurd rfl h9⟩
    · have g2 : ¬ nI x = (0 : Int32) := fun h9 => g1 (x0.mp h9)
      unfold f_X6_canHappen f_X7_tryThing
      rw [if_neg (by decide), if_neg (by decide), if_neg g2, if_neg (by decide), if_neg (by decide), if_neg (by decide), if_pos (show (3 : Int32) = 3 from rfl), if_neg g2]
      exact ⟨_, _, _, _, _, _, _, rfl, rfl, LT.rfl 1 N, fun h9 => absurd rfl h9⟩
  · -- moved
    rw [← l_4]
    obtain ⟨r, a1, N1, w1, w2, w3, w4⟩ := r_tmove (kind := kind) (skyAt := skyAt) (skyLoud := skyLoud) (one := one) (other := other) (worth := worth) (hangs' := hangs') hC hs (k := x) (v := y) (by omega) hy
    rw [w2]
    unfold f_X6_canHappen
    rw [if_neg (by decide), if_pos (show (4 : Int32) = 4 from rfl), w1, b_some]
    exact ⟨_, _, _, _, _, _, _, rfl, rfl, w4, fun _ => w3.mono (by omega)⟩
  · -- wool
    rw [← l_5]
    obtain ⟨r, b1, N1, w1, w2, w3, w4⟩ := r_twool (skyAt := skyAt) (skyLoud := skyLoud) (one := one) (other := other) (worth := worth) (hangs' := hangs') hC hX.1 hY.1 hs (k := y) (by omega)
    by_cases g1 : x = 0
    · subst g1
      rw [← l_0, w2]
      unfold f_X6_canHappen
      rw [if_neg (by decide), if_neg (by decide), if_pos (show (0 : Int32) = 0 from rfl), if_neg (by decide), if_neg (by decide), if_neg (by decide), if_neg (by decide), if_neg (by decide), if_pos (show (5 : Int32) = 5 from rfl), w1, b_some]
      exact ⟨_, _, _, _, _, _, _, rfl, rfl, w4, fun _ => w3.mono (by omega)⟩
    · have g2 : ¬ nI x = (0 : Int32) := fun h9 => g1 (x0.mp h9)
      unfold f_X6_canHappen f_X7_tryThing
      rw [if_neg (by decide), if_neg (by decide), if_neg g2, if_neg (by decide), if_neg (by decide), if_neg (by decide), if_neg (by decide), if_neg (by decide), if_pos (show (5 : Int32) = 5 from rfl), if_neg g2, l_14, ald_nI (by omega), b_some, show N 14 = b from v5, hwl2, xor0_e wl hwl1, ast_nI (by omega), b_some, upd_same N 14 (by rw [← hwl2]; exact v5)]
      exact ⟨_, _, _, _, _, _, _, rfl, rfl, LT.rfl 1 N, fun h9 => absurd rfl h9⟩
  · -- it is sworn now
    rw [← l_6]
    by_cases g1 : x = 0
    · subst g1
      rw [← l_0]
      unfold f_X6_canHappen f_X7_tryThing
      rw [if_neg (by decide), if_neg (by decide), if_pos (show (0 : Int32) = 0 from rfl), if_neg (by decide), if_neg (by decide), if_neg (by decide), if_neg (by decide), if_neg (by decide), if_neg (by decide), if_pos (show (6 : Int32) = 6 from rfl), if_neg (by decide), if_neg (by decide), if_neg (by decide), if_neg (by decide), if_neg (by decide), if_neg (by decide), if_pos (show (6 : Int32) = 6 from rfl), if_pos (show (0 : Int32) = 0 from rfl), isOath_e hO, b_some]
      by_cases hk : y < cO C
      · rw [hSc, X_isSworn hC hS hk, b_some, if_neg (show ¬ nI (b2 (rng (nI y).toInt 0 ((cO C : Int) - 1))) = (0 : Int32) by rw [b2_0, rng_in hk (by omega)]; decide), l_15, ald_nI (by omega), b_some, show N 15 = c from v6, hSc, has_ok S h32 y (by omega), b_some]
        simp only [b2_0]
        by_cases g2 : S.testBit y = false
        · rw [if_pos g2, g2]; exact ⟨_, _, _, _, _, _, _, rfl, rfl, LT.rfl 1 N, fun h9 => absurd rfl h9⟩
        · rw [if_neg g2, show S.testBit y = true by simpa using g2]
          refine ⟨_, _, _, _, _, _, _, rfl, rfl, LT.rfl 1 N, fun _ => ?_⟩
          rw [← hSc]; exact hmono
      · have e1 : f_X4_isSworn (nI y) c (nI (cO C)) = some (0 : Int32) := by
          unfold f_X4_isSworn
          rw [hasOath_e hO, b_some, if_pos (b2_ff (hasO_f hC hk (by omega)))]
        rw [e1, b_some, if_pos (b2_ff (hasO_f hC hk (by omega)))]
        exact ⟨_, _, _, _, _, _, _, rfl, rfl, LT.rfl 1 N, fun h9 => absurd rfl h9⟩
    · have g2 : ¬ nI x = (0 : Int32) := fun h9 => g1 (x0.mp h9)
      unfold f_X6_canHappen f_X7_tryThing
      rw [if_neg (by decide), if_neg (by decide), if_neg g2, if_neg (by decide), if_neg (by decide), if_neg (by decide), if_neg (by decide), if_neg (by decide), if_neg (by decide), if_pos (show (6 : Int32) = 6 from rfl), if_neg g2]
      exact ⟨_, _, _, _, _, _, _, rfl, rfl, LT.rfl 1 N, fun h9 => absurd rfl h9⟩
  · -- no such doing
    have n : ∀ j, j < 7 → ¬ nI h = nI j := fun j hj h9 => by rw [nI_eq (by omega) (by omega)] at h9; omega
    have n0 : ¬ nI h = (0 : Int32) := by rw [l_0]; exact n 0 (by omega)
    have n1 : ¬ nI h = (1 : Int32) := by rw [l_1]; exact n 1 (by omega)
    have n2 : ¬ nI h = (2 : Int32) := by rw [l_2]; exact n 2 (by omega)
    have n3 : ¬ nI h = (3 : Int32) := by rw [l_3]; exact n 3 (by omega)
    have n4 : ¬ nI h = (4 : Int32) := by rw [l_4]; exact n 4 (by omega)
    have n5 : ¬ nI h = (5 : Int32) := by rw [l_5]; exact n 5 (by omega)
    have n6 : ¬ nI h = (6 : Int32) := by rw [l_6]; exact n 6 (by omega)
    unfold f_X6_canHappen f_X7_tryThing
    simp only [if_neg n0, if_neg n1, if_neg n2, if_neg n3, if_neg n4, if_neg n5, if_neg n6, ite_self]
    exact ⟨_, _, _, _, _, _, _, rfl, rfl, LT.rfl 1 N, fun h9 => absurd rfl h9⟩
