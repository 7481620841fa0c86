/-! ===== a text's parts in a row ===== -/
abbrev TX : Type := Int32 × Int32 × Int32 × Int32 × Int32 × (Nat → Int32) × (Nat → Int32) × (Nat → Int32) × (Nat → Int32) × (Nat → Int32) × (Nat → Int32) × (Nat → Int32) × (Nat → Int32)
abbrev TY : Type := Int32 × Int32 × Int32 × Int32 × Int32 × (Nat → Int32) × (Nat → Int32) × (Nat → Int32)
def RC (X : TX) (Y : TY) : Prop := ∃ (C : Cty) (pl : Nat → Nat), X.2.2.1 = nI (cP C) ∧ X.2.2.2.1 = nI (cK C) ∧ X.2.2.2.2.1 = nI (cO C) ∧ Y.1 = nI (cP C) ∧ Y.2.1 = nI (cK C) ∧ Y.2.2.1 = nI (cO C) ∧ RD C pl X.2.2.2.2.2.1 X.2.2.2.2.2.2.1 X.2.2.2.2.2.2.2.1 X.2.2.2.2.2.2.2.2.1 X.2.2.2.2.2.2.2.2.2.1 X.2.2.2.2.2.2.2.2.2.2.1 X.2.2.2.2.2.2.2.2.2.2.2.1 X.2.2.2.2.2.2.2.2.2.2.2.2 Y.2.2.2.2.2.1 Y.2.2.2.2.2.2.1 Y.2.2.2.2.2.2.2
def RP (n lo : Nat) (X : TX) (Y : TY) : Prop := ∃ (p' : Nat) (go : Bool), p' ≤ n ∧ X.1 = nI p' ∧ X.2.1 = sT go ∧ Y.2.2.2.1 = nI p' ∧ Y.2.2.2.2.1 = fT go p' ∧ (go = true → lo ≤ p' ∧ RC X Y)
theorem X_room5 : f_X3_hasRoom (nI 5) (0 : Int32) = some ((0 : Int32), (1 : Int32)) := by decide
theorem r_part {n pos : Nat} (hn : n ≤ 60) (hpos : pos < n) {lt tx : Nat → Int32} (hag : ∀ j, j < n → lt j = tx j) {C : Cty} {pl0 : Nat → Nat} {pc kc cp ld ones others worths hangs rp rs ro : Nat → Int32} (h : RD C pl0 pc kc cp ld ones others worths hangs rp rs ro) : ∃ (X : TX) (Y : TY), f_X3_readPart (nI pos) (0 : Int32) (nI n) lt (nI (cP C)) (nI (cK C)) (nI (cO C)) pc kc cp ld ones others worths hangs = some X ∧ f_X7_readPart (tx pos) (nI (cP C)) (nI (cK C)) (nI (cO C)) (nI n) (nI pos) (-9 : Int32) rp rs ro tx = some Y ∧ RP n (pos + 1) X Y := by
  have hC := h.1
  obtain ⟨m1, m2, m3, _⟩ := hC
  rw [← hag pos hpos]
  unfold f_X3_readPart
  rw [X_letter hn hpos, b_some]
  by_cases e67 : lt pos = (67 : Int32)
  · rw [if_pos e67, e67]
    by_cases hK : cK C < 5
    · rcases r_C hn hpos hag hK (nI (cP C)) (nI (cO C)) cp ld rp rs ro with ⟨p', v, w, h1, h2, h3, h4, ex, ey⟩ | ⟨p', A, B, h1, ex, ey⟩
      · rw [ex, ey, b_some]
        exact ⟨_, _, rfl, rfl, p', true, h2, rfl, rfl, rfl, rfl, fun _ => ⟨h1, addK C (some (v, w)), _, rfl, rfl, rfl, rfl, rfl, rfl, RD_addC h hK h3 h4⟩⟩
      · rw [ex, ey, b_some]
        exact ⟨_, _, rfl, rfl, p', false, h1, rfl, rfl, rfl, rfl, (fun h => nomatch h)⟩
    · have e5 : cK C = 5 := by omega
      unfold f_X3_readClap f_X7_readPart
      rw [e5, X_room5, b_some, if_pos rfl, b_some, if_neg (by decide), if_neg (by decide), if_pos rfl, if_pos (by decide), if_neg (by decide)]
      exact ⟨_, _, rfl, rfl, pos, false, by omega, rfl, rfl, rfl, rfl, (fun h => nomatch h)⟩
  rw [if_neg e67]
  by_cases e79 : lt pos = (79 : Int32)
  · rw [if_pos e79, e79]
    by_cases hO : cO C < 5
    · by_cases hP : 1 < cP C
      · rcases r_O hn hpos hag hP m1 hO (nI (cK C)) ones others worths hangs rp rs ro with ⟨p', a, b, w, g, h1, h2, h3, h4, h5, h6, h7, ex, ey⟩ | ⟨p', A, B, h1, ex, ey⟩
        · rw [ex, ey, b_some]
          exact ⟨_, _, rfl, rfl, p', true, h2, rfl, rfl, rfl, rfl, fun _ => ⟨h1, addO C a b w g, _, rfl, rfl, rfl, rfl, rfl, rfl, RD_addO h hO h3 h4 h5 h6 h7⟩⟩
        · rw [ex, ey, b_some]
          exact ⟨_, _, rfl, rfl, p', false, h1, rfl, rfl, rfl, rfl, (fun h => nomatch h)⟩
      · unfold f_X3_readOath f_X7_readPart
        rw [if_neg (show ¬ (2 : Int32) ≤ nI (cP C) by rw [l_2]; exact nI_ge (by omega) (by omega)), b_some, if_neg (by decide), if_neg (by decide), if_neg (by decide), if_pos rfl, if_neg (nlt5 hO), if_pos (show nI (cP C) ≤ (1 : Int32) by rw [l_1]; exact nI_le (by omega) (by omega))]
        exact ⟨_, _, rfl, rfl, pos, false, by omega, rfl, rfl, rfl, rfl, (fun h => nomatch h)⟩
    · have e5 : cO C = 5 := by omega
      unfold f_X3_readOath f_X7_readPart
      rw [e5, if_neg (show ¬ (79 : Int32) = 80 by decide), if_neg (show ¬ (79 : Int32) = 81 by decide), if_neg (show ¬ (79 : Int32) = 67 by decide), if_pos (show (79 : Int32) = 79 from rfl), if_pos (show (5 : Int32) ≤ nI 5 by decide)]
      by_cases hP : 1 < cP C
      · rw [if_pos (show (2 : Int32) ≤ nI (cP C) by rw [l_2]; exact nI_le (by omega) (by omega)), X_room5, b_some, if_pos rfl, b_some]
        exact ⟨_, _, rfl, rfl, pos, false, by omega, rfl, rfl, rfl, rfl, (fun h => nomatch h)⟩
      · rw [if_neg (show ¬ (2 : Int32) ≤ nI (cP C) by rw [l_2]; exact nI_ge (by omega) (by omega)), b_some]
        exact ⟨_, _, rfl, rfl, pos, false, by omega, rfl, rfl, rfl, rfl, (fun h => nomatch h)⟩
  rw [if_neg e79]
  by_cases e80 : lt pos = (80 : Int32)
  · rw [if_pos e80, e80]
    by_cases hP : cP C < 5
    · rcases r_P hn hpos hag hP (nI (cK C)) (nI (cO C)) pc kc rp rs ro with ⟨p', v, w, h1, h2, h3, h4, ex, ey⟩ | ⟨p', A, B, h1, ex, ey⟩
      · rw [ex, ey, b_some]
        exact ⟨_, _, rfl, rfl, p', true, h2, rfl, rfl, rfl, rfl, fun _ => ⟨h1, addP C w, _, rfl, rfl, rfl, rfl, rfl, rfl, RD_addP h hP h3 h4⟩⟩
      · rw [ex, ey, b_some]
        exact ⟨_, _, rfl, rfl, p', false, h1, rfl, rfl, rfl, rfl, (fun h => nomatch h)⟩
    · have e5 : cP C = 5 := by omega
      unfold f_X3_readPerson f_X7_readPart
      rw [e5, X_room5, b_some, if_pos rfl, b_some, if_pos rfl, if_pos (by decide), if_neg (by decide), if_neg (by decide), if_neg (by decide)]
      exact ⟨_, _, rfl, rfl, pos, false, by omega, rfl, rfl, rfl, rfl, (fun h => nomatch h)⟩
  rw [if_neg e80]
  by_cases e81 : lt pos = (81 : Int32)
  · rw [if_pos e81, e81]
    by_cases hK : cK C < 5
    · unfold f_X3_hasRoom f_X7_readPart f_X1_addSky
      rw [if_pos (lt5 hK), if_pos rfl, b_some]
      dsimp only
      rw [if_neg (by decide), if_neg (show ¬ (81 : Int32) = 80 by decide), if_pos (show (81 : Int32) = 81 from rfl), if_neg (nlt5 hK), b_some, b_some, put_nI (by omega) (by decide), b_some, put_nI (by omega) (by decide), b_some, b_some, b_some, nI_1, p2_e, ast_nI (by omega), b_some, b_some, nI_1]
      exact ⟨_, _, rfl, rfl, pos + 1, true, by omega, rfl, rfl, rfl, rfl, fun _ => ⟨Nat.le_refl _, addK C none, _, rfl, rfl, rfl, rfl, rfl, rfl, RD_addQ h hK⟩⟩
    · have e5 : cK C = 5 := by omega
      unfold f_X7_readPart
      rw [e5, X_room5, b_some, if_pos rfl, if_neg (by decide), if_pos rfl, if_pos (by decide), if_neg (by decide), if_neg (by decide)]
      exact ⟨_, _, rfl, rfl, pos, false, by omega, rfl, rfl, rfl, rfl, (fun h => nomatch h)⟩
  rw [if_neg e81]
  unfold f_X7_readPart
  rw [if_neg e80, if_neg e81, if_neg e67, if_neg e79]
  exact ⟨_, _, rfl, rfl, pos, false, by omega, rfl, rfl, rfl, rfl, (fun h => nomatch h)⟩

theorem r_loop {n : Nat} (hn : n ≤ 60) {lt tx : Nat → Int32} (hag : ∀ j, j < n → lt j = tx j) {X : TX} {Y : TY} (h : RP n 1 X Y) : ∃ X' Y', itr (fun s => b_X3_readInto_22 (nI n) lt s.1 s.2.1 s.2.2.1 s.2.2.2.1 s.2.2.2.2.1 s.2.2.2.2.2.1 s.2.2.2.2.2.2.1 s.2.2.2.2.2.2.2.1 s.2.2.2.2.2.2.2.2.1 s.2.2.2.2.2.2.2.2.2.1 s.2.2.2.2.2.2.2.2.2.2.1 s.2.2.2.2.2.2.2.2.2.2.2.1 s.2.2.2.2.2.2.2.2.2.2.2.2.1 s.2.2.2.2.2.2.2.2.2.2.2.2.2) FU ((0 : Int32), X) = some X' ∧ itr (fun s => b_X7_readText_51 (nI n) tx s.1 s.2.1 s.2.2.1 s.2.2.2.1 s.2.2.2.2.1 s.2.2.2.2.2.1 s.2.2.2.2.2.2.1 s.2.2.2.2.2.2.2) FU Y = some Y' ∧ RP n 0 X' Y' := by
  refine itr_two (fun i (s1 : Int32 × TX) (s2 : TY) => s1.1 = nI i ∧ RP n (i + 1) s1.2 s2) 60 (fun r1 r2 => RP n 0 r1 r2) ?_ FU 0 ((0 : Int32), X) Y (by omega) (by decide) ⟨rfl, h⟩
  rintro i ⟨c, a1, a2, a3, a4, a5, a6, a7, a8, a9, a10, a11, a12, a13⟩ ⟨b1, b2, b3, b4, b5, b6, b7, b8⟩ hi ⟨hc, p', go, h1, h2, h3, h4, h5, h6⟩
  dsimp only at hc h2 h3 h4 h5 h6 ⊢
  subst hc h2 h3 h4 h5
  cases go with
  | false =>
    right
    refine ⟨(nI p', sT false, a3, a4, a5, a6, a7, a8, a9, a10, a11, a12, a13), (b1, b2, b3, nI p', fT false p', b6, b7, b8), ?_, ?_, p', false, h1, rfl, rfl, rfl, rfl, (fun h => nomatch h)⟩
    · unfold b_X3_readInto_22
      by_cases h60 : (60 : Int32) ≤ nI i
      · rw [if_pos h60]
      · rw [if_neg h60, if_neg (by decide)]
    · unfold b_X7_readText_51
      rw [if_neg (show ¬ fT false p' = (-9 : Int32) from neg9c p' (by omega))]
  | true =>
    obtain ⟨g1, C, pl, g2, g3, g4, g5, g6, g7, g8⟩ := h6 rfl
    dsimp only at g2 g3 g4 g5 g6 g7 g8
    subst g2 g3 g4 g5 g6 g7
    by_cases hp : p' < n
    · left
      obtain ⟨X1, Y1, ex, ey, hr⟩ := r_part hn hp hag g8
      refine ⟨by omega, (nI (i + 1), X1), Y1, ?_, ?_, rfl, ?_⟩
      · unfold b_X3_readInto_22
        rw [if_neg (show ¬ (60 : Int32) ≤ nI i by rw [l_60]; exact nI_ge (by omega) (by omega)), if_pos (show sT true = (0 : Int32) from rfl), if_neg (nI_ge hp (by omega)), sT_t, ex, b_some, nI_1]
      · unfold b_X7_readText_51
        rw [if_pos (fT_t p'), if_neg (nI_ge hp (by omega)), ald_nI (by omega), b_some, fT_t, ey, b_some]
      · obtain ⟨q, go, k1, k2, k3, k4, k5, k6⟩ := hr
        exact ⟨q, go, k1, k2, k3, k4, k5, fun h => ⟨by have := (k6 h).1; omega, (k6 h).2⟩⟩
    · right
      refine ⟨(nI p', sT true, nI (cP C), nI (cK C), nI (cO C), a6, a7, a8, a9, a10, a11, a12, a13), (nI (cP C), nI (cK C), nI (cO C), nI p', fT true p', b6, b7, b8), ?_, ?_, p', true, h1, rfl, rfl, rfl, rfl, fun _ => ⟨by omega, C, pl, rfl, rfl, rfl, rfl, rfl, rfl, g8⟩⟩
      · unfold b_X3_readInto_22
        by_cases h60 : (60 : Int32) ≤ nI i
        · rw [if_pos h60]
        · rw [if_neg h60, if_pos (show sT true = (0 : Int32) from rfl), if_pos (nI_le (by omega) (by omega))]
      · unfold b_X7_readText_51
        rw [if_pos (fT_t p'), if_pos (nI_le (by omega) (by omega))]
def C00 : Cty := (0, 0, 0, fun _ => 0, fun _ => 0, fun _ => 0, fun _ => 0, fun _ => none, fun _ => none)
theorem RC_0 (X : TX) (Y : TY) (h1 : X.2.2.1 = 0) (h2 : X.2.2.2.1 = 0) (h3 : X.2.2.2.2.1 = 0) (h4 : Y.1 = 0) (h5 : Y.2.1 = 0) (h6 : Y.2.2.1 = 0) : RC X Y :=
  ⟨C00, fun _ => 0, h1, h2, h3, h4, h5, h6, ⟨Nat.zero_le _, Nat.zero_le _, Nat.zero_le _, (fun _ h => absurd h (Nat.not_lt_zero _)), (fun _ h => absurd h (Nat.not_lt_zero _)), (fun _ h => absurd h (Nat.not_lt_zero _))⟩, (fun _ h => absurd h (Nat.not_lt_zero _)), ⟨(fun _ h => absurd h (Nat.not_lt_zero _)), (fun _ h => absurd h (Nat.not_lt_zero _)), (fun _ h => absurd h (Nat.not_lt_zero _))⟩, (fun _ h => absurd h (Nat.not_lt_zero _)), (fun _ h => absurd h (Nat.not_lt_zero _))⟩
/-- a whole text: the same first fault, and the same county where there is none -/
theorem r_text {len len' : Int32} {lt tx : Nat → Int32} (h : RT len lt len' tx) (x1 x2 p1 p2 p3 : Int32) (a6 a7 a8 a9 a10 a11 a12 a13 : Nat → Int32) (y1 y2 y3 y4 y5 : Int32) (b6 b7 b8 : Nat → Int32) : ∃ (r : Int32) (X : TX) (Y : TY), f_X3_readInto x1 x2 len lt p1 p2 p3 a6 a7 a8 a9 a10 a11 a12 a13 = some (r, X) ∧ f_X7_readText y1 y2 y3 len' y4 y5 b6 b7 b8 tx = some (r, Y) ∧ (r = (-9 : Int32) → RC X Y) := by
  obtain ⟨n, hn, rfl, rfl, hag⟩ := h
  unfold f_X3_readInto f_X7_readText f_X1_clear f_X3_readLetter
  rw [b_some]
  dsimp only
  by_cases h0 : n = 0
  · subst h0
    rw [if_pos (show nI 0 = (0 : Int32) from rfl)]
    have E : f_X5_letterAt (0 : Int32) (nI 0) lt = some (-1 : Int32) := X_letter_end (n := 0) (pos := 0) hn (by omega) (by omega) lt
    rw [E, b_some, if_neg (by decide), b_some]
    dsimp only
    have L : itr (fun s : Int32 × TX => b_X3_readInto_22 (nI 0) lt s.1 s.2.1 s.2.2.1 s.2.2.2.1 s.2.2.2.2.1 s.2.2.2.2.2.1 s.2.2.2.2.2.2.1 s.2.2.2.2.2.2.2.1 s.2.2.2.2.2.2.2.2.1 s.2.2.2.2.2.2.2.2.2.1 s.2.2.2.2.2.2.2.2.2.2.1 s.2.2.2.2.2.2.2.2.2.2.2.1 s.2.2.2.2.2.2.2.2.2.2.2.2.1 s.2.2.2.2.2.2.2.2.2.2.2.2.2) FU ((0 : Int32), (0 : Int32), (1 : Int32), (0 : Int32), (0 : Int32), (0 : Int32), a6, a7, a8, a9, a10, a11, a12, a13) = some ((0 : Int32), (1 : Int32), (0 : Int32), (0 : Int32), (0 : Int32), a6, a7, a8, a9, a10, a11, a12, a13) := rfl
    rw [L, b_some, if_neg (show ¬ (1 : Int32) = 0 by decide)]
    exact ⟨(0 : Int32), _, _, rfl, rfl, fun h => absurd h (by decide)⟩
  · have E : f_X5_letterAt (0 : Int32) (nI n) lt = some (lt 0) := X_letter (pos := 0) hn (by omega) lt
    have A : ald tx 60 (0 : Int32) = some (tx 0) := ald_nI (j := 0) (by omega)
    rw [if_neg (show ¬ nI n = (0 : Int32) from fun h => h0 ((nI_eq (a := n) (b := 0) (by omega) (by omega)).mp h)), E, b_some (lt 0), A, b_some (tx 0), ← hag 0 (by omega)]
    by_cases e : lt 0 = (76 : Int32)
    · rw [if_pos e, if_pos e, b_some, b_some]
      dsimp only
      obtain ⟨X', Y', ex, ey, p', go, k1, k2, k3, k4, k5, k6⟩ := r_loop hn hag (X := (nI 1, (0 : Int32), (0 : Int32), (0 : Int32), (0 : Int32), a6, a7, a8, a9, a10, a11, a12, a13)) (Y := ((0 : Int32), (0 : Int32), (0 : Int32), (1 : Int32), (-9 : Int32), b6, b7, b8)) ⟨1, true, by omega, rfl, rfl, rfl, rfl, fun _ => ⟨Nat.le_refl _, RC_0 _ _ rfl rfl rfl rfl rfl rfl⟩⟩
      rw [show (0 : Int32) + (1 : Int32) = nI 1 from rfl, ex, ey, b_some, b_some]
      cases go with
      | true =>
        rw [if_pos (show X'.2.1 = (0 : Int32) from k3)]
        exact ⟨(-9 : Int32), X', Y', rfl, congrArg (fun z => some (z, Y')) k5, fun _ => (k6 rfl).2⟩
      | false =>
        rw [if_neg (show ¬ X'.2.1 = (0 : Int32) by rw [k3]; decide)]
        exact ⟨nI p', X', Y', congrArg (fun z => some (z, X')) k2, congrArg (fun z => some (z, Y')) k5, fun h => absurd h (neg9c p' (by omega))⟩
    · rw [if_neg e, if_neg e, b_some]
      dsimp only
      have L : itr (fun s : Int32 × TX => b_X3_readInto_22 (nI n) lt s.1 s.2.1 s.2.2.1 s.2.2.2.1 s.2.2.2.2.1 s.2.2.2.2.2.1 s.2.2.2.2.2.2.1 s.2.2.2.2.2.2.2.1 s.2.2.2.2.2.2.2.2.1 s.2.2.2.2.2.2.2.2.2.1 s.2.2.2.2.2.2.2.2.2.2.1 s.2.2.2.2.2.2.2.2.2.2.2.1 s.2.2.2.2.2.2.2.2.2.2.2.2.1 s.2.2.2.2.2.2.2.2.2.2.2.2.2) FU ((0 : Int32), (0 : Int32), (1 : Int32), (0 : Int32), (0 : Int32), (0 : Int32), a6, a7, a8, a9, a10, a11, a12, a13) = some ((0 : Int32), (1 : Int32), (0 : Int32), (0 : Int32), (0 : Int32), a6, a7, a8, a9, a10, a11, a12, a13) := rfl
      rw [L, b_some, if_neg (show ¬ (1 : Int32) = 0 by decide)]
      exact ⟨(0 : Int32), _, _, rfl, rfl, fun h => absurd h (by decide)⟩
