/-! ===== figures, one after another, on both sides ===== -/
def sT (g : Bool) : Int32 := if g then 0 else 1
def fT (g : Bool) (p : Nat) : Int32 := if g then -9 else nI p
theorem sT_t : sT true = 0 := rfl
theorem sT_f : sT false = 1 := rfl
theorem fT_t (p : Nat) : fT true p = -9 := rfl
theorem fT_f (p : Nat) : fT false p = nI p := rfl
/-- one figure from a state of the readers: the figure, the place, going on or stopped -/
theorem s_fig {n pos : Nat} (hn : n ≤ 60) (hpos : pos ≤ n) {lt tx : Nat → Int32} (hag : ∀ j, j < n → lt j = tx j) {most : Int32} (hm : most.toInt < 100) (go : Bool) : ∃ (v pos' : Nat) (go' : Bool), v < 100 ∧ pos ≤ pos' ∧ pos' ≤ n ∧ (go' = true → go = true ∧ (v : Int) ≤ most.toInt ∧ pos < pos') ∧ f_X3_readFigure most (nI pos) (sT go) (nI n) lt = some (nI v, nI pos', sT go') ∧ f_X7_figureOf most (-9 : Int32) (nI n) (nI pos) (fT go pos) tx = some (nI v, nI pos', fT go' pos') := by
  cases go with
  | false => exact ⟨0, pos, false, by omega, Nat.le_refl _, hpos, (fun h => nomatch h), X_fig_stop hn (by omega) lt most, Y_fig_stop (by omega) _ _ _ _ _⟩
  | true =>
    rcases r_fig hn hpos hag hm with ⟨v, h1, h2, h3, _, h5, h6, _⟩ | ⟨h1, h2, _⟩
    · exact ⟨v, pos + 1, true, h2, by omega, by omega, fun _ => ⟨rfl, h1, by omega⟩, h5, h6 _ (neg9c v h2)⟩
    · exact ⟨0, pos, false, by omega, Nat.le_refl _, hpos, (fun h => nomatch h), h1, h2 _⟩
theorem s_other {n pos : Nat} (hn : n ≤ 60) (hpos : pos ≤ n) {lt tx : Nat → Int32} (hag : ∀ j, j < n → lt j = tx j) {most : Int32} (hm : most.toInt < 100) (go : Bool) {u : Nat} (hu : u < 100) : ∃ (v pos' : Nat) (go' : Bool), v < 100 ∧ pos ≤ pos' ∧ pos' ≤ n ∧ (go' = true → go = true ∧ (v : Int) ≤ most.toInt ∧ u ≠ v ∧ pos < pos') ∧ f_X3_readOther most (nI u) (nI pos) (sT go) (nI n) lt = some (nI v, nI pos', sT go') ∧ f_X7_figureOf most (nI u) (nI n) (nI pos) (fT go pos) tx = some (nI v, nI pos', fT go' pos') := by
  cases go with
  | false =>
    refine ⟨0, pos, false, by omega, Nat.le_refl _, hpos, (fun h => nomatch h), ?_, Y_fig_stop (by omega) _ _ _ _ _⟩
    unfold f_X3_readOther
    rw [if_neg (by decide), sT_f, X_fig_stop hn (by omega) lt most, b_some]
    rfl
  | true =>
    rcases r_fig hn hpos hag hm with ⟨v, h1, h2, h3, h4, h5, h6, h7⟩ | ⟨h1, h2, _⟩
    · by_cases e : u = v
      · subst e
        refine ⟨0, pos, false, by omega, Nat.le_refl _, hpos, (fun h => nomatch h), ?_, h7 _ rfl⟩
        unfold f_X3_readOther
        rw [if_pos (show sT true = (0 : Int32) from rfl), X_letter hn h3, b_some, if_pos h4, X_fig_stop hn (by omega) lt most, b_some]
        rfl
      · have ne : ¬ nI v = nI u := fun h => e ((nI_eq (by omega) (by omega)).mp h).symm
        refine ⟨v, pos + 1, true, h2, by omega, by omega, fun _ => ⟨rfl, h1, e, by omega⟩, ?_, h6 _ ne⟩
        unfold f_X3_readOther
        rw [if_pos (show sT true = (0 : Int32) from rfl), X_letter hn h3, b_some, if_neg (fun h => ne (by
          have := h4.symm.trans h
          have := congrArg (fun x => x - (48 : Int32)) this
          simpa only [Int32.add_comm (48 : Int32), Int32.add_sub_cancel] using this)), sT_t, h5, b_some]
    · refine ⟨0, pos, false, by omega, Nat.le_refl _, hpos, (fun h => nomatch h), ?_, h2 _⟩
      obtain ⟨w, ew⟩ := X_letter_any hn (show pos < 100 by omega) lt
      unfold f_X3_readOther
      rw [if_pos (show sT true = (0 : Int32) from rfl), ew, b_some]
      by_cases e : w = (48 : Int32) + nI u
      · rw [if_pos e, X_fig_stop hn (by omega) lt most, b_some]; rfl
      · rw [if_neg e, sT_t, h1, b_some]; rfl
/-- what an oath hangs on: in the class one function, in the model a part of readSworn -/
def hangY (len at' fa : Int32) (tx : Nat → Int32) (most : Int32) : Option (Int32 × Int32 × Int32) := if fa = (-9 : Int32) then if len ≤ at' then f_X7_figureOf most (-9 : Int32) len at' fa tx else (ald tx 60 at').bind fun r => if r = (110 : Int32) then some ((-9 : Int32), at' + (1 : Int32), fa) else f_X7_figureOf most (-9 : Int32) len at' fa tx else f_X7_figureOf most (-9 : Int32) len at' fa tx
theorem s_hang {n pos : Nat} (hn : n ≤ 60) (hpos : pos ≤ n) {lt tx : Nat → Int32} (hag : ∀ j, j < n → lt j = tx j) {most : Int32} (hm : most.toInt < 100) (go : Bool) : ∃ (h : Option Nat) (pos' : Nat) (go' : Bool), pos ≤ pos' ∧ pos' ≤ n ∧ (go' = true → go = true ∧ (∀ j, h = some j → (j : Int) ≤ most.toInt) ∧ pos < pos') ∧ f_X3_readHang most (nI pos) (sT go) (nI n) lt = some (hgI h, nI pos', sT go') ∧ hangY (nI n) (nI pos) (fT go pos) tx most = some (hgI h, nI pos', fT go' pos') := by
  obtain ⟨v, p', g', v1, v2, v3, v4, ex, ey⟩ := s_fig hn hpos hag hm go
  have base : f_X3_readHang most (nI pos) (sT go) (nI n) lt = some (nI v, nI p', sT g') → hangY (nI n) (nI pos) (fT go pos) tx most = some (nI v, nI p', fT g' p') → ∃ (h : Option Nat) (pos' : Nat) (go' : Bool), pos ≤ pos' ∧ pos' ≤ n ∧ (go' = true → go = true ∧ (∀ j, h = some j → (j : Int) ≤ most.toInt) ∧ pos < pos') ∧ f_X3_readHang most (nI pos) (sT go) (nI n) lt = some (hgI h, nI pos', sT go') ∧ hangY (nI n) (nI pos) (fT go pos) tx most = some (hgI h, nI pos', fT go' pos') :=
    fun hx hy => ⟨some v, p', g', v2, v3, fun h => ⟨(v4 h).1, fun j hj => by cases hj; exact (v4 h).2.1, (v4 h).2.2⟩, hx, hy⟩
  cases go with
  | false =>
    refine base ?_ ?_
    · unfold f_X3_readHang
      rw [if_neg (by decide), ex, b_some]
    · unfold hangY
      rw [if_neg (show ¬ fT false pos = (-9 : Int32) from neg9c pos (by omega)), ey]
  | true =>
    by_cases h : pos < n
    · by_cases e : lt pos = (110 : Int32)
      · refine ⟨none, pos + 1, true, by omega, by omega, fun _ => ⟨rfl, (fun j hj => nomatch hj), by omega⟩, ?_, ?_⟩
        · unfold f_X3_readHang
          rw [if_pos (show sT true = (0 : Int32) from rfl), X_letter hn h, b_some, if_pos e, b_some, nI_1]; rfl
        · unfold hangY
          rw [if_pos (fT_t pos), if_neg (nI_ge h (by omega)), ald_nI (by omega), b_some, if_pos ((hag pos h).symm.trans e), nI_1]; rfl
      · refine base ?_ ?_
        · unfold f_X3_readHang
          rw [if_pos (show sT true = (0 : Int32) from rfl), X_letter hn h, b_some, if_neg e, ex, b_some]
        · unfold hangY
          rw [if_pos (fT_t pos), if_neg (nI_ge h (by omega)), ald_nI (by omega), b_some, if_neg (fun h' => e ((hag pos h).trans h')), ey]
    · refine base ?_ ?_
      · unfold f_X3_readHang
        rw [if_pos (show sT true = (0 : Int32) from rfl), X_letter_end hn (by omega) (by omega), b_some, if_neg (by decide), ex, b_some]
      · unfold hangY
        rw [if_pos (fT_t pos), if_pos (nI_le (by omega) (by omega)), ey]
theorem sworn_e (P O len at' fa : Int32) (ro tx : Nat → Int32) : f_X7_readSworn P O len at' fa ro tx = (f_X7_figureOf (P - (1 : Int32)) (-9 : Int32) len at' fa tx).bind fun r_2 => (ast ro 20 ((4 : Int32) * O) r_2.1).bind fun r_3 => (ald r_3 20 ((4 : Int32) * O)).bind fun r_4 => (f_X7_figureOf (P - (1 : Int32)) r_4 len r_2.2.1 r_2.2.2 tx).bind fun r_5 => (ast r_3 20 (((4 : Int32) * O) + (1 : Int32)) r_5.1).bind fun r_6 => (f_X7_figureOf (9 : Int32) (-9 : Int32) len r_5.2.1 r_5.2.2 tx).bind fun r_7 => (ast r_6 20 (((4 : Int32) * O) + (2 : Int32)) r_7.1).bind fun r_8 => (hangY len r_7.2.1 r_7.2.2 tx (O - (1 : Int32))).bind fun r_9 => (ast r_8 20 (((4 : Int32) * O) + (3 : Int32)) r_9.1).bind fun r_10 => some (O + (1 : Int32), r_9.2.1, r_9.2.2, r_10) := by
  unfold f_X7_readSworn hangY
  rw [b_some]
  congr 1; funext r2; congr 1; funext r3; congr 1; funext r4; congr 1; funext r5; congr 1; funext r6; congr 1; funext r7; congr 1; funext r8
  by_cases h1 : r7.2.2 = (-9 : Int32)
  · rw [if_pos h1, if_pos h1]
    by_cases h2 : len ≤ r7.2.1
    · rw [if_pos h2, if_pos h2]; rfl
    · rw [if_neg h2, if_neg h2]
      cases ald tx 60 r7.2.1 with
      | none => rfl
      | some w =>
        rw [b_some, b_some]
        by_cases h3 : w = (110 : Int32)
        · rw [if_pos h3, if_pos h3]; rfl
        · rw [if_neg h3, if_neg h3]; rfl
  · rw [if_neg h1, if_neg h1]; rfl
