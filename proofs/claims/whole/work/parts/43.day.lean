/-! ===== a day, on both sides ===== -/
def capN (W : Nat) : Nat := if W < 9999 then W else 9999
/-- sworn behind a day whose clap comes or not -/
def dayS (C : Cty) (pl : Nat → Nat) (wl S D : Nat) (cm : Bool) : Nat := if cm then clapN C (hskN C pl wl D) S else S
def dayW (C : Cty) (pl : Nat → Nat) (wl S W D : Nat) (cm : Bool) : Nat := capN (W + worN C (dayS C pl wl S D cm) (cO C))
theorem hskN_lt {C : Cty} (hC : CM C) (pl : Nat → Nat) (wl D : Nat) : hskN C pl wl D < 32 := by
  unfold hskN
  split
  · decide
  · exact lt32 hC.1 (hearN_lt C pl wl _ _ _)
theorem dayS_lt {C : Cty} (hC : CM C) {pl : Nat → Nat} {wl S D : Nat} {cm : Bool} (hS : S < 2 ^ cO C) : dayS C pl wl S D cm < 2 ^ cO C := by
  unfold dayS
  split
  · exact clapN_lt hC hS
  · exact hS
theorem dayS_sub {C : Cty} (hC : CM C) {pl : Nat → Nat} {wl S D : Nat} {cm : Bool} (hS : S < 2 ^ cO C) : dayS C pl wl S D cm &&& S = dayS C pl wl S D cm := by
  unfold dayS
  split
  · exact clapN_sub hC hS
  · exact Nat.and_self S
theorem capN_lt (W : Nat) : capN W ≤ 9999 := by unfold capN; split <;> omega
theorem cap_e {W w : Nat} (hW : W ≤ 9999) (hw : w ≤ 45) : (if (nI W + nI w) < (9999 : Int32) then (nI W + nI w) else (9999 : Int32)) = nI (capN (W + w)) := by
  rw [nI_add, show (9999 : Int32) = nI 9999 from rfl]
  unfold capN
  by_cases h : W + w < 9999
  · rw [if_pos h, if_pos (nI_lt (a := W + w) (b := 9999) h (by omega))]
  · rw [if_neg h, if_neg (nI_nlt (a := W + w) (b := 9999) (by omega) (by omega))]
theorem X_passDay {C : Cty} (hC : CM C) {kinds cp ld ones others worths hangs : Nat → Int32} (hX : CX C kinds cp ld ones others worths hangs) {pk : Int32} {pl : Nat → Nat} {wl S W D : Nat} (hp : PX (cP C) pl pk) (hw : wl < 32) (hS : S < 2 ^ cO C) (hW : W ≤ 9999) (hD : D < 2 ^ 31) (cm : Bool) : f_X4_passDay (nI (b2 cm)) pk (nI wl) (nI S) (nI W) (nI D) (nI (cP C)) (nI (cK C)) (nI (cO C)) kinds cp ld ones others worths hangs = some (nI (pop S - pop (dayS C pl wl S D cm)), nI (dayS C pl wl S D cm), nI (dayW C pl wl S W D cm), nI (D + 1)) := by
  have hO := hC.2.2.1
  have hwo : ∀ T, worN C T (cO C) ≤ 45 := fun T => by have := worN_lt hC T _ (Nat.le_refl _); omega
  unfold f_X4_passDay
  cases cm with
  | false =>
    rw [if_pos (by decide), X_worthOf hC (fun k hk => (hX.2.1 k hk).2.2.1) (lt32 hO hS), b_some, b_some, cap_e hW (hwo S), nI_1, b_some]
    have e : dayS C pl wl S D false = S := rfl
    unfold dayW
    rw [e, Nat.sub_self]; rfl
  | true =>
    rw [if_neg (by decide), X_skyHearers hC hX hp hw hD, b_some, X_freeBy hC hX (hskN_lt hC pl wl D) hS, b_some, X_worthOf hC (fun k hk => (hX.2.1 k hk).2.2.1) (lt32 hO (clapN_lt hC hS)), b_some, b_some, cap_e hW (hwo _), nI_1]
    rfl
theorem ix5 {L : Nat} (hL : L < 2) : ((9 : Int32) * nI L) + (5 : Int32) = nI (9 * L + 5) := lv_ix 5 (by omega) hL
theorem ix7 {L : Nat} : (nI (9 * L) : Int32) + (7 : Int32) = nI (9 * L + 7) := by rw [show (7 : Int32) = nI 7 from rfl, nI_add]
theorem ix8 {L : Nat} : (nI (9 * L) : Int32) + (8 : Int32) = nI (9 * L + 8) := by rw [show (8 : Int32) = nI 8 from rfl, nI_add]
theorem ix6' {L : Nat} : (nI (9 * L) : Int32) + (6 : Int32) = nI (9 * L + 6) := by rw [show (6 : Int32) = nI 6 from rfl, nI_add]
theorem ix0 {L : Nat} : ((9 : Int32) * nI L) = nI (9 * L) := by rw [show (9 : Int32) = nI 9 from rfl, pk_mul]
/-- a level's row behind a day -/
def dayR (N : Nat → Int32) (L S' W' D' : Nat) : Nat → Int32 := upd (upd (upd N (9 * L + 6) (nI S')) (9 * L + 7) (nI W')) (9 * L + 8) (nI D')

def clo (C : Cty) (S : Nat) : Prop := ∀ k j, k < cO C → hg C k = some j → S.testBit j = false → S.testBit k = false
theorem freN_0 (C : Cty) (S : Nat) : ∀ n, freN C 0 S n = S
  | 0 => rfl
  | n + 1 => by
    have h := freN_0 C S n
    unfold freN lts
    simp [h]
theorem clapN_0 {C : Cty} (hC : CM C) {S : Nat} (hS : S < 2 ^ cO C) (hc : clo C S) : clapN C 0 S = S := by
  unfold clapN
  rw [freN_0, hanN_id hC hS (fun k j => hc k j) _ (Nat.le_refl _)]
theorem clo_han {C : Cty} (hC : CM C) {S : Nat} (hS : S < 2 ^ cO C) : clo C (hanN C S (cO C)) := fun _ _ hk hj hf => hanN_cl hC hS hk hj hf
theorem clo_clap {C : Cty} (hC : CM C) {who S : Nat} (hS : S < 2 ^ cO C) : clo C (clapN C who S) := clo_han hC (freN_lt hC hS _ (Nat.le_refl _))
theorem clo_let {C : Cty} (hC : CM C) {k S : Nat} (hk : k < cO C) (hS : S < 2 ^ cO C) : clo C (letN C k S) := by
  have hO := hC.2.2.1
  exact clo_han hC (clr_lt _ (by omega) _ hS k (by omega))
theorem clo_day {C : Cty} (hC : CM C) {pl : Nat → Nat} {wl S D : Nat} {cm : Bool} (hS : S < 2 ^ cO C) (hc : clo C S) : clo C (dayS C pl wl S D cm) := by
  unfold dayS
  split
  · exact clo_clap hC hS
  · exact hc
theorem full_tb : ∀ O, O < 6 → ∀ j, j < O → (2 ^ O - 1).testBit j = true := by decide +kernel
theorem clo_full {C : Cty} (hC : CM C) : clo C (2 ^ cO C - 1) := by
  intro k j hk hj hf
  have hO := hC.2.2.1
  have := (hC.2.2.2.2.1 k hk).2.2.2.2 j hj
  rw [full_tb _ (by omega) j (by omega)] at hf
  cases hf
theorem clo_set {C : Cty} (hC : CM C) {k S : Nat} (hk : k < cO C) (hS : S < 2 ^ cO C) (hc : clo C S) (hh : ∀ j, hg C k = some j → S.testBit j = true) : clo C (sett S k) := by
  intro a j ha hj hf
  have hO := hC.2.2.1
  have hja := (hC.2.2.2.2.1 a ha).2.2.2.2 j hj
  have h32 := lt32 hO hS
  rw [sett_tb _ h32 k (by omega) j (by omega)] at hf
  rw [sett_tb _ h32 k (by omega) a (by omega)]
  simp only [Bool.or_eq_false_iff, decide_eq_false_iff_not] at hf ⊢
  by_cases hak : a = k
  · subst hak
    rw [hh j hj] at hf
    exact absurd hf.1 (by simp)
  · exact ⟨hc a j ha hj hf.1, hak⟩
theorem b2_t : (1 : Int32) = nI (b2 true) := rfl
theorem b2_f : (0 : Int32) = nI (b2 false) := rfl
theorem Y_passOn {C : Cty} (hC : CM C) {kind skyAt skyLoud one other worth hangs : Nat → Int32} (hY : CY C kind skyAt skyLoud one other worth hangs) {L : Nat} (hL : L < 2) {N : Nat → Int32} {pl : Nat → Nat} {wl S W D : Nat} (hN : NY (cP C) N (9 * L) pl wl S W D) (hw : wl < 32) (hS : S < 2 ^ cO C) (hc : clo C S) (hW : W ≤ 9999) (hD : D < 2 ^ 31) (cm : Bool) : f_X7_passOn (nI L) (nI (b2 cm)) (nI (cP C)) (nI (cK C)) (nI (cO C)) kind skyAt skyLoud one other worth hangs N = some (nI (pop S - pop (dayS C pl wl S D cm)), dayR N L (dayS C pl wl S D cm) (dayW C pl wl S W D cm) (D + 1)) := by
  have hO := hC.2.2.1
  obtain ⟨a, b, ea, eb, hn, hs⟩ := Y_sky hC hY hD
  have hclap : ∀ v2 v3 who, who < 32 → f_X7_hearers (nI L) v2 v3 (nI (cP C)) kind N = some (nI who) → f_X7_clapOn (nI L) v2 v3 (nI (cP C)) (nI (cO C)) kind one other hangs N = some (nI (pop S - pop (clapN C who S)), upd N (9 * L + 6) (nI (clapN C who S))) := fun v2 v3 who hwh hh => Y_clap hC hY hL hwh hS hN.2.2.1 hh
  have tail : ∀ (c : Int32) (T : Nat), T < 2 ^ cO C → (ald (upd N (9 * L + 6) (nI T)) 18 (nI (9 * L + 7))).bind (fun r_6 => (ald (upd N (9 * L + 6) (nI T)) 18 (nI (9 * L + 6))).bind fun r_7 => (f_X7_worthsOf r_7 (nI (cO C)) worth).bind fun r_8 => (some (r_6 + r_8)).bind fun w_9 => if w_9 ≤ (9999 : Int32) then (ast (upd N (9 * L + 6) (nI T)) 18 (nI (9 * L + 7)) w_9).bind fun r_11 => (ald r_11 18 (nI (9 * L + 8))).bind fun r_12 => (ast r_11 18 (nI (9 * L + 8)) (r_12 + (1 : Int32))).bind fun r_13 => some (c, r_13) else (ast (upd N (9 * L + 6) (nI T)) 18 (nI (9 * L + 7)) (9999 : Int32)).bind fun r_14 => (ald r_14 18 (nI (9 * L + 8))).bind fun r_15 => (ast r_14 18 (nI (9 * L + 8)) (r_15 + (1 : Int32))).bind fun r_16 => some (c, r_16)) = some (c, dayR N L T (capN (W + worN C T (cO C))) (D + 1)) := by
    intro c T hT
    have hwo : worN C T (cO C) ≤ 45 := by have := worN_lt hC T _ (Nat.le_refl _); omega
    have n1 : 9 * L + 7 ≠ 9 * L + 6 := by omega
    have n2 : 9 * L + 8 ≠ 9 * L + 7 := by omega
    have n3 : 9 * L + 8 ≠ 9 * L + 6 := by omega
    simp only [ald_nI (f := upd N (9 * L + 6) (nI T)) (show 9 * L + 7 < 18 by omega), ald_nI (f := upd N (9 * L + 6) (nI T)) (show 9 * L + 6 < 18 by omega), b_some, upd_at, upd_ne _ _ n1, hN.2.2.2.1, Y_worthsOf hC (fun k hk => (hY.2.1 k hk).2.2.1) (lt32 hO hT), nI_add, ast_nI (f := upd N (9 * L + 6) (nI T)) (show 9 * L + 7 < 18 by omega), show (9999 : Int32) = nI 9999 from rfl, nI_leI (show W + worN C T (cO C) < 2 ^ 31 by omega) (show 9999 < 2 ^ 31 by omega)]
    have fin : ∀ w : Nat, ((ald (upd (upd N (9 * L + 6) (nI T)) (9 * L + 7) (nI w)) 18 (nI (9 * L + 8))).bind fun r_12 => (ast (upd (upd N (9 * L + 6) (nI T)) (9 * L + 7) (nI w)) 18 (nI (9 * L + 8)) (r_12 + (1 : Int32))).bind fun r_13 => some (c, r_13)) = some (c, dayR N L T w (D + 1)) := by
      intro w
      rw [ald_nI (by omega), b_some, ast_nI (by omega), b_some, upd_ne _ _ n2, upd_ne _ _ n3, hN.2.2.2.2, nI_1]
      rfl
    unfold capN
    by_cases h : W + worN C T (cO C) ≤ 9999
    · rw [if_pos h, fin]
      by_cases h2 : W + worN C T (cO C) < 9999
      · rw [if_pos h2]
      · rw [if_neg h2, show W + worN C T (cO C) = 9999 by omega]
    · rw [if_neg h, fin, if_neg (by omega)]
  unfold f_X7_passOn
  simp only [ix0, b_some, ix7, ix8, ix6', ald_nI (f := N) (show 9 * L + 8 < 18 by omega), hN.2.2.2.2, ea, eb]
  cases cm with
  | false =>
    rw [if_pos (by decide), hclap _ _ 0 (by decide) (Y_hearers_none hC.1), b_some, clapN_0 hC hS hc]
    exact tail _ S hS
  | true =>
    rw [if_neg (by decide)]
    have hwho : f_X7_hearers (nI L) a b (nI (cP C)) kind N = some (nI (hskN C pl wl D)) := by
      unfold hskN
      cases h : skyN C D with
      | none => rw [hn h]; exact Y_hearers_none hC.1
      | some q =>
        obtain ⟨p, l⟩ := q
        obtain ⟨e1, e2, b1, b3⟩ := hs p l h
        rw [e1, e2]
        exact Y_hearers hC hY.1 hL hN hw b1 b3
    rw [hclap _ _ _ (hskN_lt hC pl wl D) hwho, b_some]
    exact tail _ _ (clapN_lt hC hS)
theorem dayR_NY {P : Nat} (hP : P ≤ 5) {N : Nat → Int32} {L : Nat} {pl : Nat → Nat} {wl S W D S' W' D' : Nat} (hN : NY P N (9 * L) pl wl S W D) : NY P (dayR N L S' W' D') (9 * L) pl wl S' W' D' := by
  unfold dayR
  refine ⟨fun p hp => ?_, ?_, ?_, ?_, ?_⟩
  · rw [upd_ne _ _ (by omega), upd_ne _ _ (by omega), upd_ne _ _ (by omega)]; exact hN.1 p hp
  · rw [upd_ne _ _ (by omega), upd_ne _ _ (by omega), upd_ne _ _ (by omega)]; exact hN.2.1
  · rw [upd_ne _ _ (by omega), upd_ne _ _ (by omega), upd_at]
  · rw [upd_ne _ _ (by omega), upd_at]
  · rw [upd_at]
