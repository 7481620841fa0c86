/-! ===== what is free by a clap ===== -/
def lts (C : Cty) (who k : Nat) : Bool := (who.testBit (o1 C k) && who.testBit (o2 C k)) || (who.testBit (o1 C k) && decide (kd C (o1 C k) = 3)) || (who.testBit (o2 C k) && decide (kd C (o2 C k) = 3))
def freN (C : Cty) (who S : Nat) : Nat → Nat
  | 0 => S
  | n + 1 => if lts C who n then clr (freN C who S n) n else freN C who S n
def hgs (C : Cty) (S k : Nat) : Bool := match hg C k with
  | none => false
  | some h => !S.testBit h
def hanN (C : Cty) (S : Nat) : Nat → Nat
  | 0 => S
  | n + 1 => if hgs C (hanN C S n) n then clr (hanN C S n) n else hanN C S n
theorem hanN_s (C : Cty) (S n : Nat) : hanN C S (n + 1) = if hgs C (hanN C S n) n then clr (hanN C S n) n else hanN C S n := rfl
theorem hgs_none {C : Cty} {S k : Nat} (h : hg C k = none) : hgs C S k = false := by unfold hgs; rw [h]
theorem hgs_some {C : Cty} {S k j : Nat} (h : hg C k = some j) : hgs C S k = !S.testBit j := by unfold hgs; rw [h]
theorem hgI_n : hgI none = (-9 : Int32) := rfl
theorem hgI_s (j : Nat) : hgI (some j) = nI j := rfl
def clapN (C : Cty) (who S : Nat) : Nat := hanN C (freN C who S (cO C)) (cO C)
def letN (C : Cty) (k S : Nat) : Nat := hanN C (clr S k) (cO C)
theorem freN_lt {C : Cty} (hC : CM C) {who S : Nat} (hS : S < 2 ^ cO C) : ∀ n, n ≤ cO C → freN C who S n < 2 ^ cO C
  | 0, _ => hS
  | n + 1, h => by
    have h1 := freN_lt hC (who := who) hS n (by omega)
    have hO := hC.2.2.1
    unfold freN
    split
    · exact clr_lt _ (by omega) _ h1 n (by omega)
    · exact h1
theorem hanN_lt {C : Cty} (hC : CM C) {S : Nat} (hS : S < 2 ^ cO C) : ∀ n, n ≤ cO C → hanN C S n < 2 ^ cO C
  | 0, _ => hS
  | n + 1, h => by
    have h1 := hanN_lt hC hS n (by omega)
    have hO := hC.2.2.1
    unfold hanN
    split
    · exact clr_lt _ (by omega) _ h1 n (by omega)
    · exact h1
theorem freN_sub {C : Cty} (hC : CM C) {who S : Nat} (hS : S < 2 ^ cO C) : ∀ n, n ≤ cO C → freN C who S n &&& S = freN C who S n
  | 0, _ => Nat.and_self S
  | n + 1, h => by
    have h1 := freN_sub hC (who := who) hS n (by omega)
    have h2 := freN_lt hC (who := who) hS n (by omega)
    have hO := hC.2.2.1
    unfold freN
    split
    · exact clr_sub _ (lt32 hO h2) n (by omega) S (lt32 hO hS) h1
    · exact h1
theorem hanN_sub {C : Cty} (hC : CM C) {S T : Nat} (hS : S < 2 ^ cO C) (hT : T < 32) (hST : S &&& T = S) : ∀ n, n ≤ cO C → hanN C S n &&& T = hanN C S n
  | 0, _ => hST
  | n + 1, h => by
    have h1 := hanN_sub hC hS hT hST n (by omega)
    have h2 := hanN_lt hC hS n (by omega)
    have hO := hC.2.2.1
    unfold hanN
    split
    · exact clr_sub _ (lt32 hO h2) n (by omega) T hT h1
    · exact h1
theorem clapN_lt {C : Cty} (hC : CM C) {who S : Nat} (hS : S < 2 ^ cO C) : clapN C who S < 2 ^ cO C := hanN_lt hC (freN_lt hC hS _ (Nat.le_refl _)) _ (Nat.le_refl _)
theorem clapN_sub {C : Cty} (hC : CM C) {who S : Nat} (hS : S < 2 ^ cO C) : clapN C who S &&& S = clapN C who S := hanN_sub hC (freN_lt hC hS _ (Nat.le_refl _)) (lt32 hC.2.2.1 hS) (freN_sub hC hS _ (Nat.le_refl _)) _ (Nat.le_refl _)
theorem letN_lt {C : Cty} (hC : CM C) {k S : Nat} (hk : k < cO C) (hS : S < 2 ^ cO C) : letN C k S < 2 ^ cO C := by
  have hO := hC.2.2.1
  exact hanN_lt hC (clr_lt _ (by omega) _ hS k (by omega)) _ (Nat.le_refl _)
theorem letN_sub {C : Cty} (hC : CM C) {k S : Nat} (hk : k < cO C) (hS : S < 2 ^ cO C) : letN C k S &&& S = letN C k S := by
  have hO := hC.2.2.1
  exact hanN_sub hC (clr_lt _ (by omega) _ hS k (by omega)) (lt32 hO hS) (clr_sub _ (lt32 hO hS) k (by omega) S (lt32 hO hS) (Nat.and_self S)) _ (Nat.le_refl _)
theorem X_letsOut {C : Cty} (hC : CM C) {kinds cp ld ones others worths hangs : Nat → Int32} (hX : CX C kinds cp ld ones others worths hangs) {who k : Nat} (hw : who < 32) (hk : k < cO C) : f_X4_letsOut (nI k) (nI who) kinds ones others = some (nI (b2 (lts C who k))) := by
  have hO := hC.2.2.1
  have hP := hC.1
  obtain ⟨e1, e2, -, -⟩ := hX.2.1 k hk
  obtain ⟨d1, d2, -, -, -⟩ := hC.2.2.2.2.1 k hk
  unfold f_X4_letsOut
  simp only [at_nI (f := ones) (show k < 5 by omega) (by decide), at_nI (f := others) (show k < 5 by omega) (by decide), b_some, e1, e2, bit_ok hw (show o1 C k < 5 by omega), bit_ok hw (show o2 C k < 5 by omega), at_nI (f := kinds) (show o1 C k < 5 by omega) (by decide), at_nI (f := kinds) (show o2 C k < 5 by omega) (by decide), hX.1 _ d1, hX.1 _ d2, b2_1, kd_3 (hC.2.2.2.1 _ d1), kd_3 (hC.2.2.2.1 _ d2), lts]
  by_cases h1 : who.testBit (o1 C k) = true <;> by_cases h2 : who.testBit (o2 C k) = true <;> by_cases h3 : kd C (o1 C k) = 3 <;> by_cases h4 : kd C (o2 C k) = 3 <;> simp [h1, h2, h3, h4, b2] <;> rfl
theorem X_freeHanging {C : Cty} (hC : CM C) {hangs : Nat → Int32} (hh : ∀ k, k < cO C → hangs k = hgI (hg C k)) {B S : Nat} (hB : B < 32) (hS : S < 2 ^ cO C) (hsub : hanN C S (cO C) &&& B = hanN C S (cO C)) : f_X4_freeHanging (nI B) (nI S) (nI (cO C)) hangs = some (nI (pop B - pop (hanN C S (cO C))), nI (hanN C S (cO C))) := by
  have hO := hC.2.2.1
  unfold f_X4_freeHanging
  have h : itr (fun s => b_X4_freeHanging_2 (nI B) (nI (cO C)) hangs s.1 s.2) FU ((0 : Int32), nI S) = some (nI (hanN C S (cO C))) := by
    refine itr_run (fun i => (nI i, nI (hanN C S i))) (cO C) ?_ ?_ FU (lt_FU (by omega))
    · intro i hi
      have h32 : hanN C S i < 32 := lt32 hO (hanN_lt hC hS i (by omega))
      show b_X4_freeHanging_2 (nI B) (nI (cO C)) hangs (nI i) (nI (hanN C S i)) = some (.inl (nI (i + 1), nI (hanN C S (i + 1))))
      unfold b_X4_freeHanging_2
      rw [if_neg (nI_ge hi (by omega)), at_nI (by omega) (by decide), b_some, hh i hi]
      rw [hanN_s]
      cases hg1 : hg C i with
      | none => rw [hgI_n, if_pos rfl, hgs_none hg1, nI_succ]; rfl
      | some j =>
        have hj := (hC.2.2.2.2.1 i hi).2.2.2.2 j hg1
        rw [hgI_s, if_neg (neg9 j (by omega)), bit_ok h32 (by omega), b_some, hgs_some hg1]
        simp only [b2_0, b_some, clr_e _ h32 i (by omega), nI_succ]
        by_cases h1 : (hanN C S i).testBit j = true <;> simp [h1]
    · show b_X4_freeHanging_2 (nI B) (nI (cO C)) hangs (nI (cO C)) (nI (hanN C S (cO C))) = _
      unfold b_X4_freeHanging_2
      rw [if_pos (nI_le (Nat.le_refl _) (by omega))]
  have h32 : hanN C S (cO C) < 32 := lt32 hO (hanN_lt hC hS _ (Nat.le_refl _))
  rw [h, b_some, pop_bit _ hB, b_some, pop_bit _ h32, b_some, (free_cnt B hB _ h32 hsub).1]
theorem X_freeBy {C : Cty} (hC : CM C) {kinds cp ld ones others worths hangs : Nat → Int32} (hX : CX C kinds cp ld ones others worths hangs) {who S : Nat} (hw : who < 32) (hS : S < 2 ^ cO C) : f_X4_freeBy (nI who) (nI S) (nI (cO C)) kinds ones others hangs = some (nI (pop S - pop (clapN C who S)), nI (clapN C who S)) := by
  have hO := hC.2.2.1
  unfold f_X4_freeBy
  have h : itr (fun s => b_X4_freeBy_7 (nI who) (nI S) (nI (cO C)) kinds ones others s.1 s.2) FU ((0 : Int32), nI S) = some (nI (freN C who S (cO C))) := by
    refine itr_run (fun i => (nI i, nI (freN C who S i))) (cO C) ?_ ?_ FU (lt_FU (by omega))
    · intro i hi
      have h32 : freN C who S i < 32 := lt32 hO (freN_lt hC hS i (by omega))
      show b_X4_freeBy_7 (nI who) (nI S) (nI (cO C)) kinds ones others (nI i) (nI (freN C who S i)) = some (.inl (nI (i + 1), nI (freN C who S (i + 1))))
      unfold b_X4_freeBy_7
      rw [if_neg (nI_ge hi (by omega)), X_letsOut hC hX hw hi, b_some]
      simp only [b2_0, b_some, clr_e _ h32 i (by omega), nI_succ, freN]
      by_cases h1 : lts C who i = true <;> simp [h1]
    · show b_X4_freeBy_7 (nI who) (nI S) (nI (cO C)) kinds ones others (nI (cO C)) (nI (freN C who S (cO C))) = _
      unfold b_X4_freeBy_7
      rw [if_pos (nI_le (Nat.le_refl _) (by omega))]
  rw [h, b_some, X_freeHanging hC (fun k hk => (hX.2.1 k hk).2.2.2) (lt32 hO hS) (freN_lt hC hS _ (Nat.le_refl _)) (clapN_sub hC hS), b_some]
  rfl
theorem X_letOff {C : Cty} (hC : CM C) {hangs : Nat → Int32} (hh : ∀ k, k < cO C → hangs k = hgI (hg C k)) {k S : Nat} (hk : k < cO C) (hS : S < 2 ^ cO C) : f_X4_letOff (nI k) (nI S) (nI (cO C)) hangs = some (nI (pop S - pop (letN C k S)), nI (letN C k S)) := by
  have hO := hC.2.2.1
  unfold f_X4_letOff
  simp only [clr_e _ (lt32 hO hS) k (by omega), b_some]
  rw [X_freeHanging hC hh (lt32 hO hS) (clr_lt _ (by omega) _ hS k (by omega)) (letN_sub hC hk hS)]
  rfl

/-! ===== the reference: one pass is enough ===== -/
theorem hanN_hi {C : Cty} (hC : CM C) {S : Nat} (hS : S < 2 ^ cO C) : ∀ n j, n ≤ cO C → n ≤ j → j < 5 → (hanN C S n).testBit j = S.testBit j
  | 0, j, _, _, _ => rfl
  | n + 1, j, h, hj, h5 => by
    have h1 := hanN_hi hC hS n j (by omega) (by omega) h5
    have h2 := lt32 hC.2.2.1 (hanN_lt hC hS n (by omega))
    rw [hanN_s]
    split
    · rw [clr_tb _ h2 n (by omega) j h5, h1]; simp [show ¬ j = n by omega]
    · exact h1
theorem hanN_lo {C : Cty} (hC : CM C) {S : Nat} (hS : S < 2 ^ cO C) : ∀ m n j, n + m ≤ cO C → j < n → (hanN C S (n + m)).testBit j = (hanN C S n).testBit j
  | 0, n, j, _, _ => rfl
  | m + 1, n, j, h, hj => by
    have h1 := hanN_lo hC hS m n j (by omega) hj
    have hO := hC.2.2.1
    have h2 := lt32 hO (hanN_lt hC hS (n + m) (by omega))
    show (hanN C S ((n + m) + 1)).testBit j = _
    rw [hanN_s]
    split
    · rw [clr_tb _ h2 (n + m) (by omega) j (by omega), h1]; simp [show ¬ j = n + m by omega]
    · exact h1
/-- what hangs on a free one is free, behind the pass -/
theorem hanN_cl {C : Cty} (hC : CM C) {S : Nat} (hS : S < 2 ^ cO C) {k j : Nat} (hk : k < cO C) (hj : hg C k = some j) (hf : (hanN C S (cO C)).testBit j = false) : (hanN C S (cO C)).testBit k = false := by
  have hO := hC.2.2.1
  have hjk := (hC.2.2.2.2.1 k hk).2.2.2.2 j hj
  have e1 := hanN_lo hC hS (cO C - (k + 1)) (k + 1) k (by omega) (by omega)
  have e2 := hanN_lo hC hS (cO C - k) k j (by omega) hjk
  rw [Nat.add_sub_cancel' (by omega)] at e1 e2
  rw [e1, hanN_s, hgs_some hj]
  rw [e2] at hf
  rw [hf]
  have h2 := lt32 hO (hanN_lt hC hS k (by omega))
  simp [clr_tb _ h2 k (by omega) k (by omega)]
theorem clr_id : ∀ S, S < 32 → ∀ k, k < 5 → S.testBit k = false → clr S k = S := by decide +kernel
theorem hanN_id {C : Cty} (hC : CM C) {S : Nat} (hS : S < 2 ^ cO C) (hcl : ∀ k j, k < cO C → hg C k = some j → S.testBit j = false → S.testBit k = false) : ∀ n, n ≤ cO C → hanN C S n = S
  | 0, _ => rfl
  | n + 1, h => by
    have hO := hC.2.2.1
    rw [hanN_s, hanN_id hC hS hcl n (by omega)]
    cases hg1 : hg C n with
    | none => rw [hgs_none hg1]; rfl
    | some j =>
      rw [hgs_some hg1]
      by_cases hb : S.testBit j = true
      · simp [hb]
      · simp only [hb]
        have hb' : S.testBit j = false := by simpa using hb
        simp [clr_id _ (lt32 hO hS) n (by omega) (hcl n j (by omega) hg1 hb')]
theorem hanN_idem {C : Cty} (hC : CM C) {S : Nat} (hS : S < 2 ^ cO C) : hanN C (hanN C S (cO C)) (cO C) = hanN C S (cO C) :=
  hanN_id hC (hanN_lt hC hS _ (Nat.le_refl _)) (fun _ _ hk hj hf => hanN_cl hC hS hk hj hf) _ (Nat.le_refl _)
theorem ix6 {L : Nat} (hL : L < 2) : ((9 : Int32) * nI L) + (6 : Int32) = nI (9 * L + 6) := lv_ix 6 (by omega) hL
theorem Y_fallPass {C : Cty} (hC : CM C) {hangs : Nat → Int32} (hh : ∀ k, k < cO C → hangs k = hgI (hg C k)) {L : Nat} (hL : L < 2) (N : Nat → Int32) {S : Nat} (hS : S < 2 ^ cO C) (v2 : Int32) : itr (fun s => b_X7_fallOn_12 (nI L) v2 (nI (cO C)) hangs s.1 s.2) FU ((0 : Int32), upd N (9 * L + 6) (nI S)) = some (upd N (9 * L + 6) (nI (hanN C S (cO C)))) := by
  have hO := hC.2.2.1
  refine itr_run (fun i => (nI i, upd N (9 * L + 6) (nI (hanN C S i)))) (cO C) ?_ ?_ FU (lt_FU (by omega))
  · intro i hi
    have h32 : hanN C S i < 32 := lt32 hO (hanN_lt hC hS i (by omega))
    show b_X7_fallOn_12 (nI L) v2 (nI (cO C)) hangs (nI i) (upd N (9 * L + 6) (nI (hanN C S i))) = some (.inl (nI (i + 1), upd N (9 * L + 6) (nI (hanN C S (i + 1)))))
    unfold b_X7_fallOn_12
    rw [if_neg (nI_ge hi (by omega)), ald_nI (f := hangs) (show i < 5 by omega), b_some, hh i hi, hanN_s]
    cases hg1 : hg C i with
    | none => rw [hgI_n, if_pos rfl, hgs_none hg1, nI_succ]; rfl
    | some j =>
      have hj := (hC.2.2.2.2.1 i hi).2.2.2.2 j hg1
      rw [hgI_s, if_neg (neg9 j (by omega)), hgs_some hg1]
      simp only [ix6 hL, ald_nI (f := upd N (9 * L + 6) (nI (hanN C S i))) (show 9 * L + 6 < 18 by omega), ald_nI (f := hangs) (show i < 5 by omega), b_some, hh i hi, hg1, hgI_s, upd_at, has_ok _ h32 j (by omega), ast_nI (f := upd N (9 * L + 6) (nI (hanN C S i))) (show 9 * L + 6 < 18 by omega), b2_0, clr_e _ h32 i (by omega), upd_upd, nI_succ i]
      by_cases h1 : (hanN C S i).testBit j = true <;> simp [h1]
  · show b_X7_fallOn_12 (nI L) v2 (nI (cO C)) hangs (nI (cO C)) (upd N (9 * L + 6) (nI (hanN C S (cO C)))) = _
    unfold b_X7_fallOn_12
    rw [if_pos (nI_le (Nat.le_refl _) (by omega))]
theorem Y_fallOn {C : Cty} (hC : CM C) {hangs : Nat → Int32} (hh : ∀ k, k < cO C → hangs k = hgI (hg C k)) {L : Nat} (hL : L < 2) (N : Nat → Int32) {S : Nat} (hS : S < 2 ^ cO C) : f_X7_fallOn (nI L) (nI (cO C)) hangs (upd N (9 * L + 6) (nI S)) = some (upd N (9 * L + 6) (nI (hanN C S (cO C)))) := by
  have hO := hC.2.2.1
  unfold f_X7_fallOn
  have h : itr (fun s => b_X7_fallOn_2 (nI L) (nI (cO C)) hangs s.1 s.2) FU ((0 : Int32), upd N (9 * L + 6) (nI S)) = some (upd N (9 * L + 6) (nI (hanN C S (cO C)))) := by
    have key := itr_run (b := fun s => b_X7_fallOn_2 (nI L) (nI (cO C)) hangs s.1 s.2) (fun i => (nI i, upd N (9 * L + 6) (nI (if i = 0 then S else hanN C S (cO C))))) (cO C) (r := upd N (9 * L + 6) (nI (hanN C S (cO C)))) ?_ ?_ FU (lt_FU (by omega))
    · exact key
    · intro i hi
      show b_X7_fallOn_2 (nI L) (nI (cO C)) hangs (nI i) (upd N (9 * L + 6) (nI (if i = 0 then S else hanN C S (cO C)))) = some (.inl (nI (i + 1), upd N (9 * L + 6) (nI (if i + 1 = 0 then S else hanN C S (cO C)))))
      unfold b_X7_fallOn_2
      rw [if_neg (nI_ge hi (by omega)), if_neg (show ¬ i + 1 = 0 by omega)]
      by_cases h0 : i = 0
      · rw [if_pos h0, Y_fallPass hC hh hL N hS, b_some, nI_succ]
      · rw [if_neg h0, Y_fallPass hC hh hL N (hanN_lt hC hS _ (Nat.le_refl _)), b_some, hanN_idem hC hS, nI_succ]
    · show b_X7_fallOn_2 (nI L) (nI (cO C)) hangs (nI (cO C)) (upd N (9 * L + 6) (nI (if cO C = 0 then S else hanN C S (cO C)))) = _
      unfold b_X7_fallOn_2
      rw [if_pos (nI_le (Nat.le_refl _) (by omega))]
      by_cases h0 : cO C = 0
      · rw [if_pos h0, h0]; rfl
      · rw [if_neg h0]
  rw [h]; rfl

theorem Y_clapLoop {C : Cty} (hC : CM C) {kind skyAt skyLoud one other worth hangs : Nat → Int32} (hY : CY C kind skyAt skyLoud one other worth hangs) {L : Nat} (hL : L < 2) (N : Nat → Int32) {who S : Nat} (hw : who < 32) (hS : S < 2 ^ cO C) (v4 : Int32) : itr (fun s => b_X7_clapOn_26 (nI L) v4 (nI who) (nI (cO C)) kind one other s.1 s.2) FU ((0 : Int32), upd N (9 * L + 6) (nI S)) = some (upd N (9 * L + 6) (nI (freN C who S (cO C)))) := by
  have hO := hC.2.2.1
  have hP := hC.1
  refine itr_run (fun i => (nI i, upd N (9 * L + 6) (nI (freN C who S i)))) (cO C) ?_ ?_ FU (lt_FU (by omega))
  · intro i hi
    have h32 : freN C who S i < 32 := lt32 hO (freN_lt hC hS i (by omega))
    obtain ⟨e1, e2, -, -⟩ := hY.2.1 i hi
    obtain ⟨d1, d2, -, -, -⟩ := hC.2.2.2.2.1 i hi
    show b_X7_clapOn_26 (nI L) v4 (nI who) (nI (cO C)) kind one other (nI i) (upd N (9 * L + 6) (nI (freN C who S i))) = some (.inl (nI (i + 1), upd N (9 * L + 6) (nI (freN C who S (i + 1)))))
    unfold b_X7_clapOn_26
    rw [if_neg (nI_ge hi (by omega))]
    simp only [ix6 hL, ald_nI (f := upd N (9 * L + 6) (nI (freN C who S i))) (show 9 * L + 6 < 18 by omega), ald_nI (f := one) (show i < 5 by omega), ald_nI (f := other) (show i < 5 by omega), e1, e2, b_some, upd_at, has_ok _ hw _ (show o1 C i < 5 by omega), has_ok _ hw _ (show o2 C i < 5 by omega), ald_nI (f := kind) (show o1 C i < 5 by omega), ald_nI (f := kind) (show o2 C i < 5 by omega), hY.1 _ d1, hY.1 _ d2, ast_nI (f := upd N (9 * L + 6) (nI (freN C who S i))) (show 9 * L + 6 < 18 by omega), b2_0, kd_3 (hC.2.2.2.1 _ d1), kd_3 (hC.2.2.2.1 _ d2), clr_e _ h32 i (by omega), all_e _ h32, upd_upd, nI_succ i, freN, lts]
    by_cases h1 : who.testBit (o1 C i) = true <;> by_cases h2 : who.testBit (o2 C i) = true <;> by_cases h3 : kd C (o1 C i) = 3 <;> by_cases h4 : kd C (o2 C i) = 3 <;> simp [h1, h2, h3, h4]
  · show b_X7_clapOn_26 (nI L) v4 (nI who) (nI (cO C)) kind one other (nI (cO C)) (upd N (9 * L + 6) (nI (freN C who S (cO C)))) = _
    unfold b_X7_clapOn_26
    rw [if_pos (nI_le (Nat.le_refl _) (by omega))]
/-- a clap at a level, by those who hear it -/
theorem Y_clap {C : Cty} (hC : CM C) {kind skyAt skyLoud one other worth hangs : Nat → Int32} (hY : CY C kind skyAt skyLoud one other worth hangs) {L : Nat} (hL : L < 2) {N : Nat → Int32} {who S : Nat} (hw : who < 32) (hS : S < 2 ^ cO C) (hNS : N (9 * L + 6) = nI S) {v2 v3 : Int32} (hh : f_X7_hearers (nI L) v2 v3 (nI (cP C)) kind N = some (nI who)) : f_X7_clapOn (nI L) v2 v3 (nI (cP C)) (nI (cO C)) kind one other hangs N = some (nI (pop S - pop (clapN C who S)), upd N (9 * L + 6) (nI (clapN C who S))) := by
  have hO := hC.2.2.1
  unfold f_X7_clapOn
  have hu := upd_self N (9 * L + 6) hNS
  have hl := Y_clapLoop hC hY hL N hw hS (nI S)
  rw [hu] at hl
  have h32 : clapN C who S < 32 := lt32 hO (clapN_lt hC hS)
  simp only [ix6 hL, ald_nI (f := N) (show 9 * L + 6 < 18 by omega), hNS, b_some, hh, hl, Y_fallOn hC (fun k hk => (hY.2.1 k hk).2.2.2) hL N (freN_lt hC hS _ (Nat.le_refl _)), ald_nI (f := upd N (9 * L + 6) (nI (hanN C (freN C who S (cO C)) (cO C)))) (show 9 * L + 6 < 18 by omega), upd_at]
  have hc := (free_cnt S (lt32 hO hS) _ h32 (clapN_sub hC hS)).2
  unfold clapN at hc ⊢
  rw [hc, b_some]
theorem Y_formOn {C : Cty} (hC : CM C) {hangs : Nat → Int32} (hh : ∀ k, k < cO C → hangs k = hgI (hg C k)) {L : Nat} (hL : L < 2) {N : Nat → Int32} {k S : Nat} (hk : k < cO C) (hS : S < 2 ^ cO C) (hNS : N (9 * L + 6) = nI S) : f_X7_formOn (nI L) (nI k) (nI (cO C)) hangs N = some (nI (pop S - pop (letN C k S)), upd N (9 * L + 6) (nI (letN C k S))) := by
  have hO := hC.2.2.1
  unfold f_X7_formOn
  have hcl := clr_lt _ (by omega) _ hS k (by omega)
  simp only [ix6 hL, ald_nI (f := N) (show 9 * L + 6 < 18 by omega), hNS, b_some, clr_e _ (lt32 hO hS) k (by omega), ast_nI (f := N) (show 9 * L + 6 < 18 by omega), Y_fallOn hC hh hL N hcl, ald_nI (f := upd N (9 * L + 6) (nI (hanN C (clr S k) (cO C)))) (show 9 * L + 6 < 18 by omega), upd_at]
  have hc := (free_cnt S (lt32 hO hS) _ (lt32 hO (letN_lt hC hk hS)) (letN_sub hC hk hS)).2
  unfold letN at hc ⊢
  rw [hc, b_some]
/-! ===== worths and days ===== -/
def worN (C : Cty) (S : Nat) : Nat → Nat
  | 0 => 0
  | n + 1 => worN C S n + b2 (S.testBit n) * wo C n
theorem worN_lt {C : Cty} (hC : CM C) (S : Nat) : ∀ n, n ≤ cO C → worN C S n ≤ 9 * n
  | 0, _ => Nat.le_refl _
  | n + 1, h => by
    have h1 := worN_lt hC S n (by omega)
    have h2 := (hC.2.2.2.2.1 n (by omega)).2.2.2.1
    unfold worN b2
    split <;> omega
theorem X_worthOf {C : Cty} (hC : CM C) {worths : Nat → Int32} (hw : ∀ k, k < cO C → worths k = nI (wo C k)) {S : Nat} (hS : S < 32) : f_X1_worthOf (nI S) (nI (cO C)) worths = some (nI (worN C S (cO C))) := by
  have hO := hC.2.2.1
  unfold f_X1_worthOf
  have h : itr (fun s => b_X1_worthOf_4 (nI S) (nI (cO C)) worths s.1 s.2) FU ((0 : Int32), (0 : Int32)) = some (nI (worN C S (cO C))) := by
    refine itr_run (fun i => (nI (worN C S i), nI i)) (cO C) ?_ ?_ FU (lt_FU (by omega))
    · intro i hi
      show b_X1_worthOf_4 (nI S) (nI (cO C)) worths (nI (worN C S i)) (nI i) = some (.inl (nI (worN C S (i + 1)), nI (i + 1)))
      unfold b_X1_worthOf_4
      rw [if_neg (nI_ge hi (by omega)), bit_ok hS (by omega), b_some, at_nI (by omega) (by decide), b_some, hw i hi, pk_mul, nI_add, nI_succ i]
      rfl
    · show b_X1_worthOf_4 (nI S) (nI (cO C)) worths (nI (worN C S (cO C))) (nI (cO C)) = _
      unfold b_X1_worthOf_4
      rw [if_pos (nI_le (Nat.le_refl _) (by omega))]
  rw [h]; rfl
theorem add0_e (a : Nat) : nI a + (0 : Int32) = nI a := by rw [show (0 : Int32) = nI 0 from rfl, nI_add]; rfl
theorem Y_worthsOf {C : Cty} (hC : CM C) {worth : Nat → Int32} (hw : ∀ k, k < cO C → worth k = nI (wo C k)) {S : Nat} (hS : S < 32) : f_X7_worthsOf (nI S) (nI (cO C)) worth = some (nI (worN C S (cO C))) := by
  have hO := hC.2.2.1
  unfold f_X7_worthsOf
  have h : itr (fun s => b_X7_worthsOf_4 (nI S) (nI (cO C)) worth s.1 s.2) FU ((0 : Int32), (0 : Int32)) = some (nI (worN C S (cO C))) := by
    refine itr_run (fun i => (nI (worN C S i), nI i)) (cO C) ?_ ?_ FU (lt_FU (by omega))
    · intro i hi
      show b_X7_worthsOf_4 (nI S) (nI (cO C)) worth (nI (worN C S i)) (nI i) = some (.inl (nI (worN C S (i + 1)), nI (i + 1)))
      unfold b_X7_worthsOf_4
      rw [if_neg (nI_ge hi (by omega)), has_ok _ hS i (by omega), b_some]
      simp only [b2_0, ald_nI (f := worth) (show i < 5 by omega), b_some, hw i hi, worN, nI_add, nI_succ i, add0_e]
      by_cases h1 : S.testBit i = true <;> simp [h1, b2]
    · show b_X7_worthsOf_4 (nI S) (nI (cO C)) worth (nI (worN C S (cO C))) (nI (cO C)) = _
      unfold b_X7_worthsOf_4
      rw [if_pos (nI_le (Nat.le_refl _) (by omega))]
  rw [h]; rfl
