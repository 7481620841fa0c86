/-! ===== who hears ===== -/
theorem reach_1 : ∀ cp, cp < 10 → ∀ l, l < 10 → ∀ p, p < 10 → f_X6_reaches (nI cp) (nI l) (nI p) (1 : Int32) = some (nI (b2 (decide (dst p cp ≤ l / 2)))) := by decide +kernel
theorem reach_0 : ∀ cp, cp < 10 → ∀ l, l < 10 → ∀ p, p < 10 → f_X6_reaches (nI cp) (nI l) (nI p) (0 : Int32) = some (nI (b2 (decide (dst p cp ≤ l)))) := by decide +kernel
theorem far_ok : ∀ p, p < 10 → ∀ q, q < 10 → f_X7_far (nI p) (nI q) = some (nI (dst p q)) := by decide +kernel
theorem dst_lt {p q : Nat} (hp : p < 10) (hq : q < 10) : dst p q < 10 := by unfold dst; split <;> omega
/-- where persons are, by the class's packed places -/
def PX (P : Nat) (pl : Nat → Nat) (pk : Int32) : Prop := ∀ p, p < P → f_X4_placeOf (nI p) pk = some (nI (pl p)) ∧ pl p < 10
theorem kd_2 {k : Nat} (h : k < 4) : (nI k = (2 : Int32)) ↔ k = 2 := nI_eq (a := k) (b := 2) (by omega) (by omega)
theorem kd_3 {k : Nat} (h : k < 4) : (nI k = (3 : Int32)) ↔ k = 3 := nI_eq (a := k) (b := 3) (by omega) (by omega)
theorem kd_1 {k : Nat} (h : k < 4) : (nI k = (1 : Int32)) ↔ k = 1 := nI_eq (a := k) (b := 1) (by omega) (by omega)
theorem kd_0 {k : Nat} (h : k < 4) : (nI k = (0 : Int32)) ↔ k = 0 := nI_eq (a := k) (b := 0) (by omega) (by omega)
theorem X_hearers {C : Cty} (hC : CM C) {kinds : Nat → Int32} (hk : ∀ p, p < cP C → kinds p = nI (kd C p)) {pk : Int32} {pl : Nat → Nat} {wl cp l : Nat} (hp : PX (cP C) pl pk) (hw : wl < 32) (hcp : cp < 10) (hl : l < 10) : f_X4_hearers (nI cp) (nI l) pk (nI wl) (nI (cP C)) kinds = some (nI (hearN C pl wl cp l (cP C))) := by
  have hP := hC.1
  unfold f_X4_hearers
  have h : itr (fun s => b_X4_hearers_5 (nI cp) (nI l) pk (nI wl) (nI (cP C)) kinds s.1 s.2) FU ((0 : Int32), (0 : Int32)) = some (nI (hearN C pl wl cp l (cP C))) := by
    refine itr_run (fun i => (nI (hearN C pl wl cp l i), nI i)) (cP C) ?_ ?_ FU (lt_FU (by omega))
    · intro i hi
      have hlt := hearN_lt C pl wl cp l i
      show b_X4_hearers_5 (nI cp) (nI l) pk (nI wl) (nI (cP C)) kinds (nI (hearN C pl wl cp l i)) (nI i) = some (.inl (nI (hearN C pl wl cp l (i + 1)), nI (i + 1)))
      unfold b_X4_hearers_5
      rw [if_neg (nI_ge hi (by omega)), (hp i hi).1, b_some, bit_ok hw (by omega), b_some]
      simp only [b2_1, reach_1 cp hcp l hl (pl i) (hp i hi).2, reach_0 cp hcp l hl (pl i) (hp i hi).2, b_some, b2_0, at_nI (f := kinds) (show i < 5 by omega) (by decide), hk i hi, kd_2 (hC.2.2.2.1 i hi), hearN_or i (by omega) _ hlt, hearN, hrs, nI_succ]
      by_cases h1 : wl.testBit i = true
      · by_cases h3 : dst (pl i) cp ≤ l / 2
        · have h4 : ¬ l / 2 < dst (pl i) cp := by omega
          by_cases h2 : kd C i = 2 <;> simp [h1, h2, h3, h4]
        · have h4 : l / 2 < dst (pl i) cp := by omega
          by_cases h2 : kd C i = 2 <;> simp [h1, h2, h3, h4]
      · by_cases h3 : dst (pl i) cp ≤ l
        · have h4 : ¬ l < dst (pl i) cp := by omega
          by_cases h2 : kd C i = 2 <;> simp [h1, h2, h3, h4]
        · have h4 : l < dst (pl i) cp := by omega
          by_cases h2 : kd C i = 2 <;> simp [h1, h2, h3, h4]
    · show b_X4_hearers_5 (nI cp) (nI l) pk (nI wl) (nI (cP C)) kinds (nI (hearN C pl wl cp l (cP C))) (nI (cP C)) = _
      unfold b_X4_hearers_5
      rw [if_pos (nI_le (Nat.le_refl _) (by omega))]
  rw [h]; rfl

/-! ===== the reference's level ===== -/
/-- the nine numbers at a level of the reference's row -/
def NY (P : Nat) (N : Nat → Int32) (o : Nat) (pl : Nat → Nat) (wl S W D : Nat) : Prop := (∀ p, p < P → N (o + p) = nI (pl p) ∧ pl p < 10) ∧ N (o + 5) = nI wl ∧ N (o + 6) = nI S ∧ N (o + 7) = nI W ∧ N (o + 8) = nI D
theorem lv_ix {L : Nat} (j : Nat) (hj : j < 9) (hL : L < 2) : ((9 : Int32) * nI L) + nI j = nI (9 * L + j) := by
  rw [show (9 : Int32) = nI 9 from rfl, pk_mul, nI_add]
theorem half_e : ∀ l, l < 10 → nI l / (2 : Int32) = nI (l / 2) := by decide +kernel
theorem Y_hears {C : Cty} (hC : CM C) {kind N : Nat → Int32} (hk : ∀ p, p < cP C → kind p = nI (kd C p)) {L : Nat} (hL : L < 2) {pl : Nat → Nat} {wl S W D cp l : Nat} (hN : NY (cP C) N (9 * L) pl wl S W D) (hw : wl < 32) (hcp : cp < 10) (hl : l < 10) {i : Nat} (hi : i < cP C) : f_X7_hears (nI L) (nI i) (nI cp) (nI l) kind N = some (nI (b2 (hrs C pl wl i cp l))) := by
  have hP := hC.1
  have hd := dst_lt (hN.1 i hi).2 hcp
  unfold f_X7_hears
  simp only [lv_ix 5 (by omega) hL, lv_ix i (by omega) hL, show (5 : Int32) = nI 5 from rfl]
  simp only [ald_nI (f := N) (show 9 * L + 5 < 18 by omega), ald_nI (f := N) (show 9 * L + i < 18 by omega), ald_nI (f := kind) (show i < 5 by omega), b_some, hN.2.1, has_ok wl hw i (by omega), hk i hi, kd_2 (hC.2.2.2.1 i hi), (hN.1 i hi).1, far_ok _ (hN.1 i hi).2 cp hcp, b2_0, half_e l hl, nI_ltI (show l < 2 ^ 31 by omega) (show dst (pl i) cp < 2 ^ 31 by omega), nI_ltI (show l / 2 < 2 ^ 31 by omega) (show dst (pl i) cp < 2 ^ 31 by omega), hrs]
  by_cases h1 : wl.testBit i = true
  · by_cases h3 : dst (pl i) cp ≤ l / 2
    · have h4 : ¬ l / 2 < dst (pl i) cp := by omega
      by_cases h2 : kd C i = 2 <;> simp [h1, h2, h3, h4, b2] <;> rfl
    · have h4 : l / 2 < dst (pl i) cp := by omega
      by_cases h2 : kd C i = 2 <;> simp [h1, h2, h3, h4, b2] <;> rfl
  · by_cases h3 : dst (pl i) cp ≤ l
    · have h4 : ¬ l < dst (pl i) cp := by omega
      by_cases h2 : kd C i = 2 <;> simp [h1, h2, h3, h4, b2] <;> rfl
    · have h4 : l < dst (pl i) cp := by omega
      by_cases h2 : kd C i = 2 <;> simp [h1, h2, h3, h4, b2] <;> rfl
theorem Y_hearers {C : Cty} (hC : CM C) {kind N : Nat → Int32} (hk : ∀ p, p < cP C → kind p = nI (kd C p)) {L : Nat} (hL : L < 2) {pl : Nat → Nat} {wl S W D cp l : Nat} (hN : NY (cP C) N (9 * L) pl wl S W D) (hw : wl < 32) (hcp : cp < 10) (hl : l < 10) : f_X7_hearers (nI L) (nI cp) (nI l) (nI (cP C)) kind N = some (nI (hearN C pl wl cp l (cP C))) := by
  have hP := hC.1
  unfold f_X7_hearers
  have h : itr (fun s => b_X7_hearers_6 (nI L) (nI cp) (nI l) (nI (cP C)) kind N s.1 s.2) FU ((0 : Int32), (0 : Int32)) = some (nI (hearN C pl wl cp l (cP C))) := by
    refine itr_run (fun i => (nI (hearN C pl wl cp l i), nI i)) (cP C) ?_ ?_ FU (lt_FU (by omega))
    · intro i hi
      have hlt := hearN_lt C pl wl cp l i
      have h32 : hearN C pl wl cp l i < 32 := lt32 (by omega) hlt
      have h9 : ¬ nI cp = (-9 : Int32) := (by decide +kernel : ∀ c, c < 10 → ¬ nI c = (-9 : Int32)) cp hcp
      show b_X7_hearers_6 (nI L) (nI cp) (nI l) (nI (cP C)) kind N (nI (hearN C pl wl cp l i)) (nI i) = some (.inl (nI (hearN C pl wl cp l (i + 1)), nI (i + 1)))
      unfold b_X7_hearers_6
      rw [if_neg (nI_ge hi (by omega)), if_neg h9, Y_hears hC hk hL hN hw hcp hl hi, b_some]
      simp only [b2_0, b_some, or0_e _ h32, hearN_or i (by omega) _ hlt, hearN, nI_succ]
      by_cases h1 : hrs C pl wl i cp l = true <;> simp [h1]
    · show b_X7_hearers_6 (nI L) (nI cp) (nI l) (nI (cP C)) kind N (nI (hearN C pl wl cp l (cP C))) (nI (cP C)) = _
      unfold b_X7_hearers_6
      rw [if_pos (nI_le (Nat.le_refl _) (by omega))]
  rw [h]; rfl
theorem Y_hearers_none {v1 v3 : Int32} {P : Nat} (hP : P ≤ 5) {kind N : Nat → Int32} : f_X7_hearers v1 (-9 : Int32) v3 (nI P) kind N = some (0 : Int32) := by
  unfold f_X7_hearers
  have h : itr (fun s => b_X7_hearers_6 v1 (-9 : Int32) v3 (nI P) kind N s.1 s.2) FU ((0 : Int32), (0 : Int32)) = some (0 : Int32) := by
    refine itr_run (fun _ => ((0 : Int32), (0 : Int32))) 0 (fun i hi => absurd hi (by omega)) ?_ FU (lt_FU (by omega))
    show b_X7_hearers_6 v1 (-9 : Int32) v3 (nI P) kind N (0 : Int32) (0 : Int32) = _
    unfold b_X7_hearers_6
    by_cases h : nI P ≤ (0 : Int32)
    · rw [if_pos h]
    · rw [if_neg h, if_pos rfl]
  rw [h]; rfl
/-! ===== the sky of a day ===== -/
def skyN (C : Cty) (D : Nat) : Option (Nat × Nat) := if cK C = 0 then none else sk C (D % cK C)
def hskN (C : Cty) (pl : Nat → Nat) (wl D : Nat) : Nat := match skyN C D with
  | none => 0
  | some (p, l) => hearN C pl wl p l (cP C)
theorem rm_nI {a b : Nat} (ha : a < 2 ^ 31) (h0 : 0 < b) (hb : b < 2 ^ 31) : rmI (nI a) (nI b) = some (nI (a % b)) := by
  unfold rmI
  rw [if_neg (nI_ne0 h0 hb), pk_rem ha h0 hb]
theorem xor_nn {a b : Nat} (ha : a < 2 ^ 31) (hb : b < 2 ^ 31) : (0 : Int32) ≤ (nI a ^^^ nI b) := by
  have hx : nI a ^^^ nI b = nI (a ^^^ b) := by
    apply Int32.toBitVec_inj.1
    show BitVec.ofNat 32 a ^^^ BitVec.ofNat 32 b = BitVec.ofNat 32 (a ^^^ b)
    apply BitVec.eq_of_getLsbD_eq
    intro i hi
    simp [hi]
  rw [hx]
  exact nI_pos' (Nat.xor_lt_two_pow ha hb)
theorem fmod_ok {a b : Nat} (ha : a < 2 ^ 31) (h0 : 0 < b) (hb : b < 2 ^ 31) : f_J9_floorMod_7cf53 (nI a) (nI b) = some (nI (a % b)) := by
  unfold f_J9_floorMod_7cf53
  rw [rm_nI ha h0 hb, b_some, if_pos (xor_nn ha hb)]
theorem X_skyOn {K D : Nat} (hK : K ≤ 5) (hD : D < 2 ^ 31) : f_X1_skyOn (nI D) (nI K) = some (if K = 0 then (-9 : Int32) else nI (D % K)) := by
  unfold f_X1_skyOn
  by_cases h : K = 0
  · subst h; rw [if_pos (by decide), if_pos rfl]
  · rw [if_neg (nI_nle (by omega) (by omega)), if_neg h]
    have hm : (if (1 : Int32) < nI K then nI K else (1 : Int32)) = nI K := by
      by_cases h1 : K = 1
      · subst h1; decide
      · rw [if_pos]
        exact nI_lt (a := 1) (b := K) (by omega) (by omega)
    rw [hm, fmod_ok hD (by omega) (by omega)]; rfl
theorem neg9 : ∀ j, j < 5 → ¬ nI j = (-9 : Int32) := by decide +kernel
theorem neg1 : ∀ j, j < 10 → ¬ nI j = (-1 : Int32) := by decide +kernel
theorem neg9' : ∀ j, j < 10 → ¬ nI j = (-9 : Int32) := by decide +kernel
theorem X_skyHearers {C : Cty} (hC : CM C) {kinds cp ld ones others worths hangs : Nat → Int32} (hX : CX C kinds cp ld ones others worths hangs) {pk : Int32} {pl : Nat → Nat} {wl D : Nat} (hp : PX (cP C) pl pk) (hw : wl < 32) (hD : D < 2 ^ 31) : f_X4_skyHearers pk (nI wl) (nI D) (nI (cP C)) (nI (cK C)) kinds cp ld = some (nI (hskN C pl wl D)) := by
  unfold f_X4_skyHearers
  rw [X_skyOn hC.2.1 hD, b_some]
  unfold hskN skyN
  by_cases h : cK C = 0
  · rw [if_pos h, if_pos h, if_pos rfl]; rfl
  · rw [if_neg h, if_neg h]
    have hd : D % cK C < cK C := Nat.mod_lt _ (by omega)
    have hK := hC.2.1
    rw [if_neg (neg9 _ (by omega)), at_nI (by omega) (by decide), b_some]
    cases hs : sk C (D % cK C) with
    | none => rw [(hX.2.2 _ hd).1 hs, if_pos rfl]; rfl
    | some q =>
      obtain ⟨p, l⟩ := q
      obtain ⟨e1, e2⟩ := (hX.2.2 _ hd).2 p l hs
      obtain ⟨b1, b3⟩ := hC.2.2.2.2.2 _ hd p l hs
      rw [e2, if_neg (neg1 l (by omega)), at_nI (by omega) (by decide), b_some, b_some, e1, X_hearers hC hX.1 hp hw (by omega) (by omega)]; rfl
theorem Y_sky {C : Cty} (hC : CM C) {kind skyAt skyLoud one other worth hangs : Nat → Int32} (hY : CY C kind skyAt skyLoud one other worth hangs) {D : Nat} (hD : D < 2 ^ 31) : ∃ a b : Int32, f_X7_skyOf (nI D) (nI (cK C)) skyAt = some a ∧ f_X7_loudOf (nI D) (nI (cK C)) skyLoud = some b ∧ (skyN C D = none → a = -9) ∧ ∀ p l, skyN C D = some (p, l) → a = nI p ∧ b = nI l ∧ p < 10 ∧ l < 10 := by
  unfold f_X7_skyOf f_X7_loudOf skyN
  by_cases h : cK C = 0
  · rw [h, if_pos rfl]
    exact ⟨-9, 0, by rw [if_pos nI_0], by rw [if_pos nI_0], fun _ => rfl, fun p l h => by cases h⟩
  · have hK := hC.2.1
    have hd : D % cK C < cK C := Nat.mod_lt _ (by omega)
    rw [if_neg (nI_ne0 (by omega) (by omega)), if_neg (nI_ne0 (by omega) (by omega)), rm_nI hD (by omega) (by omega), b_some, b_some, ald_nI (by omega), ald_nI (by omega)]
    refine ⟨_, _, rfl, rfl, ?_, ?_⟩
    · rw [if_neg h]; exact (hY.2.2 _ hd).1
    · rw [if_neg h]
      intro p l hs
      obtain ⟨e1, e2⟩ := (hY.2.2 _ hd).2 p l hs
      obtain ⟨b1, b3⟩ := hC.2.2.2.2.2 _ hd p l hs
      exact ⟨e1, e2, by omega, by omega⟩
