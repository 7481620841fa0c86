def chN (C : Cty) (wl p ch : Nat) : Nat := if ch = 1 ∨ kd C p = 1 then sett wl p else clr wl p
theorem chN_lt {C : Cty} (hC : CM C) {wl p ch : Nat} (hw : wl < 2 ^ cP C) (hp : p < cP C) : chN C wl p ch < 2 ^ cP C := by
  have hP := hC.1
  unfold chN
  split
  · exact sett_lt _ (by omega) _ hw p hp
  · exact clr_lt _ (by omega) _ hw p (by omega)
theorem X_choose {C : Cty} (hC : CM C) {kinds : Nat → Int32} (hk : ∀ p, p < cP C → kinds p = nI (kd C p)) {wl p ch : Nat} (hw : wl < 2 ^ cP C) (hp : p < cP C) (hch : ch < 2) : f_X4_chooseWool (nI p) (nI ch) (nI wl) (nI (cP C)) kinds = some (nI (chN C wl p ch)) := by
  have hP := hC.1
  have h32 := lt32 hP hw
  have h4 := hC.2.2.2.1 p hp
  unfold f_X4_chooseWool chN
  rw [X_isOf hC hk hp]
  simp only [b_some, two_1 hch, b2_0, kd_1 h4, decide_eq_false_iff_not, set_e wl h32 p (show p < 5 by omega), clr_e wl h32 p (show p < 5 by omega)]
  by_cases h1 : ch = 1 <;> by_cases h2 : kd C p = 1 <;> simp [h1, h2]
theorem Y_choose {C : Cty} (hC : CM C) {kind : Nat → Int32} (hk : ∀ p, p < cP C → kind p = nI (kd C p)) {wl p ch : Nat} (hw : wl < 2 ^ cP C) (hp : p < cP C) (hch : ch < 2) {N : Nat → Int32} (hN : N 14 = nI wl) : f_X7_choose (nI p) (nI ch) kind N = some (upd N 14 (nI (chN C wl p ch))) := by
  have hP := hC.1
  have h32 := lt32 hP hw
  have h4 := hC.2.2.2.1 p hp
  unfold f_X7_choose chN
  rw [l_14, ald_nI (by omega), ald_nI (by omega)]
  simp only [b_some, hN, hk p hp, two_1 hch, kd_1 h4, set_e wl h32 p (show p < 5 by omega), clr_e wl h32 p (show p < 5 by omega)]
  rw [ast_nI (by omega), ast_nI (by omega)]
  by_cases h1 : ch = 1 <;> by_cases h2 : kd C p = 1 <;> simp [h1, h2]
def gainN (C : Cty) (pl : Nat → Nat) (wl S D p own q its : Nat) : Int32 := nI (worN C (oofN C p (cO C) &&& dayS C pl (chN C (chN C wl p own) q its) S D true) (cO C)) - nI own
theorem X_gain {C : Cty} (hC : CM C) {kinds cp ld ones others worths hangs : Nat → Int32} (hX : CX C kinds cp ld ones others worths hangs) {pk : Int32} {pl : Nat → Nat} {wl S W D : Nat} (hp : PX (cP C) pl pk) (hw : wl < 2 ^ cP C) (hS : S < 2 ^ cO C) (hW : W ≤ 9999) (hD : D < 2 ^ 31) {p q own its : Nat} (hp1 : p < cP C) (hq1 : q < cP C) (ho : own < 2) (hi : its < 2) (t1 t2 t3 t4 t5 : Int32) : ∃ s1 s2 s3 s4 s5, f_X6_gain (nI p) (nI own) (nI q) (nI its) (nI (cP C)) (nI (cK C)) (nI (cO C)) pk (nI wl) (nI S) (nI W) (nI D) t1 t2 t3 t4 t5 kinds cp ld ones others worths hangs = some (gainN C pl wl S D p own q its, s1, s2, s3, s4, s5) := by
  have hO := hC.2.2.1
  have hw1 := chN_lt hC (ch := own) hw hp1
  have hw2 := chN_lt hC (ch := its) hw1 hq1
  have eX := X_passDay hC hX hp (lt32 hC.1 hw2) hS hW hD true
  rw [← b2_t] at eX
  have hl := oofN_lt C p (cO C)
  have hd := dayS_lt hC (pl := pl) (wl := chN C (chN C wl p own) q its) (D := D) (cm := true) hS
  unfold f_X6_gain f_X4_copyFrom
  rw [b_some, X_choose hC hX.1 hw hp1 ho, b_some, X_choose hC hX.1 hw1 hq1 hi, b_some, eX, b_some, X_oathsOf hC hX hp1, b_some]
  dsimp only
  rw [and_e _ (lt32 hO hl) _ (lt32 hO hd), X_worthOf hC (fun k hk => (hX.2.1 k hk).2.2.1) (Nat.lt_of_le_of_lt Nat.and_le_left (lt32 hO hl)), b_some]
  exact ⟨_, _, _, _, _, rfl⟩
theorem Y_gain {C : Cty} (hC : CM C) {kind skyAt skyLoud one other worth hangs : Nat → Int32} (hY : CY C kind skyAt skyLoud one other worth hangs) {N : Nat → Int32} {pl : Nat → Nat} {wl S W D : Nat} (hN : NY (cP C) N 0 pl wl S W D) (hw : wl < 2 ^ cP C) (hS : S < 2 ^ cO C) (hc : clo C S) (hW : W ≤ 9999) (hD : D < 2 ^ 31) {p q own its : Nat} (hp1 : p < cP C) (hq1 : q < cP C) (ho : own < 2) (hi : its < 2) : ∃ N1, f_X7_gain (nI p) (nI q) (nI own) (nI its) (nI (cP C)) (nI (cK C)) (nI (cO C)) kind skyAt skyLoud one other worth hangs N = some (gainN C pl wl S D p own q its, N1) ∧ LT 1 N N1 := by
  have hO := hC.2.2.1
  have hP := hC.1
  have hw1 := chN_lt hC (ch := own) hw hp1
  have hw2 := chN_lt hC (ch := its) hw1 hq1
  have hl := oofN_lt C p (cO C)
  have hd := dayS_lt hC (pl := pl) (wl := chN C (chN C wl p own) q its) (D := D) (cm := true) hS
  have n0 : NY (cP C) (va_cpy N N 0 9 9) 9 pl wl S W D := hN.agree hP (fun k hk => by rw [pk_cpy_in (by omega) (by omega)]; congr 1; omega)
  have n1 := n0.set5 hP (chN C wl p own)
  have n2 := n1.set5 hP (chN C (chN C wl p own) q its)
  have eY := Y_passOn hC hY (L := 1) (by omega) n2 (lt32 hP hw2) hS hc hW hD true
  rw [← b2_t, ← l_1] at eY
  unfold f_X7_gain
  rw [Y_layTrial, b_some, Y_choose hC hY.1 hw hp1 ho n0.2.1, b_some, Y_choose hC hY.1 hw1 hq1 hi (upd_at _ _ _), b_some, eY, b_some, Y_oathsOf hC hY hp1, b_some, l_15, ald_nI (by omega), b_some]
  have v6 := (dayR_NY (L := 1) (S' := dayS C pl (chN C (chN C wl p own) q its) S D true) (W' := dayW C pl (chN C (chN C wl p own) q its) S W D true) (D' := D + 1) hP n2).2.2.1
  dsimp only
  rw [show dayR (upd (upd (va_cpy N N 0 9 9) (9 + 5) (nI (chN C wl p own))) (9 + 5) (nI (chN C (chN C wl p own) q its))) 1 (dayS C pl (chN C (chN C wl p own) q its) S D true) (dayW C pl (chN C (chN C wl p own) q its) S W D true) (D + 1) 15 = _ from v6, and_e _ (lt32 hO hl) _ (lt32 hO hd), Y_worthsOf hC (fun k hk => (hY.2.1 k hk).2.2.1) (Nat.lt_of_le_of_lt Nat.and_le_left (lt32 hO hl)), b_some]
  refine ⟨_, rfl, fun k hk => ?_⟩
  unfold dayR
  rw [upd_ne _ _ (by omega), upd_ne _ _ (by omega), upd_ne _ _ (by omega), upd_ne _ _ (by omega), upd_ne _ _ (by omega), pk_cpy_out (by omega)]
def besB (C : Cty) (pl : Nat → Nat) (wl S D p own q its : Nat) : Bool := !decide (gainN C pl wl S D p own q its < gainN C pl wl S D p (1 - own) q its)
theorem one_m : ∀ o, o < 2 → (1 : Int32) - nI o = nI (1 - o) := by decide +kernel
theorem X_isBest {C : Cty} (hC : CM C) {kinds cp ld ones others worths hangs : Nat → Int32} (hX : CX C kinds cp ld ones others worths hangs) {pk : Int32} {pl : Nat → Nat} {wl S W D : Nat} (hp : PX (cP C) pl pk) (hw : wl < 2 ^ cP C) (hS : S < 2 ^ cO C) (hW : W ≤ 9999) (hD : D < 2 ^ 31) {p q own its : Nat} (hp1 : p < cP C) (hq1 : q < cP C) (ho : own < 2) (hi : its < 2) (t1 t2 t3 t4 t5 : Int32) : ∃ s1 s2 s3 s4 s5, f_X6_isBest (nI p) (nI own) (nI q) (nI its) (nI (cP C)) (nI (cK C)) (nI (cO C)) pk (nI wl) (nI S) (nI W) (nI D) t1 t2 t3 t4 t5 kinds cp ld ones others worths hangs = some (nI (b2 (besB C pl wl S D p own q its)), s1, s2, s3, s4, s5) := by
  obtain ⟨s1, s2, s3, s4, s5, e1⟩ := X_gain hC hX hp hw hS hW hD hp1 hq1 ho hi t1 t2 t3 t4 t5
  obtain ⟨u1, u2, u3, u4, u5, e2⟩ := X_gain hC hX hp hw hS hW hD hp1 hq1 (show 1 - own < 2 by omega) hi s1 s2 s3 s4 s5
  unfold f_X6_isBest besB
  rw [e1, b_some]
  dsimp only
  rw [one_m own ho, e2, b_some]
  dsimp only
  by_cases g : gainN C pl wl S D p own q its < gainN C pl wl S D p (1 - own) q its
  · rw [if_pos g, decide_eq_true g]; exact ⟨_, _, _, _, _, rfl⟩
  · rw [if_neg g, decide_eq_false g]; exact ⟨_, _, _, _, _, rfl⟩
theorem Y_isRest {C : Cty} (hC : CM C) {kind skyAt skyLoud one other worth hangs : Nat → Int32} (hY : CY C kind skyAt skyLoud one other worth hangs) {N : Nat → Int32} {pl : Nat → Nat} {wl S W D : Nat} (hN : NY (cP C) N 0 pl wl S W D) (hw : wl < 2 ^ cP C) (hS : S < 2 ^ cO C) (hc : clo C S) (hW : W ≤ 9999) (hD : D < 2 ^ 31) {p q a b : Nat} (hp1 : p < cP C) (hq1 : q < cP C) (ho : a < 2) (hi : b < 2) : ∃ N1, f_X7_isRest (nI p) (nI q) (nI a) (nI b) (nI (cP C)) (nI (cK C)) (nI (cO C)) kind skyAt skyLoud one other worth hangs N = some (nI (b2 (besB C pl wl S D p a q b && besB C pl wl S D q b p a)), N1) ∧ LT 1 N N1 := by
  have hP := hC.1
  have low : ∀ M, LT 1 N M → NY (cP C) M 0 pl wl S W D := fun M h => hN.agree hP (fun k hk => h (0 + k) (by omega))
  obtain ⟨M1, e1, l1⟩ := Y_gain hC hY hN hw hS hc hW hD hp1 hq1 (show 1 - a < 2 by omega) hi
  obtain ⟨M2, e2, l2⟩ := Y_gain hC hY (low M1 l1) hw hS hc hW hD hp1 hq1 ho hi
  have l12 := l1.trans l2
  obtain ⟨M3, e3, l3⟩ := Y_gain hC hY (low M2 l12) hw hS hc hW hD hq1 hp1 (show 1 - b < 2 by omega) ho
  have l13 := l12.trans l3
  obtain ⟨M4, e4, l4⟩ := Y_gain hC hY (low M3 l13) hw hS hc hW hD hq1 hp1 hi ho
  have l14 := l13.trans l4
  unfold f_X7_isRest besB
  rw [one_m a ho, e1, b_some]
  dsimp only
  rw [e2, b_some, one_m b hi]
  dsimp only
  by_cases g : gainN C pl wl S D p a q b < gainN C pl wl S D p (1 - a) q b
  · rw [if_pos g, decide_eq_true g]; exact ⟨_, rfl, l12⟩
  · rw [if_neg g, decide_eq_false g, e3, b_some]
    dsimp only
    rw [e4, b_some]
    dsimp only
    by_cases g2 : gainN C pl wl S D q b p a < gainN C pl wl S D q (1 - b) p a
    · rw [if_pos g2, decide_eq_true g2]; exact ⟨_, rfl, l14⟩
    · rw [if_neg g2, decide_eq_false g2]; exact ⟨_, rfl, l14⟩
def fI (o : Option Nat) : Int32 := match o with
  | none => -9
  | some k => nI (10 * (k / 2) + k % 2)
theorem fI_n : fI none = (-9 : Int32) := rfl
theorem fI_s (k : Nat) : fI (some k) = nI (10 * (k / 2) + k % 2) := rfl
theorem d2_e : ∀ k, k < 4 → nI k / (2 : Int32) = nI (k / 2) := by decide +kernel
theorem r2_e : ∀ k, k < 4 → (nI k - nI k / (2 : Int32) * (2 : Int32)) = nI (k % 2) := by decide +kernel
theorem pr_e : ∀ k, k < 4 → ((10 : Int32) * nI (k / 2)) + nI (k % 2) = nI (10 * (k / 2) + k % 2) := by decide +kernel
theorem whF_n {F : Nat → Bool} {i : Nat} (hw : whF F i = none) : whF F (i + 1) = if F i then some i else none := by
  show (match whF F i with | none => _ | some h => _) = _
  rw [hw]
theorem whF_s {F : Nat → Bool} {i h : Nat} (hw : whF F i = some h) : whF F (i + 1) = some h := by
  show (match whF F i with | none => _ | some h => _) = _
  rw [hw]
theorem whC_s (F : Nat → Bool) (i : Nat) : whC F (i + 1) = whC F i + b2 (F i) := rfl
theorem p_rests {C : Cty} (hC : CM C) {kinds cp ld ones others worths hangs : Nat → Int32} (hX : CX C kinds cp ld ones others worths hangs) {kind skyAt skyLoud one other worth hangs' : Nat → Int32} (hY : CY C kind skyAt skyLoud one other worth hangs') {B : Nat} (hB : B < 2 ^ 29) {a b c d e : Int32} {N : Nat → Int32} (hs : RS C B a b c d e N 0) (ta tb tc td te v1 v2 v3 : Int32) : ∃ r t1 t2 t3 t4 t5 N1, f_X6_rests v1 v2 v3 (nI (cP C)) (nI (cK C)) (nI (cO C)) a b c d e ta tb tc td te kinds cp ld ones others worths hangs = some (r, t1, t2, t3, t4, t5) ∧ f_X7_rests v1 v2 v3 (nI (cP C)) (nI (cK C)) (nI (cO C)) kind skyAt skyLoud one other worth hangs' N = some (r, N1) ∧ LT 1 N N1 := by
  have hP := hC.1
  unfold f_X6_rests f_X7_rests
  rw [hasPerson_e hP, isPerson_e hP, hasPerson_e hP, isPerson_e hP]
  simp only [within_e, in32_e, b_some, b2_0, i64_0, i32_0, i64_1, i32_1]
  by_cases g1 : rng v1.toInt 0 ((cP C : Int) - 1) = false
  · rw [if_pos g1, if_pos g1]; exact ⟨_, _, _, _, _, _, _, rfl, rfl, LT.rfl 1 N⟩
  rw [if_neg g1, if_neg g1]
  by_cases g2 : rng v2.toInt 0 ((cP C : Int) - 1) = false
  · rw [if_pos g2, if_pos g2]; exact ⟨_, _, _, _, _, _, _, rfl, rfl, LT.rfl 1 N⟩
  rw [if_neg g2, if_neg g2]
  by_cases g12 : v1 = v2
  · rw [if_pos g12, if_pos g12]; exact ⟨_, _, _, _, _, _, _, rfl, rfl, LT.rfl 1 N⟩
  rw [if_neg g12, if_neg g12]
  by_cases g3 : rng v3.toInt 0 1 = false
  · rw [if_pos g3, if_pos g3]; exact ⟨_, _, _, _, _, _, _, rfl, rfl, LT.rfl 1 N⟩
  rw [if_neg g3, if_neg g3]
  obtain ⟨p, hp1, rfl⟩ := rng_nI (by simpa only [Bool.not_eq_false] using g1)
  obtain ⟨q, hq1, rfl⟩ := rng_nI (by simpa only [Bool.not_eq_false] using g2)
  rw [X_isOf hC hX.1 hp1, X_isOf hC hX.1 hq1, ald_nI (by omega), ald_nI (by omega), hY.1 p hp1, hY.1 q hq1]
  simp only [b_some, b2_0, decide_eq_false_iff_not, kd_2 (hC.2.2.2.1 p hp1), kd_2 (hC.2.2.2.1 q hq1)]
  by_cases c1 : kd C p = 2
  · rw [if_neg (fun h => h c1), if_pos c1]; exact ⟨_, _, _, _, _, _, _, rfl, rfl, LT.rfl 1 N⟩
  rw [if_pos c1, if_neg c1]
  by_cases c2 : kd C q = 2
  · rw [if_neg (fun h => h c2), if_pos c2]; exact ⟨_, _, _, _, _, _, _, rfl, rfl, LT.rfl 1 N⟩
  rw [if_pos c2, if_neg c2]
  obtain ⟨pl, wl, S, W, D, ⟨h1, h2, h3, h4, h5⟩, ⟨hpx, rfl, rfl, rfl, rfl⟩, hN⟩ := hs
  have hD : D < 2 ^ 31 := by omega
  have low : ∀ M, LT 1 N M → NY (cP C) M 0 pl wl S W D := fun M h => hN.agree hP (fun k hk => h (0 + k) (by omega))
  let F : Nat → Bool := fun k => besB C pl wl S D p (k / 2) q (k % 2) && besB C pl wl S D q (k % 2) p (k / 2)
  obtain ⟨r1, r2, k1, k2, hQ⟩ := itr_two (b1 := fun s => b_X6_rests_78 (nI p) (nI q) v3 (nI (cP C)) (nI (cK C)) (nI (cO C)) a (nI wl) (nI S) (nI W) (nI D) kinds cp ld ones others worths hangs s.1 s.2.1 s.2.2.1 s.2.2.2.1 s.2.2.2.2.1 s.2.2.2.2.2.1 s.2.2.2.2.2.2.1 s.2.2.2.2.2.2.2) (b2 := fun s => b_X7_rests_69 (nI p) (nI q) v3 (nI (cP C)) (nI (cK C)) (nI (cO C)) kind skyAt skyLoud one other worth hangs' s.1 s.2.1 s.2.2.1 s.2.2.2) (fun i s1 s2 => s1.1 = nI (whC F i) ∧ s2.1 = nI (whC F i) ∧ s1.2.1 = fI (whF F i) ∧ s2.2.1 = fI (whF F i) ∧ s1.2.2.1 = nI i ∧ s2.2.2.1 = nI i ∧ LT 1 N s2.2.2.2) 4 (fun r1 r2 => r1.1 = r2.1 ∧ r1.2.1 = r2.2.1 ∧ LT 1 N r2.2.2) (by
    rintro i ⟨p1, p2, p3, p4, p5, p6, p7, p8⟩ ⟨y1, y2, y3, M⟩ hi ⟨q1, q2, q3, q4, q5, q6, q7⟩
    simp only at q1 q2 q3 q4 q5 q6 q7
    subst q1 q2 q3 q4 q5 q6
    dsimp only
    unfold b_X6_rests_78 b_X7_rests_69
    obtain ⟨w1, w2, w3⟩ := wh_lt F i
    by_cases h : i < 4
    · left
      refine ⟨h, ?_⟩
      obtain ⟨s1, s2, s3, s4, s5, e1⟩ := X_isBest hC hX hpx h1 h2 h4 hD hp1 hq1 (show i / 2 < 2 by omega) (show i % 2 < 2 by omega) p4 p5 p6 p7 p8
      obtain ⟨u1, u2, u3, u4, u5, e2⟩ := X_isBest hC hX hpx h1 h2 h4 hD hq1 hp1 (show i % 2 < 2 by omega) (show i / 2 < 2 by omega) s1 s2 s3 s4 s5
      obtain ⟨M1, e3, l3⟩ := Y_isRest hC hY (low M q7) h1 h2 h3 h4 hD hp1 hq1 (show i / 2 < 2 by omega) (show i % 2 < 2 by omega)
      rw [if_neg (by rw [l_4]; exact nI_ge h (by omega)), if_neg (by rw [l_4]; exact nI_ge h (by omega)), b_some, b_some, r2_e i h, d2_e i h, e1, b_some, e3, b_some]
      dsimp only
      rw [e2]
      simp only [b_some, b2_0, whC_s, nI_succ i, pr_e i h]
      by_cases f1 : besB C pl wl S D p (i / 2) q (i % 2) = true
      · by_cases f2 : besB C pl wl S D q (i % 2) p (i / 2) = true
        · have hF : F i = true := by show (_ && _) = true; rw [f1, f2]; rfl
          rw [f1, f2, if_neg (show ¬ true = false by decide), if_neg (show ¬ true = false by decide), if_neg (show ¬ (true && true) = false by decide), hF]
          cases hw : whF F i with
          | none =>
            have h0 := w3.mp hw
            rw [whF_n hw, hF, fI_n, if_pos (show (-9 : Int32) = -9 from rfl), h0, if_pos nI_0, if_pos rfl, fI_s]
            exact ⟨_, _, rfl, rfl, rfl, rfl, rfl, rfl, rfl, rfl, q7.trans l3⟩
          | some h' =>
            have hh := w2 h' hw
            have h4' : ¬ whC F i = 0 := fun e => by rw [w3.mpr e] at hw; cases hw
            rw [whF_s hw, fI_s, if_neg (neg9c _ (by omega)), if_neg (nI_ne0 (by omega) (by omega))]
            exact ⟨_, _, rfl, rfl, nI_1 _, nI_1 _, rfl, rfl, rfl, rfl, q7.trans l3⟩
        · have f2' : besB C pl wl S D q (i % 2) p (i / 2) = false := by simpa using f2
          have hF : F i = false := by show (_ && _) = false; rw [f1, f2']; rfl
          rw [f1, f2', if_neg (show ¬ true = false by decide), if_pos (show false = false from rfl), if_pos (show (true && false) = false from rfl), hF]
          have e9 : whF F (i + 1) = whF F i := by
            cases hw : whF F i with
            | none => rw [whF_n hw, hF]; rfl
            | some h' => rw [whF_s hw]
          rw [e9]
          exact ⟨_, _, rfl, rfl, rfl, rfl, rfl, rfl, rfl, rfl, q7.trans l3⟩
      · have f1' : besB C pl wl S D p (i / 2) q (i % 2) = false := by simpa using f1
        have hF : F i = false := by show (_ && _) = false; rw [f1']; rfl
        rw [f1', if_pos (show false = false from rfl), if_pos (show (false && besB C pl wl S D q (i % 2) p (i / 2)) = false from rfl), hF]
        have e9 : whF F (i + 1) = whF F i := by
          cases hw : whF F i with
          | none => rw [whF_n hw, hF]; rfl
          | some h' => rw [whF_s hw]
        rw [e9]
        exact ⟨_, _, rfl, rfl, rfl, rfl, rfl, rfl, rfl, rfl, q7.trans l3⟩
    · right
      rw [show i = 4 by omega, if_pos (by decide), if_pos (by decide)]
      exact ⟨_, _, rfl, rfl, rfl, rfl, q7⟩) FU 0 ((0 : Int32), (-9 : Int32), (0 : Int32), ta, tb, tc, td, te) ((0 : Int32), (-9 : Int32), (0 : Int32), N) (by omega) (lt_FU (by omega)) ⟨rfl, rfl, rfl, rfl, rfl, rfl, LT.rfl 1 N⟩
  rw [k1, k2, b_some, b_some]
  obtain ⟨z1, z2, z3⟩ := hQ
  by_cases c0 : v3 = 0
  · rw [if_pos c0, if_pos c0, z1]; exact ⟨_, _, _, _, _, _, _, rfl, rfl, z3⟩
  · rw [if_neg c0, if_neg c0, z2]; exact ⟨_, _, _, _, _, _, _, rfl, rfl, z3⟩
