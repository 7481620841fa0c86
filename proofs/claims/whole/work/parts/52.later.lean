theorem l96 : (9 : Int32) + (6 : Int32) = nI 15 := by decide
theorem l97 : (9 : Int32) + (7 : Int32) = nI 16 := by decide
theorem i64_0 : (0 : Int64).toInt = 0 := rfl
theorem i32_0 : (0 : Int32).toInt = 0 := rfl
theorem i64_1 : (1 : Int64).toInt = 1 := rfl
theorem i32_1 : (1 : Int32).toInt = 1 := rfl
theorem i64_4 : (4 : Int64).toInt = 4 := rfl
theorem i32_4 : (4 : Int32).toInt = 4 := rfl
theorem i64_6 : (6 : Int64).toInt = 6 := rfl
theorem i32_6 : (6 : Int32).toInt = 6 := rfl
theorem i64_9 : (9 : Int64).toInt = 9 := rfl
theorem i32_9 : (9 : Int32).toInt = 9 := rfl
theorem i64_10 : (10 : Int64).toInt = 10 := rfl
theorem i32_10 : (10 : Int32).toInt = 10 := rfl
theorem i64_30 : (30 : Int64).toInt = 30 := rfl
theorem i32_30 : (30 : Int32).toInt = 30 := rfl
theorem rng_lo {x : Int32} {lo k : Nat} (h : rng x.toInt (lo : Int) (k : Int) = true) : ∃ j, lo ≤ j ∧ j ≤ k ∧ x = nI j := by
  have h2 := of_decide_eq_true (p := ((lo : Int) ≤ x.toInt ∧ x.toInt ≤ (k : Int))) h
  obtain ⟨j, hj, rfl⟩ := rng_k (x := x) (k := k) (decide_eq_true (by omega))
  have hb : (nI j).toInt < 2 ^ 31 := Int32.toInt_lt _
  by_cases hj31 : j < 2 ^ 31
  · rw [nI_toInt hj31] at h2
    exact ⟨j, by omega, by omega, rfl⟩
  · have := Int32.toInt_lt (nI j)
    obtain ⟨j', hj', e⟩ := nI_of (x := nI j) (by rw [Int32.lt_iff_toInt_lt, i32_0]; omega)
    rw [e, nI_toInt hj'] at h2
    exact ⟨j', by omega, by omega, e⟩
theorem p_later {C : Cty} (hC : CM C) {kinds cp ld ones others worths hangs : Nat → Int32} (hX : CX C kinds cp ld ones others worths hangs) {kind skyAt skyLoud one other worth hangs' : Nat → Int32} (hY : CY C kind skyAt skyLoud one other worth hangs') {B : Nat} (hB : B < 2 ^ 29) {a b c d e : Int32} {N : Nat → Int32} (hs : RS C B a b c d e N 0) (ta tb tc td te v1 v2 : Int32) : ∃ r t1 t2 t3 t4 t5 N1, f_X6_later v1 v2 (nI (cP C)) (nI (cK C)) (nI (cO C)) a b c d e ta tb tc td te kinds cp ld ones others worths hangs = some (r, t1, t2, t3, t4, t5) ∧ f_X7_later v1 v2 (nI (cP C)) (nI (cK C)) (nI (cO C)) kind skyAt skyLoud one other worth hangs' N = some (r, N1) ∧ LT 1 N N1 := by
  unfold f_X6_later f_X7_later f_X4_copyFrom
  simp only [within_e, in32_e, b_some, b2_0, i64_0, i32_0, i64_1, i32_1, i64_30, i32_30]
  by_cases g1 : rng v1.toInt 0 30 = false
  · rw [if_pos g1, if_pos g1]; exact ⟨_, _, _, _, _, _, _, rfl, rfl, LT.rfl 1 N⟩
  rw [if_neg g1, if_neg g1]
  by_cases g2 : rng v2.toInt 0 1 = false
  · rw [if_pos g2, if_pos g2]; exact ⟨_, _, _, _, _, _, _, rfl, rfl, LT.rfl 1 N⟩
  rw [if_neg g2, if_neg g2]
  obtain ⟨n, hn, rfl⟩ := rng_k (k := 30) (by simpa using g1)
  obtain ⟨M, e1, h1, h2⟩ := r_copy hC hs
  obtain ⟨c1, d1, e2, M2, q1, q2, q3, q4⟩ := r_days hC hX hY hB h1 (show n ≤ 30 by omega)
  obtain ⟨-, v6, v7, -, -⟩ := q3.val hC
  rw [e1, b_some, q1, b_some, q2, b_some, l96, l97, ald_nI (by omega), ald_nI (by omega), b_some, b_some, v6, v7]
  by_cases c0 : v2 = 0
  · rw [if_pos c0, if_pos c0]; exact ⟨_, _, _, _, _, _, _, rfl, rfl, h2.trans q4⟩
  · rw [if_neg c0, if_neg c0]; exact ⟨_, _, _, _, _, _, _, rfl, rfl, h2.trans q4⟩
theorem p_lasts {C : Cty} (hC : CM C) {kinds cp ld ones others worths hangs : Nat → Int32} (hX : CX C kinds cp ld ones others worths hangs) {kind skyAt skyLoud one other worth hangs' : Nat → Int32} (hY : CY C kind skyAt skyLoud one other worth hangs') {B : Nat} (hB : B < 2 ^ 29) {a b c d e : Int32} {N : Nat → Int32} (hs : RS C B a b c d e N 0) (ta tb tc td te v1 : Int32) : ∃ r t1 t2 t3 t4 t5 N1, f_X6_lasts v1 (nI (cP C)) (nI (cK C)) (nI (cO C)) a b c d e ta tb tc td te kinds cp ld ones others worths hangs = some (r, t1, t2, t3, t4, t5) ∧ f_X7_lasts v1 (nI (cP C)) (nI (cK C)) (nI (cO C)) kind skyAt skyLoud one other worth hangs' N = some (r, N1) ∧ LT 1 N N1 := by
  have hO := hC.2.2.1
  unfold f_X6_lasts f_X7_lasts f_X4_copyFrom
  rw [hasOath_e hO, isOath_e hO]
  simp only [b_some, b2_0]
  by_cases g1 : rng v1.toInt 0 ((cO C : Int) - 1) = false
  · rw [if_pos g1, if_pos g1]; exact ⟨_, _, _, _, _, _, _, rfl, rfl, LT.rfl 1 N⟩
  rw [if_neg g1, if_neg g1]
  obtain ⟨k, hk, rfl⟩ := rng_nI (by simpa using g1)
  obtain ⟨-, v6, -, -, S, hS, rfl⟩ := hs.val hC
  rw [Nat.zero_add] at v6
  rw [X_isSworn hC hS hk, b_some, l_6, ald_nI (by omega), b_some, v6, has_ok _ (lt32 hO hS) k (by omega), b_some]
  simp only [b2_0]
  by_cases g2 : S.testBit k = false
  · rw [if_pos g2, if_pos g2]; exact ⟨_, _, _, _, _, _, _, rfl, rfl, LT.rfl 1 N⟩
  rw [if_neg g2, if_neg g2]
  obtain ⟨M, e1, h1, h2⟩ := r_copy hC hs
  rw [e1, b_some]
  obtain ⟨r1, r2, k1, k2, hQ⟩ := itr_two (b1 := fun s => b_X6_lasts_40 (nI k) (nI (cP C)) (nI (cK C)) (nI (cO C)) a b kinds cp ld ones others worths hangs s.1 s.2.1 s.2.2.1 s.2.2.2) (b2 := fun s => b_X7_lasts_33 (nI k) (nI (cP C)) (nI (cK C)) (nI (cO C)) kind skyAt skyLoud one other worth hangs' s.1 s.2) (fun i s1 s2 => s1.1 = nI (i + 1) ∧ s2.1 = nI (i + 1) ∧ RS C (B + i) a b s1.2.1 s1.2.2.1 s1.2.2.2 s2.2 9 ∧ LT 1 M s2.2) 30 (fun r1 r2 => (∃ x y, r1 = Sum.inl x ∧ r2 = Sum.inl y ∧ LT 1 M y) ∨ (∃ v t1 t2 t3 t4 t5 y, r1 = Sum.inr (v, t1, t2, t3, t4, t5) ∧ r2 = Sum.inr (v, y) ∧ LT 1 M y)) (by
    rintro i ⟨x, c, d, e⟩ ⟨y, M'⟩ hi ⟨q1, q2, q3, q4⟩
    simp only at q1 q2 q3 q4
    subst q1
    subst q2
    dsimp only
    unfold b_X6_lasts_40 b_X7_lasts_33
    rw [l_30, l_31]
    by_cases h : i < 30
    · obtain ⟨r, c1, d1, e1, N1, w1, w2, w3, w4⟩ := r_day hC hX hY (L := 1) (by omega) (show B + i < 2 ^ 30 by omega) q3 true
      rw [← b2_t] at w1 w2
      rw [show nI 1 = (1 : Int32) from rfl] at w2
      obtain ⟨-, u6, -, -, T, hT, rfl⟩ := w3.val hC
      rw [if_neg (nI_nlt (by omega) (by omega)), if_neg (nI_ge (by omega) (by omega)), w1, w2, b_some, b_some, X_isSworn hC hT hk, b_some, l_15, ald_nI (by omega), b_some, show (r, N1).snd 15 = nI T from u6, has_ok _ (lt32 hO hT) k (by omega), b_some]
      simp only [b2_0]
      by_cases g3 : T.testBit k = false
      · right
        rw [if_pos g3, if_pos g3]
        exact ⟨_, _, rfl, rfl, Or.inr ⟨_, _, _, _, _, _, _, rfl, rfl, q4.trans w4⟩⟩
      · left
        rw [if_neg g3, if_neg g3]
        exact ⟨h, _, _, rfl, rfl, nI_1 _, nI_1 _, w3, q4.trans w4⟩
    · right
      rw [if_pos (nI_lt (by omega) (by omega)), if_pos (nI_le (by omega) (by omega))]
      exact ⟨_, _, rfl, rfl, Or.inl ⟨_, _, rfl, rfl, q4⟩⟩) FU 0 ((1 : Int32), nI S, d, e) ((1 : Int32), M) (by omega) (lt_FU (by omega)) ⟨rfl, rfl, h1, LT.rfl 1 M⟩
  rw [k1, k2]
  rcases hQ with ⟨x, y, rfl, rfl, hy⟩ | ⟨v, t1, t2, t3, t4, t5, y, rfl, rfl, hy⟩
  · exact ⟨_, _, _, _, _, _, _, rfl, rfl, h2.trans hy⟩
  · exact ⟨_, _, _, _, _, _, _, rfl, rfl, h2.trans hy⟩
theorem r_put {C : Cty} (hC : CM C) {B : Nat} {a b c d e : Int32} {N : Nat → Int32} {o : Nat} (hs : RS C B a b c d e N o) {p v : Nat} (hp : p < cP C) (hv : v < 10) : ∃ a1, f_X4_putAt (nI p) (nI v) a = some a1 ∧ RS C B a1 b c d e (upd N (o + p) (nI v)) o := by
  obtain ⟨pl, wl, S, W, D, hm, ⟨hpx, h2, h3, h4, h5⟩, hN⟩ := hs
  obtain ⟨a1, e1, e2⟩ := X_putAt hC.1 hpx hp hv
  exact ⟨a1, e1, setP pl p v, wl, S, W, D, hm, ⟨e2, h2, h3, h4, h5⟩, hN.setp hC.1 hp hv⟩
theorem nW_m1 : ∀ W, W < 10000 → ¬ nI W ≤ (-1 : Int32) ∧ ¬ nI W ≤ (-9 : Int32) := by
  intro W h
  have h1 : (nI W).toInt = (W : Int) := nI_toInt (by omega)
  have h2 : ((-1 : Int32)).toInt = -1 := rfl
  have h3 : ((-9 : Int32)).toInt = -9 := rfl
  constructor
  · rw [Int32.le_iff_toInt_le, h1, h2]; omega
  · rw [Int32.le_iff_toInt_le, h1, h3]; omega
theorem p_best {C : Cty} (hC : CM C) {kinds cp ld ones others worths hangs : Nat → Int32} (hX : CX C kinds cp ld ones others worths hangs) {kind skyAt skyLoud one other worth hangs' : Nat → Int32} (hY : CY C kind skyAt skyLoud one other worth hangs') {B : Nat} (hB : B < 2 ^ 29) {a b c d e : Int32} {N : Nat → Int32} (hs : RS C B a b c d e N 0) (ta tb tc td te v1 v2 v3 : Int32) : ∃ r t1 t2 t3 t4 t5 N1, f_X6_best v1 v2 v3 (nI (cP C)) (nI (cK C)) (nI (cO C)) a b c d e ta tb tc td te kinds cp ld ones others worths hangs = some (r, t1, t2, t3, t4, t5) ∧ f_X7_best v1 v2 v3 (nI (cP C)) (nI (cK C)) (nI (cO C)) kind skyAt skyLoud one other worth hangs' N = some (r, N1) ∧ LT 1 N N1 := by
  have hP := hC.1
  unfold f_X6_best f_X7_best
  rw [hasPerson_e hP, isPerson_e hP, b_some, b_some]
  simp only [within_e, in32_e, b_some, b2_0, i64_0, i32_0, i64_1, i32_1, i64_9, i32_9]
  by_cases g1 : rng v1.toInt 0 ((cP C : Int) - 1) = false
  · rw [if_pos g1, if_pos g1]; exact ⟨_, _, _, _, _, _, _, rfl, rfl, LT.rfl 1 N⟩
  rw [if_neg g1, if_neg g1]
  by_cases g2 : rng v2.toInt 1 9 = false
  · rw [if_pos g2, if_pos g2]; exact ⟨_, _, _, _, _, _, _, rfl, rfl, LT.rfl 1 N⟩
  rw [if_neg g2, if_neg g2]
  by_cases g3 : rng v3.toInt 0 1 = false
  · rw [if_pos g3, if_pos g3]; exact ⟨_, _, _, _, _, _, _, rfl, rfl, LT.rfl 1 N⟩
  rw [if_neg g3, if_neg g3]
  obtain ⟨k, hk, rfl⟩ := rng_nI (by simpa using g1)
  obtain ⟨n, hn1, hn9, rfl⟩ := rng_lo (lo := 1) (k := 9) (by simpa using g2)
  obtain ⟨r1, r2, k1, k2, hQ⟩ := itr_two (b1 := fun s => b_X6_best_44 (nI k) (nI n) v3 (nI (cP C)) (nI (cK C)) (nI (cO C)) a b c d e kinds cp ld ones others worths hangs s.1 s.2.1 s.2.2.1 s.2.2.2.1 s.2.2.2.2.1 s.2.2.2.2.2.1 s.2.2.2.2.2.2.1 s.2.2.2.2.2.2.2) (b2 := fun s => b_X7_best_46 (nI k) (nI n) v3 (nI (cP C)) (nI (cK C)) (nI (cO C)) kind skyAt skyLoud one other worth hangs' s.1 s.2.1 s.2.2.1 s.2.2.2) (fun i s1 s2 => s1.2.2.1 = nI i ∧ s2.2.2.1 = nI i ∧ LT 1 N s2.2.2.2 ∧ ((i = 0 ∧ s1.2.1 = -1 ∧ s2.2.1 = -9) ∨ (0 < i ∧ s1.1 = s2.1 ∧ s1.2.1 = s2.2.1))) 10 (fun r1 r2 => r1.1 = r2.1 ∧ r1.2.1 = r2.2.1 ∧ LT 1 N r2.2.2) (by
    rintro i ⟨p1, p2, p3, p4, p5, p6, p7, p8⟩ ⟨y1, y2, y3, M⟩ hi ⟨q1, q2, q3, q4⟩
    simp only at q1 q2 q3 q4
    subst q1
    subst q2
    dsimp only
    unfold b_X6_best_44 b_X7_best_46 f_X4_copyFrom
    rw [b_some]
    by_cases h : i < 10
    · left
      obtain ⟨M1, m1, m2, m3⟩ := r_copy hC (q3.low hC hs)
      obtain ⟨a1, m4, m5⟩ := r_put hC m2 hk (show i < 10 from h)
      obtain ⟨c1, d1, e2, M2, w1, w2, w3, w4⟩ := r_days hC hX hY hB m5 (show n ≤ 30 by omega)
      obtain ⟨-, -, u7, -, -⟩ := w3.val hC
      have hW : ∃ W, W < 10000 ∧ d1 = nI W := by
        obtain ⟨pl, wl, S, W, D, hm, ⟨-, -, -, h8, -⟩, -⟩ := w3
        exact ⟨W, by have := hm.2.2.2.1; omega, h8⟩
      obtain ⟨W, hW1, rfl⟩ := hW
      rw [if_neg (by rw [l_9]; exact nI_nlt (by omega) (by omega)), if_neg (by rw [l_10]; exact nI_ge h (by omega)), m1, m4, b_some, b_some, l_9, nI_add, ast_nI (by omega), b_some, w1, w2, b_some, b_some, l_16, ald_nI (by omega), b_some, b_some, b_some, b_some, b_some, u7]
      have hu : LT 1 M1 (upd M1 (9 + k) (nI i)) := fun j hj => upd_ne _ _ (by omega)
      have hlt : LT 1 N M2 := (q3.trans m3).trans (hu.trans w4)
      rcases q4 with ⟨rfl, rfl, rfl⟩ | ⟨q5, rfl, rfl⟩
      · rw [if_neg (nW_m1 W hW1).1, if_neg (nW_m1 W hW1).2, if_neg (nW_m1 W hW1).2]
        exact ⟨by omega, _, _, rfl, rfl, nI_1 0, nI_1 0, hlt, Or.inr ⟨by omega, rfl, rfl⟩⟩
      · by_cases hle : nI W ≤ p2
        · rw [if_pos hle, if_pos hle, if_pos hle]
          exact ⟨h, _, _, rfl, rfl, nI_1 i, nI_1 i, hlt, Or.inr ⟨by omega, rfl, rfl⟩⟩
        · rw [if_neg hle, if_neg hle, if_neg hle]
          exact ⟨h, _, _, rfl, rfl, nI_1 i, nI_1 i, hlt, Or.inr ⟨by omega, rfl, rfl⟩⟩
    · right
      rw [show i = 10 by omega] at q4 ⊢
      rw [if_pos (by decide), if_pos (by decide)]
      rcases q4 with ⟨q5, -, -⟩ | ⟨-, q5, q6⟩
      · omega
      · exact ⟨_, _, rfl, rfl, q5, q6, q3⟩) FU 0 ((0 : Int32), (-1 : Int32), (0 : Int32), ta, tb, tc, td, te) ((-9 : Int32), (-9 : Int32), (0 : Int32), N) (by omega) (lt_FU (by omega)) ⟨rfl, rfl, LT.rfl 1 N, Or.inl ⟨rfl, rfl, rfl⟩⟩
  rw [k1, k2, b_some, b_some]
  obtain ⟨h1, h2, h3⟩ := hQ
  by_cases c0 : v3 = 0
  · rw [if_pos c0, if_pos c0, h1]; exact ⟨_, _, _, _, _, _, _, rfl, rfl, h3⟩
  · rw [if_neg c0, if_neg c0, h2]; exact ⟨_, _, _, _, _, _, _, rfl, rfl, h3⟩
theorem full_i : ∀ O, O < 6 → (((1 : Int32) <<< (nI O &&& 31)) - (1 : Int32)).toInt = ((2 ^ O : Nat) : Int) - 1 := by decide +kernel
theorem and_c : ∀ S, S < 32 → ∀ T, T < 32 → (((nI S &&& nI T) = (0 : Int32)) ↔ ((nI T &&& nI S) = (0 : Int32))) := by decide +kernel
theorem p_frees {C : Cty} (hC : CM C) {kinds cp ld ones others worths hangs : Nat → Int32} (hX : CX C kinds cp ld ones others worths hangs) {kind skyAt skyLoud one other worth hangs' : Nat → Int32} (hY : CY C kind skyAt skyLoud one other worth hangs') {B : Nat} {a b c d e : Int32} {N : Nat → Int32} (hs : RS C B a b c d e N 0) (ta tb tc td te v1 v2 : Int32) : ∃ r t1 t2 t3 t4 t5 N1, f_X6_frees v1 v2 (nI (cP C)) (nI (cO C)) a b c d e ta tb tc td te kinds ones others hangs = some (r, t1, t2, t3, t4, t5) ∧ f_X7_frees v1 v2 (nI (cP C)) (nI (cO C)) kind one other hangs' N = some (r, N1) ∧ LT 1 N N1 := by
  have hO := hC.2.2.1
  unfold f_X6_frees f_X7_frees
  simp only [within_e, in32_e, b_some, b2_0, i64_0, i32_0, i64_1, i32_1, Int32.toInt_toInt64, full_i (cO C) (show cO C < 6 by omega)]
  by_cases g1 : rng v1.toInt 0 (((2 ^ cO C : Nat) : Int) - 1) = false
  · rw [if_pos g1, if_pos g1]; exact ⟨_, _, _, _, _, _, _, rfl, rfl, LT.rfl 1 N⟩
  rw [if_neg g1, if_neg g1]
  by_cases g2 : rng v2.toInt 0 1 = false
  · rw [if_pos g2, if_pos g2]; exact ⟨_, _, _, _, _, _, _, rfl, rfl, LT.rfl 1 N⟩
  rw [if_neg g2, if_neg g2]
  obtain ⟨U, hU, rfl⟩ := rng_nI (by simpa only [Bool.not_eq_false] using g1)
  have hU32 : U < 32 := lt32 hO hU
  have inner : ∀ (l : Nat), l < 10 → ∀ (t1 t2 t3 t4 t5 : Int32) (M : Nat → Int32), LT 1 N M → ∃ r1 r2, itr (fun s => b_X6_frees_42 (nI U) v2 (nI l) (nI (cP C)) (nI (cO C)) a b c d e kinds ones others hangs s.1 s.2.1 s.2.2.1 s.2.2.2.1 s.2.2.2.2.1 s.2.2.2.2.2) FU ((0 : Int32), t1, t2, t3, t4, t5) = some r1 ∧ itr (fun s => b_X7_frees_42 (nI U) v2 (nI l) (nI (cP C)) (nI (cO C)) kind one other hangs' s.1 s.2) FU ((0 : Int32), M) = some r2 ∧ ((∃ x y, r1 = Sum.inl x ∧ r2 = Sum.inl y ∧ LT 1 N y) ∨ (∃ v t1 t2 t3 t4 t5 y, r1 = Sum.inr (v, t1, t2, t3, t4, t5) ∧ r2 = Sum.inr (v, y) ∧ LT 1 N y)) := by
    intro l hl t1 t2 t3 t4 t5 M hM
    refine itr_two (fun i s1 s2 => s1.1 = nI i ∧ s2.1 = nI i ∧ LT 1 N s2.2) 10 _ ?_ FU 0 _ _ (by omega) (lt_FU (by omega)) ⟨rfl, rfl, hM⟩
    rintro i ⟨x, x1, x2, x3, x4, x5⟩ ⟨y, M'⟩ hi ⟨q1, q2, q3⟩
    simp only at q1 q2 q3
    subst q1
    subst q2
    dsimp only
    unfold b_X6_frees_42 b_X7_frees_42 f_X4_copyFrom
    rw [b_some]
    by_cases h : i < 10
    · obtain ⟨M1, m1, m2, m3⟩ := r_copy hC (q3.low hC hs)
      obtain ⟨w, r, c1, N1, w1, w2, w3, w4, w5, S, w6, rfl, w8⟩ := r_clap hC hX hY (L := 1) (by omega) m2 h hl
      rw [show nI 1 = (1 : Int32) from rfl] at w3
      rw [if_neg (by rw [l_9]; exact nI_nlt (by omega) (by omega)), if_neg (by rw [l_10]; exact nI_ge h (by omega)), m1, w1, b_some, b_some, w2, w3, b_some, b_some, l_15, ald_nI (by omega), b_some, show (r, N1).snd 15 = nI S from w8]
      have hlt : LT 1 N N1 := (q3.trans m3).trans w5
      by_cases hz : (nI S &&& nI U) = (0 : Int32)
      · right
        rw [if_pos hz, if_pos ((and_c S w6 U hU32).mp hz)]
        by_cases c0 : v2 = 0
        · rw [if_pos c0, if_pos c0]; exact ⟨_, _, rfl, rfl, Or.inr ⟨_, _, _, _, _, _, _, rfl, rfl, hlt⟩⟩
        · rw [if_neg c0, if_neg c0]; exact ⟨_, _, rfl, rfl, Or.inr ⟨_, _, _, _, _, _, _, rfl, rfl, hlt⟩⟩
      · left
        rw [if_neg hz, if_neg (fun h9 => hz ((and_c S w6 U hU32).mpr h9))]
        exact ⟨h, _, _, rfl, rfl, nI_1 i, nI_1 i, hlt⟩
    · right
      rw [show i = 10 by omega, if_pos (by decide), if_pos (by decide)]
      exact ⟨_, _, rfl, rfl, Or.inl ⟨_, _, rfl, rfl, q3⟩⟩
  obtain ⟨r1, r2, k1, k2, hQ⟩ := itr_two (b1 := fun s => b_X6_frees_33 (nI U) v2 (nI (cP C)) (nI (cO C)) a b c d e kinds ones others hangs s.1 s.2.1 s.2.2.1 s.2.2.2.1 s.2.2.2.2.1 s.2.2.2.2.2) (b2 := fun s => b_X7_frees_33 (nI U) v2 (nI (cP C)) (nI (cO C)) kind one other hangs' s.1 s.2) (fun i s1 s2 => s1.1 = nI i ∧ s2.1 = nI i ∧ LT 1 N s2.2) 10 (fun r1 r2 => (∃ x y, r1 = Sum.inl x ∧ r2 = Sum.inl y ∧ LT 1 N y) ∨ (∃ v t1 t2 t3 t4 t5 y, r1 = Sum.inr (v, t1, t2, t3, t4, t5) ∧ r2 = Sum.inr (v, y) ∧ LT 1 N y)) (by
    rintro i ⟨x, x1, x2, x3, x4, x5⟩ ⟨y, M'⟩ hi ⟨q1, q2, q3⟩
    simp only at q1 q2 q3
    subst q1
    subst q2
    dsimp only
    unfold b_X6_frees_33 b_X7_frees_33
    by_cases h : i < 10
    · obtain ⟨r1, r2, e1, e2, hq⟩ := inner i h x1 x2 x3 x4 x5 M' q3
      rw [if_neg (by rw [l_9]; exact nI_nlt (by omega) (by omega)), if_neg (by rw [l_10]; exact nI_ge h (by omega)), e1, e2, b_some, b_some]
      rcases hq with ⟨x, y, rfl, rfl, hy⟩ | ⟨v, t1, t2, t3, t4, t5, y, rfl, rfl, hy⟩
      · left
        exact ⟨h, _, _, rfl, rfl, nI_1 i, nI_1 i, hy⟩
      · right
        exact ⟨_, _, rfl, rfl, Or.inr ⟨_, _, _, _, _, _, _, rfl, rfl, hy⟩⟩
    · right
      rw [show i = 10 by omega, if_pos (by decide), if_pos (by decide)]
      exact ⟨_, _, rfl, rfl, Or.inl ⟨_, _, rfl, rfl, q3⟩⟩) FU 0 ((0 : Int32), ta, tb, tc, td, te) ((0 : Int32), N) (by omega) (lt_FU (by omega)) ⟨rfl, rfl, LT.rfl 1 N⟩
  rw [k1, k2]
  rcases hQ with ⟨x, y, rfl, rfl, hy⟩ | ⟨v, t1, t2, t3, t4, t5, y, rfl, rfl, hy⟩
  · exact ⟨_, _, _, _, _, _, _, rfl, rfl, hy⟩
  · exact ⟨_, _, _, _, _, _, _, rfl, rfl, hy⟩
