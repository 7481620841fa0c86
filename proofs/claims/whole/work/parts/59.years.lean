theorem wb_tb (n : Nat) : (lN n).toBitVec = BitVec.ofNat 64 n := rfl
theorem wb_inj {a b : Int64} (h : a.toBitVec = b.toBitVec) : a = b := Int64.toBitVec_inj.mp h
theorem wb_tn {n : Nat} (h : n < 2 ^ 64) : (lN n).toBitVec.toNat = n := by rw [wb_tb, BitVec.toNat_ofNat, Nat.mod_eq_of_lt h]
theorem wb_of (x : Int64) : ∃ n, n < 2 ^ 64 ∧ x = lN n := ⟨x.toBitVec.toNat, x.toBitVec.isLt, wb_inj (by rw [wb_tb]; simp)⟩
theorem wb_of32 (x : Int32) : ∃ n, n < 2 ^ 32 ∧ x = nI n := ⟨x.toBitVec.toNat, x.toBitVec.isLt, Int32.toBitVec_inj.mp (by show _ = BitVec.ofNat 32 _; simp)⟩
theorem wb_c : ∀ k, k < 64 → ((nI k).toInt64 &&& 63) = lN k := by decide +kernel
theorem wb_cu : ∀ k, k < 64 → ((nI k).toInt64.toUInt64 &&& Int64.toUInt64 63) = UInt64.ofNat k := by decide +kernel
theorem wb_sm : ∀ k, k < 64 → (BitVec.ofNat 64 k).smod 64 = BitVec.ofNat 64 k := by decide +kernel
theorem wb_pw {a b : Nat} (h : a ≤ b) : 2 ^ b = 2 ^ a * 2 ^ (b - a) := by rw [← Nat.pow_add]; congr 1; omega
theorem wb_lt2 {a b : Nat} (h : a < b) : 2 ^ a < 2 ^ b := Nat.pow_lt_pow_right (by decide) h
theorem wb_mod (n : Nat) : lN n = lN (n % 2 ^ 64) := wb_inj (by rw [wb_tb, wb_tb]; apply BitVec.eq_of_toNat_eq; rw [BitVec.toNat_ofNat, BitVec.toNat_ofNat, Nat.mod_mod])
theorem wb_shr {n k : Nat} (hn : n < 2 ^ 64) (hk : k < 64) : ((lN n).toUInt64 >>> ((nI k).toInt64.toUInt64 &&& Int64.toUInt64 63)).toInt64 = lN (n / 2 ^ k) := by
  rw [wb_cu k hk]
  apply wb_inj
  apply BitVec.eq_of_toNat_eq
  show ((lN n).toUInt64 >>> UInt64.ofNat k).toNat = (BitVec.ofNat 64 _).toNat
  have h1 : (UInt64.ofNat k).toNat = k := by
    show (BitVec.ofNat 64 k).toNat = k
    rw [BitVec.toNat_ofNat, Nat.mod_eq_of_lt (by omega)]
  have h2 : (lN n).toUInt64.toNat = n := wb_tn hn
  rw [UInt64.toNat_shiftRight, h1, h2, Nat.mod_eq_of_lt hk, Nat.shiftRight_eq_div_pow, BitVec.toNat_ofNat, Nat.mod_eq_of_lt (Nat.lt_of_le_of_lt (Nat.div_le_self _ _) hn)]
theorem sh33 (s : Int64) : ∃ q, q < 2 ^ 31 ∧ (s.toUInt64 >>> ((Int32.toInt64 (33 : Int32)).toUInt64 &&& Int64.toUInt64 63)).toInt64 = lN q := by
  obtain ⟨n, hn, rfl⟩ := wb_of s
  exact ⟨n / 2 ^ 33, by omega, wb_shr (k := 33) hn (by omega)⟩
theorem l_40L : (40 : Int64) = lN 40 := by decide
theorem num40 (s : Int64) : ∃ v, v < 40 ∧ Int64.toInt32 (((s.toUInt64 >>> ((Int32.toInt64 (33 : Int32)).toUInt64 &&& Int64.toUInt64 63)).toInt64) - ((s.toUInt64 >>> ((Int32.toInt64 (33 : Int32)).toUInt64 &&& Int64.toUInt64 63)).toInt64) / (40 : Int64) * (40 : Int64)) = nI v := by
  obtain ⟨q, hq, e⟩ := sh33 s
  refine ⟨q % 40, Nat.mod_lt _ (by omega), ?_⟩
  rw [e, l_40L, pk_lRem (by omega) (by omega) (by omega), lN_i]
theorem RS.one {C : Cty} (hC : CM C) {B : Nat} {a b c d e : Int32} {N : Nat → Int32} (hs : RS C B a b c d e N 9) : ∃ p, f_J6_bitCount_0f7a4 c = some p ∧ (ald N 18 (15 : Int32)).bind (fun r => f_X7_ones r) = some p := by
  obtain ⟨-, v6, -, -, S, hS, rfl⟩ := hs.val hC
  have h32 := lt32 hC.2.2.1 hS
  refine ⟨nI (pop S), pop_bit S h32, ?_⟩
  rw [l_15, ald_nI (by omega), b_some, show N 15 = nI S from v6, pop_ones S h32]
theorem m2_e : ∀ v, v < 40 → (nI v - nI v / (2 : Int32) * (2 : Int32)) = nI (v % 2) := by decide +kernel
theorem tw_e : ∀ v, v < 20 → 10 ≤ v → (nI v - (10 : Int32)) / (2 : Int32) = nI ((v - 10) / 2) := by decide +kernel
theorem s20_e : ∀ v, v < 40 → 20 ≤ v → (nI v - (20 : Int32)) = nI (v - 20) := by decide +kernel
theorem s25_e : ∀ v, v < 40 → 25 ≤ v → (nI v - (25 : Int32)) = nI (v - 25) := by decide +kernel
/-- what a number below 40 does, on both sides -/
theorem r_chance {C : Cty} (hC : CM C) {kinds cp ld ones others worths hangs : Nat → Int32} (hX : CX C kinds cp ld ones others worths hangs) {kind skyAt skyLoud one other worth hangs' : Nat → Int32} (hY : CY C kind skyAt skyLoud one other worth hangs') {B : Nat} (hB : B < 2 ^ 29) {a b c d e : Int32} {N : Nat → Int32} (hs : RS C B a b c d e N 9) {v : Nat} (hv : v < 40) : ∃ t1 t2 t3 t4 t5 N1 p, f_X6_chanceUpon (nI v) (nI (cP C)) (nI (cK C)) (nI (cO C)) a b c d e kinds cp ld ones others worths hangs = some (t1, t2, t3, t4, t5) ∧ f_J6_bitCount_0f7a4 t3 = some p ∧ LT 1 N N1 ∧ RS C (B + 1) t1 t2 t3 t4 t5 N1 9 ∧ (∀ (v1 v2 v3 : Int32) (s w : Int64), s * (6364136223846793005 : Int64) + (1442695040888963407 : Int64) = w → Int64.toInt32 (((w.toUInt64 >>> ((Int32.toInt64 (33 : Int32)).toUInt64 &&& Int64.toUInt64 63)).toInt64) - ((w.toUInt64 >>> ((Int32.toInt64 (33 : Int32)).toUInt64 &&& Int64.toUInt64 63)).toInt64) / (40 : Int64) * (40 : Int64)) = nI v → ¬ v1 ≤ v3 → b_X7_years_23 v1 (nI (cP C)) (nI (cK C)) (nI (cO C)) kind skyAt skyLoud one other worth hangs' v2 v3 s N = some (.inl (v2 + p, v3 + 1, w, N1))) := by
  have hhX : ∀ k, k < cO C → hangs k = hgI (hg C k) := fun k hk => (hX.2.1 k hk).2.2.2
  have hhY : ∀ k, k < cO C → hangs' k = hgI (hg C k) := fun k hk => (hY.2.1 k hk).2.2.2
  have nl : ∀ k, k < 100 → (nI v ≤ nI k) = (v ≤ k) := fun k hk => propext (nI_leI (by omega) (by omega))
  have nr : ∀ k, k < 100 → (nI k ≤ nI v) = (k ≤ v) := fun k hk => propext (nI_leI (by omega) (by omega))
  unfold f_X6_chanceUpon
  by_cases c10 : v < 10
  · obtain ⟨w, r, c1, N1, w1, w2, w3, w4, w5, -⟩ := r_clap hC hX hY (L := 1) (by omega) hs c10 (show 3 < 10 by omega)
    rw [← l_1] at w3
    obtain ⟨p, p1, p2⟩ := w4.one hC
    rw [if_neg (by rw [l_10, nr 10 (by omega)]; omega), l_3, w1, b_some, w2, b_some]
    refine ⟨_, _, _, _, _, N1, p, rfl, p1, w5, w4.mono (by omega), ?_⟩
    intro v1 v2 v3 s w0 e1 e2 e3
    unfold b_X7_years_23
    rw [if_neg e3, e1, b_some, e2, b_some, if_pos (by rw [l_29, nl 29 (by omega)]; omega), if_pos (by rw [l_24, nl 24 (by omega)]; omega), if_pos (by rw [l_19, nl 19 (by omega)]; omega), if_pos (by rw [l_9, nl 9 (by omega)]; omega), l_3, w3, b_some]
    obtain ⟨q, z1, z2⟩ := bnd p2
    dsimp only
    rw [z1, b_some, z2]; rfl
  · rw [if_pos (by rw [l_10, nr 10 (by omega)]; omega)]
    by_cases c20 : v < 20
    · rw [if_neg (by rw [l_20, nr 20 (by omega)]; omega), m2_e v hv, tw_e v c20 (by omega)]
      by_cases h0 : v % 2 = 0
      · obtain ⟨r, a1, N1, w1, w2, w3, w4⟩ := r_tmove (kind := kind) (skyAt := skyAt) (skyLoud := skyLoud) (one := one) (other := other) (worth := worth) (hangs' := hangs') hC hs (k := (v - 10) / 2) (v := 0) (by omega) (by omega)
        obtain ⟨p, p1, p2⟩ := w3.one hC
        rw [h0, if_pos nI_0, l_0, w1, b_some]
        refine ⟨_, _, _, _, _, N1, p, rfl, p1, w4, w3.mono (by omega), ?_⟩
        intro v1 v2 v3 s w0 e1 e2 e3
        unfold b_X7_years_23
        rw [if_neg e3, e1, b_some, e2, b_some, if_pos (by rw [l_29, nl 29 (by omega)]; omega), if_pos (by rw [l_24, nl 24 (by omega)]; omega), if_pos (by rw [l_19, nl 19 (by omega)]; omega), if_neg (by rw [l_9, nl 9 (by omega)]; omega), m2_e v hv, tw_e v c20 (by omega), h0, if_pos nI_0, l_0, w2, b_some]
        obtain ⟨q, z1, z2⟩ := bnd p2
        dsimp only
        rw [z1, b_some, z2]; rfl
      · obtain ⟨r, a1, N1, w1, w2, w3, w4⟩ := r_tmove (kind := kind) (skyAt := skyAt) (skyLoud := skyLoud) (one := one) (other := other) (worth := worth) (hangs' := hangs') hC hs (k := (v - 10) / 2) (v := 9) (by omega) (by omega)
        obtain ⟨p, p1, p2⟩ := w3.one hC
        have h1 : v % 2 = 1 := by omega
        rw [h1, if_neg (show ¬ nI 1 = (0 : Int32) by decide), l_9, w1, b_some]
        refine ⟨_, _, _, _, _, N1, p, rfl, p1, w4, w3.mono (by omega), ?_⟩
        intro v1 v2 v3 s w0 e1 e2 e3
        unfold b_X7_years_23
        rw [if_neg e3, e1, b_some, e2, b_some, if_pos (by rw [l_29, nl 29 (by omega)]; omega), if_pos (by rw [l_24, nl 24 (by omega)]; omega), if_pos (by rw [l_19, nl 19 (by omega)]; omega), if_neg (by rw [l_9, nl 9 (by omega)]; omega), m2_e v hv, tw_e v c20 (by omega), h1, if_neg (show ¬ nI 1 = (0 : Int32) by decide), l_9, w2, b_some]
        obtain ⟨q, z1, z2⟩ := bnd p2
        dsimp only
        rw [z1, b_some, z2]; rfl
    · rw [if_pos (by rw [l_20, nr 20 (by omega)]; omega)]
      by_cases c25 : v < 25
      · obtain ⟨r, c1, N1, w1, w2, w3, w4⟩ := r_tswear (kind := kind) (skyAt := skyAt) (skyLoud := skyLoud) (one := one) (other := other) (worth := worth) hC hhX hhY hs (k := v - 20) (by omega)
        obtain ⟨p, p1, p2⟩ := w3.one hC
        rw [if_neg (by rw [l_25, nr 25 (by omega)]; omega), s20_e v hv (by omega), w1, b_some]
        refine ⟨_, _, _, _, _, N1, p, rfl, p1, w4, w3.mono (by omega), ?_⟩
        intro v1 v2 v3 s w0 e1 e2 e3
        unfold b_X7_years_23
        rw [if_neg e3, e1, b_some, e2, b_some, if_pos (by rw [l_29, nl 29 (by omega)]; omega), if_pos (by rw [l_24, nl 24 (by omega)]; omega), if_neg (by rw [l_19, nl 19 (by omega)]; omega), s20_e v hv (by omega), w2, b_some]
        obtain ⟨q, z1, z2⟩ := bnd p2
        dsimp only
        rw [z1, b_some, z2]; rfl
      · rw [if_pos (by rw [l_25, nr 25 (by omega)]; omega)]
        by_cases c30 : v < 30
        · obtain ⟨r, b1, N1, w1, w2, w3, w4⟩ := r_twool (skyAt := skyAt) (skyLoud := skyLoud) (one := one) (other := other) (worth := worth) (hangs' := hangs') hC hX.1 hY.1 hs (k := v - 25) (by omega)
          obtain ⟨p, p1, p2⟩ := w3.one hC
          rw [if_neg (by rw [l_30, nr 30 (by omega)]; omega), s25_e v hv (by omega), w1, b_some]
          refine ⟨_, _, _, _, _, N1, p, rfl, p1, w4, w3.mono (by omega), ?_⟩
          intro v1 v2 v3 s w0 e1 e2 e3
          unfold b_X7_years_23
          rw [if_neg e3, e1, b_some, e2, b_some, if_pos (by rw [l_29, nl 29 (by omega)]; omega), if_neg (by rw [l_24, nl 24 (by omega)]; omega), s25_e v hv (by omega), w2, b_some]
          obtain ⟨q, z1, z2⟩ := bnd p2
          dsimp only
          rw [z1, b_some, z2]; rfl
        · obtain ⟨r, c1, d1, e1, N1, w1, w2, w3, w4⟩ := r_day hC hX hY (L := 1) (by omega) (show B < 2 ^ 30 by omega) hs true
          rw [← b2_t] at w1 w2
          rw [← l_1] at w2
          obtain ⟨p, p1, p2⟩ := w3.one hC
          rw [if_pos (by rw [l_30, nr 30 (by omega)]; omega), w1, b_some]
          refine ⟨_, _, _, _, _, N1, p, rfl, p1, w4, w3, ?_⟩
          intro v1 v2 v3 s w0 e1 e2 e3
          unfold b_X7_years_23
          rw [if_neg e3, e1, b_some, e2, b_some, if_neg (by rw [l_29, nl 29 (by omega)]; omega), w2, b_some]
          obtain ⟨q, z1, z2⟩ := bnd p2
          dsimp only
          rw [z1, b_some, z2]; rfl
theorem p_years {C : Cty} (hC : CM C) {kinds cp ld ones others worths hangs : Nat → Int32} (hX : CX C kinds cp ld ones others worths hangs) {kind skyAt skyLoud one other worth hangs' : Nat → Int32} (hY : CY C kind skyAt skyLoud one other worth hangs') {B : Nat} (hB : B < 2 ^ 28) {a b c d e : Int32} {N : Nat → Int32} (hs : RS C B a b c d e N 0) (s : Int64) (ta tb tc td te v1 : Int32) : ∃ r s1 t1 t2 t3 t4 t5 N1, f_X6_years v1 s (nI (cP C)) (nI (cK C)) (nI (cO C)) a b c d e ta tb tc td te kinds cp ld ones others worths hangs = some (r, s1, t1, t2, t3, t4, t5) ∧ f_X7_years v1 (nI (cP C)) (nI (cK C)) (nI (cO C)) s kind skyAt skyLoud one other worth hangs' N = some (r, s1, N1) ∧ LT 1 N N1 := by
  unfold f_X6_years f_X7_years f_X4_copyFrom
  simp only [within_e, in32_e, b_some, b2_0, i64_1, i32_1, i64_30, i32_30]
  by_cases g1 : rng v1.toInt 1 30 = false
  · rw [if_pos g1, if_pos g1]; exact ⟨_, _, _, _, _, _, _, _, rfl, rfl, LT.rfl 1 N⟩
  rw [if_neg g1, if_neg g1]
  obtain ⟨n, hn1, hn30, rfl⟩ := rng_lo (lo := 1) (k := 30) (by simpa using g1)
  obtain ⟨M, e1, h1, h2⟩ := r_copy hC hs
  rw [e1, b_some]
  obtain ⟨r1, r2, k1, k2, z1, z2, z3⟩ := itr_two (b1 := fun s => b_X6_years_28 (nI n) (nI (cP C)) (nI (cK C)) (nI (cO C)) kinds cp ld ones others worths hangs s.1 s.2.1 s.2.2.1 s.2.2.2.1 s.2.2.2.2.1 s.2.2.2.2.2.1 s.2.2.2.2.2.2.1 s.2.2.2.2.2.2.2) (b2 := fun s => b_X7_years_23 (nI n) (nI (cP C)) (nI (cK C)) (nI (cO C)) kind skyAt skyLoud one other worth hangs' s.1 s.2.1 s.2.2.1 s.2.2.2) (fun i s1 s2 => s1.1 = s2.1 ∧ s1.2.1 = nI i ∧ s2.2.1 = nI i ∧ s1.2.2.1 = s2.2.2.1 ∧ RS C (B + i) s1.2.2.2.1 s1.2.2.2.2.1 s1.2.2.2.2.2.1 s1.2.2.2.2.2.2.1 s1.2.2.2.2.2.2.2 s2.2.2.2 9 ∧ LT 1 M s2.2.2.2) n (fun r1 r2 => r1.1 = r2.1 ∧ r1.2.1 = r2.2.1 ∧ LT 1 M r2.2.2) (by
    rintro i ⟨p1, p2, p3, p4, p5, p6, p7, p8⟩ ⟨y1, y2, y3, M'⟩ hi ⟨q1, q2, q3, q4, q5, q6⟩
    simp only at q1 q2 q3 q4 q5 q6
    subst q1 q2 q3 q4
    dsimp only
    by_cases h : i < n
    · left
      obtain ⟨v, hv, ev⟩ := num40 (p3 * (6364136223846793005 : Int64) + (1442695040888963407 : Int64))
      obtain ⟨t1, t2, t3, t4, t5, N1, p, w1, w2, w3, w4, w5⟩ := r_chance hC hX hY (show B + i < 2 ^ 29 by omega) q5 hv
      have w6 := w5 (nI n) p1 (nI i) p3 _ rfl ev (nI_ge h (by omega))
      refine ⟨h, (p1 + p, nI i + 1, p3 * (6364136223846793005 : Int64) + (1442695040888963407 : Int64), t1, t2, t3, t4, t5), _, ?_, w6, rfl, nI_1 i, nI_1 i, rfl, w4, q6.trans w3⟩
      unfold b_X6_years_28
      rw [if_neg (nI_ge h (by omega)), b_some, ev, w1, b_some]
      dsimp only
      rw [w2, b_some, b_some]
    · right
      have hin : i = n := by omega
      refine ⟨(p1, p3, p4, p5, p6, p7, p8), (p1, p3, M'), ?_, ?_, rfl, rfl, q6⟩
      · unfold b_X6_years_28
        rw [hin, if_pos (nI_le (Nat.le_refl _) (by omega))]
      · unfold b_X7_years_23
        rw [hin, if_pos (nI_le (Nat.le_refl _) (by omega))]) FU 0 ((0 : Int32), (0 : Int32), s, a, b, c, d, e) ((0 : Int32), (0 : Int32), s, M) (Nat.zero_le _) (lt_FU (by omega)) ⟨rfl, rfl, rfl, rfl, h1, LT.rfl 1 M⟩
  rw [k1, k2, b_some, b_some, z1, z2]
  exact ⟨_, _, _, _, _, _, _, _, rfl, rfl, h2.trans z3⟩
