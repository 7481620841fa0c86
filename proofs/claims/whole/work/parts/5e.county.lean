/-! ===== fault and county ===== -/
theorem p_fault {len len' : Int32} {lt tx : Nat → Int32} (h : RT len lt len' tx) (x1 x2 p1 p2 p3 : Int32) (a6 a7 a8 a9 a10 a11 a12 a13 : Nat → Int32) (y1 y2 y3 y4 y5 : Int32) (b6 b7 b8 : Nat → Int32) : ∃ (r : Int32) (X : TX) (Y : TY), f_X6_fault len x1 x2 p1 p2 p3 lt a6 a7 a8 a9 a10 a11 a12 a13 = some (r, X) ∧ f_X7_fault y1 y2 y3 len' y4 y5 b6 b7 b8 tx = some (r, Y) := by
  obtain ⟨r, X, Y, ex, ey, _⟩ := r_text h x1 x2 p1 p2 p3 a6 a7 a8 a9 a10 a11 a12 a13 y1 y2 y3 y4 y5 b6 b7 b8
  refine ⟨r, X, Y, ?_, ?_⟩
  · unfold f_X6_fault; rw [ex]; rfl
  · unfold f_X7_fault; rw [ey]; rfl
/-- the wool of the first persons, by their kinds -/
def wlN (C : Cty) : Nat → Nat
  | 0 => 0
  | n + 1 => if kd C n = 1 then wlN C n + 2 ^ n else wlN C n
theorem wlN_lt (C : Cty) : ∀ n, wlN C n < 2 ^ n
  | 0 => Nat.one_pos
  | n + 1 => by
    have := wlN_lt C n
    show (if kd C n = 1 then wlN C n + 2 ^ n else wlN C n) < 2 ^ (n + 1)
    rw [Nat.pow_succ]
    split <;> omega
theorem wl_clr : ∀ n, n < 5 → ∀ S, S < 2 ^ n → (nI S &&& (((1 : Int32) <<< (nI n &&& 31)) ^^^ (-1 : Int32))) = nI S := by decide +kernel
theorem X_begin {C : Cty} (hC : CM C) {pc kc : Nat → Int32} {pl : Nat → Nat} (hp : ∀ p, p < cP C → pc p = nI (pl p) ∧ pl p < 10) (hk : ∀ p, p < cP C → kc p = nI (kd C p)) (x1 x2 x3 x4 x5 : Int32) : ∃ pk, f_X4_begin x1 x2 x3 x4 x5 (nI (cP C)) (nI (cO C)) pc kc = some (pk, nI (wlN C (cP C)), nI (2 ^ cO C - 1), (0 : Int32), (0 : Int32)) ∧ PX (cP C) pl pk := by
  have hP := hC.1
  have key : ∀ m, m ≤ cP C → ∃ pk, (∀ p, p < m → f_X4_placeOf (nI p) pk = some (nI (pl p))) ∧ itr (fun s => b_X4_begin_12 (nI (cP C)) pc kc s.1 s.2.1 s.2.2) FU ((0 : Int32), (0 : Int32), (0 : Int32)) = itr (fun s => b_X4_begin_12 (nI (cP C)) pc kc s.1 s.2.1 s.2.2) (FU - m) (nI m, pk, nI (wlN C m)) := by
    intro m
    induction m with
    | zero => intro _; exact ⟨0, fun p hp => absurd hp (Nat.not_lt_zero _), rfl⟩
    | succ m ih =>
      intro hm
      obtain ⟨pk, h1, h2⟩ := ih (by omega)
      obtain ⟨e1, e2⟩ := hp m (by omega)
      have hX : PX m pl pk := fun p hpm => ⟨h1 p hpm, (hp p (by omega)).2⟩
      refine ⟨(pk &&& (((15 : Int32) <<< (((4 : Int32) * nI m) &&& 31)) ^^^ (-1 : Int32))) ||| (nI (pl m) <<< (((4 : Int32) * nI m) &&& 31)), fun p hpm => ?_, ?_⟩
      · unfold f_X4_placeOf
        rw [put_plc (by omega) (by omega) (by omega)]
        by_cases e : p = m
        · rw [if_pos e, e]
        · rw [if_neg e]
          exact h1 p (by omega)
      · rw [h2]
        have hF : FU - m = (FU - (m + 1)) + 1 := by rw [FU_eq]; omega
        rw [hF]
        show (b_X4_begin_12 (nI (cP C)) pc kc (nI m) pk (nI (wlN C m))).bind _ = _
        have hw := wlN_lt C m
        have E : b_X4_begin_12 (nI (cP C)) pc kc (nI m) pk (nI (wlN C m)) = some (.inl (nI (m + 1), (pk &&& (((15 : Int32) <<< (((4 : Int32) * nI m) &&& 31)) ^^^ (-1 : Int32))) ||| (nI (pl m) <<< (((4 : Int32) * nI m) &&& 31)), nI (wlN C (m + 1)))) := by
          unfold b_X4_begin_12 f_X4_putAt f_X4_chooseWool
          rw [if_neg (nI_ge (by omega) (by omega)), at_nI (by omega) (by decide), b_some, b_some, e1, b_some, if_neg (by decide), X_isOf hC hk (by omega), b_some]
          by_cases hk1 : kd C m = 1
          · rw [if_neg (by rw [hk1]; decide), b_some, b_some, hearN_or m (by omega) _ hw, nI_1]
            show _ = some (Sum.inl (_, _, nI (if kd C m = 1 then _ else _)))
            rw [if_pos hk1]
          · rw [if_pos (b2_ff (decide_eq_false (fun h => hk1 ((kd_1 (hC.2.2.2.1 m (by omega))).mp h)))), b_some, b_some, wl_clr m (by omega) _ hw, nI_1]
            show _ = some (Sum.inl (_, _, nI (if kd C m = 1 then _ else _)))
            rw [if_neg hk1]
        rw [E]; rfl
  obtain ⟨pk, h1, h2⟩ := key (cP C) (Nat.le_refl _)
  refine ⟨pk, ?_, fun p hpp => ⟨h1 p hpp, (hp p hpp).2⟩⟩
  unfold f_X4_begin
  rw [h2]
  have hF : FU - cP C = (FU - (cP C + 1)) + 1 := by rw [FU_eq]; omega
  rw [hF]
  have E : itr (fun s => b_X4_begin_12 (nI (cP C)) pc kc s.1 s.2.1 s.2.2) (FU - (cP C + 1) + 1) (nI (cP C), pk, nI (wlN C (cP C))) = some (pk, nI (wlN C (cP C))) := by
    show (b_X4_begin_12 (nI (cP C)) pc kc (nI (cP C)) pk (nI (wlN C (cP C)))).bind _ = _
    unfold b_X4_begin_12
    rw [if_pos (nI_le (Nat.le_refl _) (by omega))]; rfl
  rw [E, b_some, full_e _ (by have := hC.2.2.1; omega), b_some]
theorem itr_ex {σ ρ : Type} {b : σ → Option (σ ⊕ ρ)} (I : Nat → σ → Prop) (N : Nat) (Q : ρ → Prop) (hs : ∀ i s, i < N → I i s → ∃ t, b s = some (.inl t) ∧ I (i + 1) t) (he : ∀ s, I N s → ∃ r, b s = some (.inr r) ∧ Q r) : ∀ n i s, i ≤ N → N - i < n → I i s → ∃ r, itr b n s = some r ∧ Q r := by
  intro n
  induction n with
  | zero => intro i s _ h; omega
  | succ n ih =>
    intro i s hi hn hI
    by_cases h : i < N
    · obtain ⟨t, e, hI'⟩ := hs i s h hI
      obtain ⟨r, q, hQ⟩ := ih (i + 1) t (by omega) (by omega) hI'
      refine ⟨r, ?_, hQ⟩
      show (b s).bind _ = _
      rw [e]; exact q
    · have : i = N := by omega
      subst this
      obtain ⟨r, e, hQ⟩ := he s hI
      refine ⟨r, ?_, hQ⟩
      show (b s).bind _ = _
      rw [e]; rfl
theorem Y_zero (N : Nat → Int32) : ∃ N1, itr (fun s => b_X7_county_38 s.1 s.2) FU ((0 : Int32), N) = some N1 ∧ ∀ k, k < 9 → N1 k = 0 := by
  refine itr_ex (fun i (s : Int32 × (Nat → Int32)) => s.1 = nI i ∧ ∀ k, k < i → s.2 k = 0) 9 (fun (N1 : Nat → Int32) => ∀ k, k < 9 → N1 k = 0) ?_ ?_ FU 0 ((0 : Int32), N) (by omega) (by decide) ⟨rfl, fun k h => absurd h (Nat.not_lt_zero _)⟩
  · rintro i ⟨c, M⟩ hi ⟨hc, hM⟩
    dsimp only at hc hM ⊢
    subst hc
    refine ⟨(nI (i + 1), upd M i (0 : Int32)), ?_, rfl, fun k hk => ?_⟩
    · unfold b_X7_county_38
      rw [if_neg (le9 hi), ast_nI (by omega), b_some, nI_1]
    · show upd M i (0 : Int32) k = 0
      by_cases e : k = i
      · rw [e, upd_at]
      · rw [upd_ne _ _ e]; exact hM k (by omega)
  · rintro ⟨c, M⟩ ⟨hc, hM⟩
    dsimp only at hc hM ⊢
    subst hc
    refine ⟨M, ?_, hM⟩
    unfold b_X7_county_38
    rw [if_pos le9']
theorem Y_persons {C : Cty} (hC : CM C) {pl : Nat → Nat} {rp : Nat → Int32} (hr : ∀ p, p < cP C → rp (2 * p) = nI (pl p) ∧ pl p < 10 ∧ rp (2 * p + 1) = nI (kd C p)) (kind N : Nat → Int32) (hN : ∀ k, k < 9 → N k = 0) : ∃ R : (Nat → Int32) × (Nat → Int32), itr (fun s => b_X7_county_59 (nI (cP C)) rp s.1 s.2.1 s.2.2) FU ((0 : Int32), kind, N) = some R ∧ (∀ p, p < cP C → R.1 p = nI (kd C p)) ∧ (∀ p, p < cP C → R.2 p = nI (pl p)) ∧ R.2 5 = nI (wlN C (cP C)) ∧ R.2 7 = 0 ∧ R.2 8 = 0 := by
  have hP := hC.1
  refine itr_ex (fun i (s : Int32 × (Nat → Int32) × (Nat → Int32)) => s.1 = nI i ∧ (∀ p, p < i → s.2.1 p = nI (kd C p)) ∧ (∀ p, p < i → s.2.2 p = nI (pl p)) ∧ s.2.2 5 = nI (wlN C i) ∧ s.2.2 7 = 0 ∧ s.2.2 8 = 0) (cP C) _ ?_ ?_ FU 0 ((0 : Int32), kind, N) (by omega) (by rw [FU_eq]; omega) ⟨rfl, (fun k h => absurd h (Nat.not_lt_zero _)), (fun k h => absurd h (Nat.not_lt_zero _)), hN 5 (by omega), hN 7 (by omega), hN 8 (by omega)⟩
  · rintro i ⟨c, K, M⟩ hi ⟨hc, h1, h2, h3, h4, h5⟩
    dsimp only at hc h1 h2 h3 h4 h5 ⊢
    subst hc
    obtain ⟨e1, e2, e3⟩ := hr i hi
    have hw := wlN_lt C i
    have hw32 : wlN C i < 32 := lt32 (by omega) hw
    have hkd := hC.2.2.2.1 i hi
    refine ⟨(nI (i + 1), upd K i (nI (kd C i)), upd (upd M i (nI (pl i))) 5 (nI (wlN C (i + 1)))), ?_, rfl, fun p hp => ?_, fun p hp => ?_, upd_at (upd M i (nI (pl i))) 5 (nI (wlN C (i + 1))), ?_, ?_⟩
    · unfold b_X7_county_59
      rw [if_neg (nI_ge hi (by omega)), p2_e, ald_nI (by omega), b_some, ast_nI (by omega), b_some, nI_1, ald_nI (by omega), b_some, ast_nI (by omega), b_some, l_5, ald_nI (by omega), b_some, ald_nI (by omega), b_some, upd_at, upd_ne _ _ (by omega), h3, e1, e3, nI_1]
      by_cases hk1 : kd C i = 1
      · rw [if_pos ((kd_1 hkd).mpr hk1), ast_nI (by omega), b_some, hearN_or i (by omega) _ hw]
        show _ = some (Sum.inl (_, _, upd _ 5 (nI (if kd C i = 1 then _ else _))))
        rw [if_pos hk1]
      · rw [if_neg (fun h => hk1 ((kd_1 hkd).mp h)), ast_nI (by omega), b_some, or0_e _ hw32]
        show _ = some (Sum.inl (_, _, upd _ 5 (nI (if kd C i = 1 then _ else _))))
        rw [if_neg hk1]
    · show upd K i (nI (kd C i)) p = nI (kd C p)
      by_cases e : p = i
      · rw [e, upd_at]
      · rw [upd_ne _ _ e]; exact h1 p (by omega)
    · show upd (upd M i (nI (pl i))) 5 (nI (wlN C (i + 1))) p = nI (pl p)
      rw [upd_ne _ _ (by omega)]
      by_cases e : p = i
      · rw [e, upd_at]
      · rw [upd_ne _ _ e]; exact h2 p (by omega)
    · show upd (upd M i (nI (pl i))) 5 (nI (wlN C (i + 1))) 7 = 0
      rw [upd_ne _ _ (by omega), upd_ne _ _ (by omega)]; exact h4
    · show upd (upd M i (nI (pl i))) 5 (nI (wlN C (i + 1))) 8 = 0
      rw [upd_ne _ _ (by omega), upd_ne _ _ (by omega)]; exact h5
  · rintro ⟨c, K, M⟩ ⟨hc, h1, h2, h3, h4, h5⟩
    dsimp only at hc h1 h2 h3 h4 h5 ⊢
    subst hc
    refine ⟨(K, M), ?_, h1, h2, h3, h4, h5⟩
    unfold b_X7_county_59
    rw [if_pos (nI_le (Nat.le_refl _) (by omega))]
theorem Y_skies {K : Nat} (hK : K ≤ 5) (rs a b : Nat → Int32) : ∃ R : (Nat → Int32) × (Nat → Int32), itr (fun s => b_X7_county_131 (nI K) rs s.1 s.2.1 s.2.2) FU ((0 : Int32), a, b) = some R ∧ ∀ d, d < K → R.1 d = rs (2 * d) ∧ R.2 d = rs (2 * d + 1) := by
  refine itr_ex (fun i (s : Int32 × (Nat → Int32) × (Nat → Int32)) => s.1 = nI i ∧ ∀ d, d < i → s.2.1 d = rs (2 * d) ∧ s.2.2 d = rs (2 * d + 1)) K _ ?_ ?_ FU 0 ((0 : Int32), a, b) (by omega) (by rw [FU_eq]; omega) ⟨rfl, (fun k h => absurd h (Nat.not_lt_zero _))⟩
  · rintro i ⟨c, a, b⟩ hi ⟨hc, h1⟩
    dsimp only at hc h1 ⊢
    subst hc
    refine ⟨(nI (i + 1), upd a i (rs (2 * i)), upd b i (rs (2 * i + 1))), ?_, rfl, fun d hd => ?_⟩
    · unfold b_X7_county_131
      rw [if_neg (nI_ge hi (by omega)), p2_e, ald_nI (by omega), b_some, ast_nI (by omega), b_some, nI_1, ald_nI (by omega), b_some, ast_nI (by omega), b_some, nI_1]
    · show upd a i (rs (2 * i)) d = rs (2 * d) ∧ upd b i (rs (2 * i + 1)) d = rs (2 * d + 1)
      by_cases e : d = i
      · rw [e, upd_at, upd_at]; exact ⟨rfl, rfl⟩
      · rw [upd_ne _ _ e, upd_ne _ _ e]; exact h1 d (by omega)
  · rintro ⟨c, a, b⟩ ⟨hc, h1⟩
    dsimp only at hc h1 ⊢
    subst hc
    refine ⟨(a, b), ?_, h1⟩
    unfold b_X7_county_131
    rw [if_pos (nI_le (Nat.le_refl _) (by omega))]
theorem Y_oaths {O : Nat} (hO : O ≤ 5) (ro a b c d : Nat → Int32) : ∃ R : (Nat → Int32) × (Nat → Int32) × (Nat → Int32) × (Nat → Int32), itr (fun s => b_X7_county_177 (nI O) ro s.1 s.2.1 s.2.2.1 s.2.2.2.1 s.2.2.2.2) FU ((0 : Int32), a, b, c, d) = some R ∧ ∀ k, k < O → R.1 k = ro (4 * k) ∧ R.2.1 k = ro (4 * k + 1) ∧ R.2.2.1 k = ro (4 * k + 2) ∧ R.2.2.2 k = ro (4 * k + 3) := by
  refine itr_ex (fun i (s : Int32 × (Nat → Int32) × (Nat → Int32) × (Nat → Int32) × (Nat → Int32)) => s.1 = nI i ∧ ∀ k, k < i → s.2.1 k = ro (4 * k) ∧ s.2.2.1 k = ro (4 * k + 1) ∧ s.2.2.2.1 k = ro (4 * k + 2) ∧ s.2.2.2.2 k = ro (4 * k + 3)) O _ ?_ ?_ FU 0 ((0 : Int32), a, b, c, d) (by omega) (by rw [FU_eq]; omega) ⟨rfl, (fun k h => absurd h (Nat.not_lt_zero _))⟩
  · rintro i ⟨n, a, b, c, d⟩ hi ⟨hc, h1⟩
    dsimp only at hc h1 ⊢
    subst hc
    refine ⟨(nI (i + 1), upd a i (ro (4 * i)), upd b i (ro (4 * i + 1)), upd c i (ro (4 * i + 2)), upd d i (ro (4 * i + 3))), ?_, rfl, fun k hk => ?_⟩
    · unfold b_X7_county_177
      rw [if_neg (nI_ge hi (by omega)), p4_e, ald_nI (by omega), b_some, ast_nI (by omega), b_some, nI_1, ald_nI (by omega), b_some, ast_nI (by omega), b_some, l_2, nI_add, ald_nI (by omega), b_some, ast_nI (by omega), b_some, l_3, nI_add, ald_nI (by omega), b_some, ast_nI (by omega), b_some, nI_1]
    · show upd a i (ro (4 * i)) k = ro (4 * k) ∧ upd b i (ro (4 * i + 1)) k = ro (4 * k + 1) ∧ upd c i (ro (4 * i + 2)) k = ro (4 * k + 2) ∧ upd d i (ro (4 * i + 3)) k = ro (4 * k + 3)
      by_cases e : k = i
      · rw [e, upd_at, upd_at, upd_at, upd_at]; exact ⟨rfl, rfl, rfl, rfl⟩
      · rw [upd_ne _ _ e, upd_ne _ _ e, upd_ne _ _ e, upd_ne _ _ e]; exact h1 k (by omega)
  · rintro ⟨n, a, b, c, d⟩ ⟨hc, h1⟩
    dsimp only at hc h1 ⊢
    subst hc
    refine ⟨(a, b, c, d), ?_, h1⟩
    unfold b_X7_county_177
    rw [if_pos (nI_le (Nat.le_refl _) (by omega))]
/-- the two states but for the text, the tellings and the seed -/
def IC (B : Nat) (ks lp lk lo n1 n2 n3 n4 n5 al : Int32) (kinds cp ld ones others worths hangs arow kp : Nat → Int32) (mP mK mO acts next : Int32) (kind skyAt skyLoud one other worth hangs' now mrow ik mk : Nat → Int32) : Prop := ∃ C : Cty, CM C ∧ lp = nI (cP C) ∧ lk = nI (cK C) ∧ lo = nI (cO C) ∧ mP = nI (cP C) ∧ mK = nI (cK C) ∧ mO = nI (cO C) ∧ CX C kinds cp ld ones others worths hangs ∧ CY C kind skyAt skyLoud one other worth hangs' ∧ RS C B n1 n2 n3 n4 n5 now 0 ∧ RA C B al arow acts next mrow ∧ RK C B ks kp ik mk
theorem p_county {len len' : Int32} {lt tx : Nat → Int32} (h : RT len lt len' tx) {B : Nat} {ks lp lk lo n1 n2 n3 n4 n5 al : Int32} {kinds cp ld ones others worths hangs arow kp : Nat → Int32} {mP mK mO acts next : Int32} {kind skyAt skyLoud one other worth hangs' now mrow ik mk : Nat → Int32} (hI : IC B ks lp lk lo n1 n2 n3 n4 n5 al kinds cp ld ones others worths hangs arow kp mP mK mO acts next kind skyAt skyLoud one other worth hangs' now mrow ik mk) (x1 x2 d1 d2 d3 : Int32) (D1 D2 D3 D4 D5 D6 D7 D8 L1 : Nat → Int32) (rP rK rO at' fa : Int32) (rp rs ro : Nat → Int32) : ∃ qx qy, f_X6_county ks len x1 x2 d1 d2 d3 lp lk lo n1 n2 n3 n4 n5 al lt D1 D2 D3 D4 D5 D6 D7 D8 L1 kinds cp ld ones others worths hangs = some qx ∧ f_X7_county mP mK mO rP rK rO len' at' fa acts kind skyAt skyLoud one other worth hangs' now rp rs ro tx ik = some qy ∧ qx.1 = qy.1 ∧ IC B qx.2.1 qx.2.2.2.2.2.2.2.1 qx.2.2.2.2.2.2.2.2.1 qx.2.2.2.2.2.2.2.2.2.1 qx.2.2.2.2.2.2.2.2.2.2.1 qx.2.2.2.2.2.2.2.2.2.2.2.1 qx.2.2.2.2.2.2.2.2.2.2.2.2.1 qx.2.2.2.2.2.2.2.2.2.2.2.2.2.1 qx.2.2.2.2.2.2.2.2.2.2.2.2.2.2.1 qx.2.2.2.2.2.2.2.2.2.2.2.2.2.2.2.1 qx.2.2.2.2.2.2.2.2.2.2.2.2.2.2.2.2.2.2.2.2.2.2.2.2.2.1 qx.2.2.2.2.2.2.2.2.2.2.2.2.2.2.2.2.2.2.2.2.2.2.2.2.2.2.1 qx.2.2.2.2.2.2.2.2.2.2.2.2.2.2.2.2.2.2.2.2.2.2.2.2.2.2.2.1 qx.2.2.2.2.2.2.2.2.2.2.2.2.2.2.2.2.2.2.2.2.2.2.2.2.2.2.2.2.1 qx.2.2.2.2.2.2.2.2.2.2.2.2.2.2.2.2.2.2.2.2.2.2.2.2.2.2.2.2.2.1 qx.2.2.2.2.2.2.2.2.2.2.2.2.2.2.2.2.2.2.2.2.2.2.2.2.2.2.2.2.2.2.1 qx.2.2.2.2.2.2.2.2.2.2.2.2.2.2.2.2.2.2.2.2.2.2.2.2.2.2.2.2.2.2.2 arow kp qy.2.1 qy.2.2.1 qy.2.2.2.1 qy.2.2.2.2.2.2.2.2.2.1 next qy.2.2.2.2.2.2.2.2.2.2.1 qy.2.2.2.2.2.2.2.2.2.2.2.1 qy.2.2.2.2.2.2.2.2.2.2.2.2.1 qy.2.2.2.2.2.2.2.2.2.2.2.2.2.1 qy.2.2.2.2.2.2.2.2.2.2.2.2.2.2.1 qy.2.2.2.2.2.2.2.2.2.2.2.2.2.2.2.1 qy.2.2.2.2.2.2.2.2.2.2.2.2.2.2.2.2.1 qy.2.2.2.2.2.2.2.2.2.2.2.2.2.2.2.2.2.1 mrow qy.2.2.2.2.2.2.2.2.2.2.2.2.2.2.2.2.2.2.2.2.2 mk := by
  obtain ⟨r, X, Y, ex, ey, hr⟩ := r_text h x1 x2 d1 d2 d3 D1 D2 D3 D4 D5 D6 D7 D8 rP rK rO at' fa rp rs ro
  unfold f_X6_county f_X7_county
  rw [ex, ey, b_some, b_some]
  dsimp only
  by_cases e : r = (-9 : Int32)
  · rw [if_pos e, if_pos e]
    obtain ⟨r2, X2, Y2, ex2, ey2, hr2⟩ := r_text h X.1 X.2.1 lp lk lo L1 kinds cp ld ones others worths hangs rP rK rO at' fa rp rs ro
    rw [ey] at ey2
    cases ey2
    obtain ⟨C', pl, c1, c2, c3, c4, c5, c6, hRD⟩ := hr2 e
    obtain ⟨hC, g2, g3, g4, g5⟩ := hRD
    obtain ⟨pk, eb, hpk⟩ := X_begin hC (pl := pl) (fun p hp => ⟨(g2 p hp).1, (g2 p hp).2.2.1⟩) g3.1 n1 n2 n3 n4 n5
    obtain ⟨N1, ez, hz⟩ := Y_zero now
    obtain ⟨R1, e1, k1, k2, k3, k4, k5⟩ := Y_persons hC (pl := pl) (fun p hp => (g2 p hp).2) kind N1 hz
    obtain ⟨R2, e2, j2⟩ := Y_skies hC.2.1 Y.2.2.2.2.2.2.1 skyAt skyLoud
    obtain ⟨R3, e3, j3⟩ := Y_oaths hC.2.2.1 Y.2.2.2.2.2.2.2 one other worth hangs'
    rw [ex2, b_some]
    dsimp only
    rw [c1, c2, c3, c4, c5, c6, eb, b_some, ez, b_some, e1, b_some, e2, b_some, e3, b_some, full_e _ (by have := hC.2.2.1; omega), l_6, ast_nI (by omega), b_some, l_0, show astZ ik 2 (nI 0) (nI 0) = some (upd ik 0 0) from astZ_0 (j := 0) (by omega), b_some, show astZ (upd ik 0 0) 2 (1 : Int32) (nI 0) = some (upd (upd ik 0 0) 1 0) from astZ_0 (j := 1) (by omega), b_some]
    obtain ⟨C, -, -, -, -, -, -, -, -, -, -, ⟨nn, xx, a1, a2, a3, a4, a5, a6⟩, -⟩ := hI
    refine ⟨_, _, rfl, rfl, rfl, C', hC, rfl, rfl, rfl, rfl, rfl, rfl, g3, ⟨k1, fun k hk => ?_, fun d hd => ?_⟩, ⟨pl, wlN C' (cP C'), 2 ^ cO C' - 1, 0, 0, ⟨wlN_lt C' _, ?_, clo_full hC, by omega, Nat.zero_le _⟩, ⟨hpk, rfl, rfl, rfl, rfl⟩, fun p hp => ⟨?_, (hpk p hp).2⟩, ?_, ?_, ?_, ?_⟩, ⟨0, xx, by omega, a2, rfl, rfl, a5, fun j hj => absurd hj (Nat.not_lt_zero _)⟩, ⟨0, by omega, rfl, fun j hj => ⟨?_, fun hb => ?_⟩⟩⟩
    · obtain ⟨q1, q2, q3, q4⟩ := j3 k hk
      obtain ⟨s1, s2, s3, s4⟩ := g5 k hk
      exact ⟨q1.trans s1, q2.trans s2, q3.trans s3, q4.trans s4⟩
    · obtain ⟨q1, q2⟩ := j2 d hd
      obtain ⟨s1, s2⟩ := g4 d hd
      exact ⟨fun hn => q1.trans (s1 hn), fun p l hs => ⟨q1.trans (s2 p l hs).1, q2.trans (s2 p l hs).2⟩⟩
    · have := Nat.two_pow_pos (cO C'); omega
    · show upd R1.2 6 (nI (2 ^ cO C' - 1)) (0 + p) = nI (pl p)
      rw [upd_ne _ _ (by have := hC.1; omega), Nat.zero_add]; exact k2 p hp
    · show upd R1.2 6 (nI (2 ^ cO C' - 1)) (0 + 5) = nI (wlN C' (cP C'))
      rw [upd_ne _ _ (by omega)]; exact k3
    · show upd R1.2 6 (nI (2 ^ cO C' - 1)) (0 + 6) = nI (2 ^ cO C' - 1)
      exact upd_at _ _ _
    · show upd R1.2 6 (nI (2 ^ cO C' - 1)) (0 + 7) = 0
      rw [upd_ne _ _ (by omega)]; exact k4
    · show upd R1.2 6 (nI (2 ^ cO C' - 1)) (0 + 8) = 0
      rw [upd_ne _ _ (by omega)]; exact k5
    · show upd (upd ik 0 0) 1 0 j = nI (b2 ((0 : Nat).testBit j))
      rw [Nat.zero_testBit]
      show upd (upd ik 0 0) 1 0 j = 0
      by_cases ej : j = 1
      · rw [ej, upd_at]
      · rw [upd_ne _ _ ej]
        have : j = 0 := by omega
        rw [this, upd_at]
    · rw [Nat.zero_testBit] at hb; cases hb
  · rw [if_neg e, if_neg e]
    exact ⟨_, _, rfl, rfl, rfl, hI⟩
