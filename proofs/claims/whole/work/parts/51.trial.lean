/-! ===== two loops side by side ===== -/
theorem itr_two {σ1 σ2 ρ1 ρ2 : Type} {b1 : σ1 → Option (σ1 ⊕ ρ1)} {b2 : σ2 → Option (σ2 ⊕ ρ2)} (I : Nat → σ1 → σ2 → Prop) (N : Nat) (Q : ρ1 → ρ2 → Prop) (hs : ∀ i s1 s2, i ≤ N → I i s1 s2 → (i < N ∧ ∃ t1 t2, b1 s1 = some (.inl t1) ∧ b2 s2 = some (.inl t2) ∧ I (i + 1) t1 t2) ∨ (∃ r1 r2, b1 s1 = some (.inr r1) ∧ b2 s2 = some (.inr r2) ∧ Q r1 r2)) : ∀ n i s1 s2, i ≤ N → N - i < n → I i s1 s2 → ∃ r1 r2, itr b1 n s1 = some r1 ∧ itr b2 n s2 = some r2 ∧ Q r1 r2 := by
  intro n
  induction n with
  | zero => intro i s1 s2 _ h; omega
  | succ n ih =>
    intro i s1 s2 hi hn hI
    rcases hs i s1 s2 hi hI with ⟨hlt, t1, t2, e1, e2, hI'⟩ | ⟨r1, r2, e1, e2, hQ⟩
    · obtain ⟨r1, r2, q1, q2, hQ⟩ := ih (i + 1) t1 t2 (by omega) (by omega) hI'
      refine ⟨r1, r2, ?_, ?_, hQ⟩
      · show (b1 s1).bind _ = _
        rw [e1]; exact q1
      · show (b2 s2).bind _ = _
        rw [e2]; exact q2
    · refine ⟨r1, r2, ?_, ?_, hQ⟩
      · show (b1 s1).bind _ = _
        rw [e1]; rfl
      · show (b2 s2).bind _ = _
        rw [e2]; rfl
/-- the row is as it was but at the level L -/
def LT (L : Nat) (N N' : Nat → Int32) : Prop := ∀ k, k < 9 * L ∨ 9 * L + 9 ≤ k → N' k = N k
theorem LT.rfl (L : Nat) (N : Nat → Int32) : LT L N N := fun _ _ => Eq.refl _
theorem LT.trans {L : Nat} {N N' N'' : Nat → Int32} (h : LT L N N') (h' : LT L N' N'') : LT L N N'' := fun k hk => (h' k hk).trans (h k hk)
theorem LT.low {C : Cty} (hC : CM C) {B : Nat} {a b c d e : Int32} {N N' : Nat → Int32} (h : LT 1 N N') (hs : RS C B a b c d e N 0) : RS C B a b c d e N' 0 := hs.agree hC (fun k hk => h (0 + k) (by omega))
theorem r_day {C : Cty} (hC : CM C) {kinds cp ld ones others worths hangs : Nat → Int32} (hX : CX C kinds cp ld ones others worths hangs) {kind skyAt skyLoud one other worth hangs' : Nat → Int32} (hY : CY C kind skyAt skyLoud one other worth hangs') {L : Nat} (hL : L < 2) {B : Nat} (hB : B < 2 ^ 30) {a b c d e : Int32} {N : Nat → Int32} (hs : RS C B a b c d e N (9 * L)) (cm : Bool) : ∃ r c1 d1 e1 N1, f_X4_passDay (nI (b2 cm)) a b c d e (nI (cP C)) (nI (cK C)) (nI (cO C)) kinds cp ld ones others worths hangs = some (r, c1, d1, e1) ∧ f_X7_passOn (nI L) (nI (b2 cm)) (nI (cP C)) (nI (cK C)) (nI (cO C)) kind skyAt skyLoud one other worth hangs' N = some (r, N1) ∧ RS C (B + 1) a b c1 d1 e1 N1 (9 * L) ∧ LT L N N1 := by
  obtain ⟨pl, wl, S, W, D, hm, ⟨hp, rfl, rfl, rfl, rfl⟩, hN⟩ := hs
  have hw := wl32 hC hm
  obtain ⟨h1, h2, h3, h4, h5⟩ := hm
  refine ⟨_, _, _, _, _, X_passDay hC hX hp hw h2 h4 (by omega) cm, Y_passOn hC hY hL hN hw h2 h3 h4 (by omega) cm, ⟨pl, wl, _, _, _, ⟨h1, dayS_lt hC h2, clo_day hC h2 h3, capN_lt _, by omega⟩, ⟨hp, rfl, rfl, rfl, rfl⟩, dayR_NY hC.1 hN⟩, fun k hk => ?_⟩
  unfold dayR
  rw [upd_ne _ _ (by omega), upd_ne _ _ (by omega), upd_ne _ _ (by omega)]
theorem r_clap {C : Cty} (hC : CM C) {kinds cp ld ones others worths hangs : Nat → Int32} (hX : CX C kinds cp ld ones others worths hangs) {kind skyAt skyLoud one other worth hangs' : Nat → Int32} (hY : CY C kind skyAt skyLoud one other worth hangs') {L : Nat} (hL : L < 2) {B : Nat} {a b c d e : Int32} {N : Nat → Int32} (hs : RS C B a b c d e N (9 * L)) {p l : Nat} (hp10 : p < 10) (hl10 : l < 10) : ∃ w r c1 N1, f_X4_hearers (nI p) (nI l) a b (nI (cP C)) kinds = some w ∧ f_X4_freeBy w c (nI (cO C)) kinds ones others hangs = some (r, c1) ∧ f_X7_clapOn (nI L) (nI p) (nI l) (nI (cP C)) (nI (cO C)) kind one other hangs' N = some (r, N1) ∧ RS C B a b c1 d e N1 (9 * L) ∧ LT L N N1 ∧ (∃ S, S < 32 ∧ c1 = nI S ∧ N1 (9 * L + 6) = nI S) := by
  obtain ⟨pl, wl, S, W, D, hm, ⟨hp, rfl, rfl, rfl, rfl⟩, hN⟩ := hs
  have hw := wl32 hC hm
  obtain ⟨h1, h2, h3, h4, h5⟩ := hm
  have hlt := lt32 hC.1 (hearN_lt C pl wl p l (cP C))
  refine ⟨_, _, _, _, X_hearers hC hX.1 hp hw hp10 hl10, X_freeBy hC hX hlt h2, Y_clap hC hY hL hlt h2 hN.2.2.1 (Y_hearers hC hY.1 hL hN hw hp10 hl10), ⟨pl, wl, _, _, _, ⟨h1, clapN_lt hC h2, clo_clap hC h2, h4, h5⟩, ⟨hp, rfl, rfl, rfl, rfl⟩, hN.set6 hC.1 _⟩, fun k hk => ?_, _, lt32 hC.2.2.1 (clapN_lt hC h2), rfl, upd_at _ _ _⟩
  rw [upd_ne _ _ (by omega)]
theorem r_copy {C : Cty} (hC : CM C) {B : Nat} {a b c d e : Int32} {N : Nat → Int32} (hs : RS C B a b c d e N 0) : ∃ N1, f_X7_layTrial N = some N1 ∧ RS C B a b c d e N1 9 ∧ LT 1 N N1 :=
  ⟨_, Y_layTrial N, hs.agree hC (fun k hk => by rw [pk_cpy_in (by omega) (by omega)]; congr 1; omega), fun k hk => pk_cpy_out (by omega)⟩
theorem RS.val {C : Cty} (hC : CM C) {B : Nat} {a b c d e : Int32} {N : Nat → Int32} {o : Nat} (hs : RS C B a b c d e N o) : N (o + 5) = b ∧ N (o + 6) = c ∧ N (o + 7) = d ∧ N (o + 8) = e ∧ ∃ S, S < 2 ^ cO C ∧ c = nI S := by
  obtain ⟨pl, wl, S, W, D, hm, ⟨hp, rfl, rfl, rfl, rfl⟩, hN⟩ := hs
  exact ⟨hN.2.1, hN.2.2.1, hN.2.2.2.1, hN.2.2.2.2, S, hm.2.1, rfl⟩
theorem r_days {C : Cty} (hC : CM C) {kinds cp ld ones others worths hangs : Nat → Int32} (hX : CX C kinds cp ld ones others worths hangs) {kind skyAt skyLoud one other worth hangs' : Nat → Int32} (hY : CY C kind skyAt skyLoud one other worth hangs') {B : Nat} (hB : B < 2 ^ 29) {a b c d e : Int32} {N : Nat → Int32} (hs : RS C B a b c d e N 9) {n : Nat} (hn : n ≤ 30) : ∃ c1 d1 e1 N1, f_X4_passDays (nI n) a b c d e (nI (cP C)) (nI (cK C)) (nI (cO C)) kinds cp ld ones others worths hangs = some (c1, d1, e1) ∧ f_X7_goOn (nI n) (nI (cP C)) (nI (cK C)) (nI (cO C)) kind skyAt skyLoud one other worth hangs' N = some N1 ∧ RS C (B + n) a b c1 d1 e1 N1 9 ∧ LT 1 N N1 := by
  unfold f_X4_passDays f_X7_goOn
  obtain ⟨r1, r2, e1, e2, q1, q2⟩ := itr_two (b1 := fun s => b_X4_passDays_2 (nI n) a b (nI (cP C)) (nI (cK C)) (nI (cO C)) kinds cp ld ones others worths hangs s.1 s.2.1 s.2.2.1 s.2.2.2) (b2 := fun s => b_X7_goOn_2 (nI n) (nI (cP C)) (nI (cK C)) (nI (cO C)) kind skyAt skyLoud one other worth hangs' s.1 s.2) (fun i s1 s2 => s1.1 = nI i ∧ s2.1 = nI i ∧ RS C (B + i) a b s1.2.1 s1.2.2.1 s1.2.2.2 s2.2 9 ∧ LT 1 N s2.2) n (fun r1 r2 => RS C (B + n) a b r1.1 r1.2.1 r1.2.2 r2 9 ∧ LT 1 N r2) (by
    rintro i ⟨x, c, d, e⟩ ⟨y, M⟩ hi ⟨h1, h2, h3, h4⟩
    simp only at h1 h2 h3 h4
    subst h1
    subst h2
    dsimp only
    unfold b_X4_passDays_2 b_X7_goOn_2
    by_cases h : i < n
    · left
      refine ⟨h, ?_⟩
      obtain ⟨r, c1, d1, e1, N1, g1, g2, g3, g4⟩ := r_day hC hX hY (L := 1) (by omega) (show B + i < 2 ^ 30 by omega) h3 true
      rw [← b2_t] at g1 g2
      rw [show nI 1 = (1 : Int32) from rfl] at g2
      rw [if_neg (nI_ge h (by omega)), if_neg (nI_ge h (by omega)), g1, g2, b_some, b_some]
      exact ⟨_, _, rfl, rfl, nI_1 i, nI_1 i, g3, h4.trans g4⟩
    · right
      rw [show i = n by omega] at h3 ⊢
      rw [if_pos (nI_le (Nat.le_refl _) (by omega)), if_pos (nI_le (Nat.le_refl _) (by omega))]
      exact ⟨_, _, rfl, rfl, h3, h4⟩) FU 0 ((0 : Int32), c, d, e) ((0 : Int32), N) (by omega) (lt_FU (by omega)) ⟨rfl, rfl, hs, LT.rfl 1 N⟩
  rw [e1, e2]
  exact ⟨_, _, _, _, rfl, rfl, q1, q2⟩
