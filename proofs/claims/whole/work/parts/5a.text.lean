/-! ===== reading a text, on both sides ===== -/
theorem X_letter {n pos : Nat} (hn : n ≤ 60) (hp : pos < n) (lt : Nat → Int32) : f_X5_letterAt (nI pos) (nI n) lt = some (lt pos) := by
  unfold f_X5_letterAt
  rw [if_neg (nI_pos (by omega)), if_neg (nI_ge hp (by omega)), l_60, if_neg (nI_ge (by omega) (by omega)), ald_nI (by omega)]; rfl
theorem X_letter_end {n pos : Nat} (hn : n ≤ 60) (hp : n ≤ pos) (hp2 : pos < 100) (lt : Nat → Int32) : f_X5_letterAt (nI pos) (nI n) lt = some (-1 : Int32) := by
  unfold f_X5_letterAt
  rw [if_neg (nI_pos (by omega)), if_pos (nI_le hp (by omega))]
theorem X_letter_any {n pos : Nat} (hn : n ≤ 60) (hp2 : pos < 100) (lt : Nat → Int32) : ∃ v, f_X5_letterAt (nI pos) (nI n) lt = some v := by
  by_cases h : pos < n
  · exact ⟨_, X_letter hn h lt⟩
  · exact ⟨_, X_letter_end hn (by omega) hp2 lt⟩
theorem X_fig_stop {n pos : Nat} (hn : n ≤ 60) (hp2 : pos < 100) (lt : Nat → Int32) (most : Int32) : f_X3_readFigure most (nI pos) (1 : Int32) (nI n) lt = some ((0 : Int32), nI pos, (1 : Int32)) := by
  obtain ⟨v, e⟩ := X_letter_any hn hp2 lt
  unfold f_X3_readFigure
  rw [e, b_some, b_some, if_neg (by decide)]
theorem Y_fig_stop {f : Nat} (hf : f < 100) (most but len at' : Int32) (tx : Nat → Int32) : f_X7_figureOf most but len at' (nI f) tx = some ((0 : Int32), at', nI f) := by
  unfold f_X7_figureOf
  rw [if_neg (neg9c f hf)]
/-- one figure, at the same place of both texts -/
theorem r_fig {n pos : Nat} (hn : n ≤ 60) (hpos : pos ≤ n) {lt tx : Nat → Int32} (hag : ∀ j, j < n → lt j = tx j) {most : Int32} (hm : most.toInt < 100) : (∃ v : Nat, (v : Int) ≤ most.toInt ∧ v < 100 ∧ pos < n ∧ lt pos = (48 : Int32) + nI v ∧ f_X3_readFigure most (nI pos) (0 : Int32) (nI n) lt = some (nI v, nI (pos + 1), (0 : Int32)) ∧ (∀ but, ¬ nI v = but → f_X7_figureOf most but (nI n) (nI pos) (-9 : Int32) tx = some (nI v, nI (pos + 1), (-9 : Int32))) ∧ (∀ but, nI v = but → f_X7_figureOf most but (nI n) (nI pos) (-9 : Int32) tx = some ((0 : Int32), nI pos, nI pos))) ∨ (f_X3_readFigure most (nI pos) (0 : Int32) (nI n) lt = some ((0 : Int32), nI pos, (1 : Int32)) ∧ (∀ but, f_X7_figureOf most but (nI n) (nI pos) (-9 : Int32) tx = some ((0 : Int32), nI pos, nI pos)) ∧ (∀ v : Nat, (v : Int) ≤ most.toInt → v < 100 → pos < n → ¬ lt pos = (48 : Int32) + nI v)) := by
  by_cases h : pos < n
  · have EX : ∀ r, (r = if nI (b2 (rng (lt pos - (48 : Int32)).toInt 0 most.toInt)) = (0 : Int32) then some ((0 : Int32), nI pos, (1 : Int32)) else some (lt pos - (48 : Int32), nI (pos + 1), (0 : Int32))) → f_X3_readFigure most (nI pos) (0 : Int32) (nI n) lt = r := by
      intro r hr
      unfold f_X3_readFigure
      rw [X_letter hn h, b_some, b_some, if_pos rfl, within_e, b_some, i32_0, hr, nI_1]
      try rfl
    have EY : ∀ but r, (r = if nI (b2 (rng (lt pos - (48 : Int32)).toInt 0 most.toInt)) = (0 : Int32) then some ((0 : Int32), nI pos, nI pos) else if lt pos - (48 : Int32) = but then some ((0 : Int32), nI pos, nI pos) else some (lt pos - (48 : Int32), nI (pos + 1), (-9 : Int32))) → f_X7_figureOf most but (nI n) (nI pos) (-9 : Int32) tx = r := by
      intro but r hr
      unfold f_X7_figureOf
      rw [if_pos rfl, if_neg (nI_ge h (by omega)), ald_nI (by omega), b_some, b_some, in_e, b_some, ← hag pos h, hr, nI_1]
      try simp only [Int32.toInt_toInt64, i64_0, i32_0, b_some]
    by_cases g : rng (lt pos - (48 : Int32)).toInt 0 most.toInt = false
    · right
      refine ⟨EX _ (by rw [if_pos (b2_ff g)]), fun but => EY but _ (by rw [if_pos (b2_ff g)]), fun v h1 h2 _ e => ?_⟩
      have : lt pos - (48 : Int32) = nI v := by rw [e, Int32.add_comm, Int32.add_sub_cancel]
      rw [this] at g
      have := of_decide_eq_false g
      rw [nI_toInt (by omega)] at this
      omega
    · left
      have gt : rng (lt pos - (48 : Int32)).toInt 0 most.toInt = true := by simpa only [Bool.not_eq_false] using g
      have g' : rng (lt pos - (48 : Int32)).toInt 0 ((99 : Nat) : Int) = true := by
        have := of_decide_eq_true gt
        exact decide_eq_true (by omega)
      obtain ⟨v, hv, ev⟩ := rng_k (k := 99) g'
      have hle : (v : Int) ≤ most.toInt := by
        have := of_decide_eq_true gt
        rw [ev, nI_toInt (by omega)] at this
        exact this.2
      have el : lt pos = (48 : Int32) + nI v := by rw [← ev, Int32.add_comm, Int32.sub_add_cancel]
      have nz : ¬ nI (b2 (rng (lt pos - (48 : Int32)).toInt 0 most.toInt)) = (0 : Int32) := by rw [gt]; decide
      refine ⟨v, hle, by omega, h, el, EX _ (by rw [if_neg nz, ev]), fun but hb => EY but _ (by rw [if_neg nz, ev, if_neg hb]), fun but hb => EY but _ (by rw [if_neg nz, ev, if_pos hb])⟩
  · right
    refine ⟨?_, fun but => ?_, fun v _ _ hlt => absurd hlt h⟩
    · unfold f_X3_readFigure
      rw [X_letter_end hn (by omega) (by omega), b_some, b_some, if_pos rfl, within_e, b_some]
      have g : rng ((-1 : Int32) - (48 : Int32)).toInt 0 most.toInt = false := decide_eq_false (by
        have : ((-1 : Int32) - (48 : Int32)).toInt = -49 := rfl
        rw [this]; omega)
      rw [i32_0, if_pos (b2_ff g)]
    · unfold f_X7_figureOf
      rw [if_pos rfl, if_pos (nI_le (by omega) (by omega))]
/-- a county as far as it is told, in the rows of both -/
def RD (C : Cty) (pl0 : Nat → Nat) (pc kc cp ld ones others worths hangs rp rs ro : Nat → Int32) : Prop := CM C ∧ (∀ p, p < cP C → pc p = nI (pl0 p) ∧ rp (2 * p) = nI (pl0 p) ∧ pl0 p < 10 ∧ rp (2 * p + 1) = nI (kd C p)) ∧ CX C kc cp ld ones others worths hangs ∧ (∀ d, d < cK C → (sk C d = none → rs (2 * d) = -9) ∧ ∀ p l, sk C d = some (p, l) → rs (2 * d) = nI p ∧ rs (2 * d + 1) = nI l) ∧ (∀ k, k < cO C → ro (4 * k) = nI (o1 C k) ∧ ro (4 * k + 1) = nI (o2 C k) ∧ ro (4 * k + 2) = nI (wo C k) ∧ ro (4 * k + 3) = hgI (hg C k))
def upN {α : Type} (f : Nat → α) (j : Nat) (v : α) : Nat → α := fun i => if i = j then v else f i
theorem upN_at {α : Type} (f : Nat → α) (j : Nat) (v : α) : upN f j v j = v := by unfold upN; rw [if_pos rfl]
theorem upN_ne {α : Type} (f : Nat → α) {j i : Nat} (v : α) (h : i ≠ j) : upN f j v i = f i := by unfold upN; rw [if_neg h]
def addP (C : Cty) (k : Nat) : Cty := (cP C + 1, cK C, cO C, upN (kd C) (cP C) k, o1 C, o2 C, wo C, hg C, sk C)
def addK (C : Cty) (s : Option (Nat × Nat)) : Cty := (cP C, cK C + 1, cO C, kd C, o1 C, o2 C, wo C, hg C, upN (sk C) (cK C) s)
def addO (C : Cty) (a b w : Nat) (h : Option Nat) : Cty := (cP C, cK C, cO C + 1, kd C, upN (o1 C) (cO C) a, upN (o2 C) (cO C) b, upN (wo C) (cO C) w, upN (hg C) (cO C) h, sk C)
theorem RD_addP {C : Cty} {pl0 : Nat → Nat} {pc kc cp ld ones others worths hangs rp rs ro : Nat → Int32} (h : RD C pl0 pc kc cp ld ones others worths hangs rp rs ro) (hP : cP C < 5) {p k : Nat} (hp : p < 10) (hk : k < 4) : RD (addP C k) (upN pl0 (cP C) p) (upd pc (cP C) (nI p)) (upd kc (cP C) (nI k)) cp ld ones others worths hangs (upd (upd rp (2 * cP C) (nI p)) (2 * cP C + 1) (nI k)) rs ro := by
  obtain ⟨⟨m1, m2, m3, m4, m5, m6⟩, h2, ⟨x1, x2, x3⟩, h4, h5⟩ := h
  refine ⟨⟨by show cP C + 1 ≤ 5; omega, m2, m3, fun j hj => ?_, fun k hk => ?_, m6⟩, fun j hj => ?_, ⟨fun j hj => ?_, x2, x3⟩, h4, h5⟩
  · show upN (kd C) (cP C) k j < 4
    have hj : j < cP C + 1 := hj
    by_cases e : j = cP C
    · rw [e, upN_at]; exact hk
    · rw [upN_ne _ _ e]; exact m4 j (by omega)
  · obtain ⟨a1, a2, a3, a4, a5⟩ := m5 k hk
    exact ⟨Nat.lt_succ_of_lt a1, Nat.lt_succ_of_lt a2, a3, a4, a5⟩
  · have hj : j < cP C + 1 := hj
    show upd pc (cP C) (nI p) j = nI (upN pl0 (cP C) p j) ∧ upd (upd rp (2 * cP C) (nI p)) (2 * cP C + 1) (nI k) (2 * j) = nI (upN pl0 (cP C) p j) ∧ upN pl0 (cP C) p j < 10 ∧ upd (upd rp (2 * cP C) (nI p)) (2 * cP C + 1) (nI k) (2 * j + 1) = nI (upN (kd C) (cP C) k j)
    by_cases e : j = cP C
    · subst e
      rw [upd_at, upN_at, upd_ne _ _ (by omega), upd_at, upd_at, upN_at]
      exact ⟨rfl, rfl, hp, rfl⟩
    · rw [upd_ne _ _ e, upN_ne _ _ e, upd_ne _ _ (by omega), upd_ne _ _ (by omega), upd_ne _ _ (by omega), upd_ne _ _ (by omega), upN_ne _ _ e]
      exact h2 j (by omega)
  · have hj : j < cP C + 1 := hj
    show upd kc (cP C) (nI k) j = nI (upN (kd C) (cP C) k j)
    by_cases e : j = cP C
    · rw [e, upd_at, upN_at]
    · rw [upd_ne _ _ e, upN_ne _ _ e]; exact x1 j (by omega)
theorem RD_addQ {C : Cty} {pl0 : Nat → Nat} {pc kc cp ld ones others worths hangs rp rs ro : Nat → Int32} (h : RD C pl0 pc kc cp ld ones others worths hangs rp rs ro) (hK : cK C < 5) : RD (addK C none) pl0 pc kc (upd cp (cK C) (0 : Int32)) (upd ld (cK C) (-1 : Int32)) ones others worths hangs rp (upd rs (2 * cK C) (-9 : Int32)) ro := by
  obtain ⟨⟨m1, m2, m3, m4, m5, m6⟩, h2, ⟨x1, x2, x3⟩, h4, h5⟩ := h
  refine ⟨⟨m1, by show cK C + 1 ≤ 5; omega, m3, m4, m5, fun d hd => ?_⟩, h2, ⟨x1, x2, fun d hd => ?_⟩, fun d hd => ?_, h5⟩
  · have hd : d < cK C + 1 := hd
    show ∀ p l, upN (sk C) (cK C) none d = some (p, l) → p ≤ 9 ∧ l ≤ 9
    by_cases e : d = cK C
    · rw [e, upN_at]; intro p l h; cases h
    · rw [upN_ne _ _ e]; exact m6 d (by omega)
  · have hd : d < cK C + 1 := hd
    show (upN (sk C) (cK C) none d = none → upd ld (cK C) (-1 : Int32) d = -1) ∧ ∀ p l, upN (sk C) (cK C) none d = some (p, l) → upd cp (cK C) (0 : Int32) d = nI p ∧ upd ld (cK C) (-1 : Int32) d = nI l
    by_cases e : d = cK C
    · rw [e, upN_at, upd_at]; exact ⟨fun _ => rfl, fun p l h => by cases h⟩
    · rw [upN_ne _ _ e, upd_ne _ _ e, upd_ne _ _ e]; exact x3 d (by omega)
  · have hd : d < cK C + 1 := hd
    show (upN (sk C) (cK C) none d = none → upd rs (2 * cK C) (-9 : Int32) (2 * d) = -9) ∧ ∀ p l, upN (sk C) (cK C) none d = some (p, l) → upd rs (2 * cK C) (-9 : Int32) (2 * d) = nI p ∧ upd rs (2 * cK C) (-9 : Int32) (2 * d + 1) = nI l
    by_cases e : d = cK C
    · rw [e, upN_at, upd_at]; exact ⟨fun _ => rfl, fun p l h => by cases h⟩
    · rw [upN_ne _ _ e, upd_ne _ _ (by omega), upd_ne _ _ (by omega)]; exact h4 d (by omega)
theorem RD_addC {C : Cty} {pl0 : Nat → Nat} {pc kc cp ld ones others worths hangs rp rs ro : Nat → Int32} (h : RD C pl0 pc kc cp ld ones others worths hangs rp rs ro) (hK : cK C < 5) {p l : Nat} (hp : p < 10) (hl : l < 10) : RD (addK C (some (p, l))) pl0 pc kc (upd cp (cK C) (nI p)) (upd ld (cK C) (nI l)) ones others worths hangs rp (upd (upd rs (2 * cK C) (nI p)) (2 * cK C + 1) (nI l)) ro := by
  obtain ⟨⟨m1, m2, m3, m4, m5, m6⟩, h2, ⟨x1, x2, x3⟩, h4, h5⟩ := h
  refine ⟨⟨m1, by show cK C + 1 ≤ 5; omega, m3, m4, m5, fun d hd => ?_⟩, h2, ⟨x1, x2, fun d hd => ?_⟩, fun d hd => ?_, h5⟩
  · have hd : d < cK C + 1 := hd
    show ∀ p' l', upN (sk C) (cK C) (some (p, l)) d = some (p', l') → p' ≤ 9 ∧ l' ≤ 9
    by_cases e : d = cK C
    · rw [e, upN_at]; intro p' l' h; cases h; omega
    · rw [upN_ne _ _ e]; exact m6 d (by omega)
  · have hd : d < cK C + 1 := hd
    show (upN (sk C) (cK C) (some (p, l)) d = none → upd ld (cK C) (nI l) d = -1) ∧ ∀ p' l', upN (sk C) (cK C) (some (p, l)) d = some (p', l') → upd cp (cK C) (nI p) d = nI p' ∧ upd ld (cK C) (nI l) d = nI l'
    by_cases e : d = cK C
    · rw [e, upN_at, upd_at, upd_at]
      refine ⟨fun h => ?_, fun p' l' h => ?_⟩
      · cases h
      · cases h; exact ⟨rfl, rfl⟩
    · rw [upN_ne _ _ e, upd_ne _ _ e, upd_ne _ _ e]; exact x3 d (by omega)
  · have hd : d < cK C + 1 := hd
    show (upN (sk C) (cK C) (some (p, l)) d = none → upd (upd rs (2 * cK C) (nI p)) (2 * cK C + 1) (nI l) (2 * d) = -9) ∧ ∀ p' l', upN (sk C) (cK C) (some (p, l)) d = some (p', l') → upd (upd rs (2 * cK C) (nI p)) (2 * cK C + 1) (nI l) (2 * d) = nI p' ∧ upd (upd rs (2 * cK C) (nI p)) (2 * cK C + 1) (nI l) (2 * d + 1) = nI l'
    by_cases e : d = cK C
    · rw [e, upN_at, upd_ne _ _ (by omega), upd_at, upd_at]
      refine ⟨fun h => ?_, fun p' l' h => ?_⟩
      · cases h
      · cases h; exact ⟨rfl, rfl⟩
    · rw [upN_ne _ _ e, upd_ne _ _ (by omega), upd_ne _ _ (by omega), upd_ne _ _ (by omega), upd_ne _ _ (by omega)]; exact h4 d (by omega)
theorem RD_addO {C : Cty} {pl0 : Nat → Nat} {pc kc cp ld ones others worths hangs rp rs ro : Nat → Int32} (h : RD C pl0 pc kc cp ld ones others worths hangs rp rs ro) (hO : cO C < 5) {a b w : Nat} {g : Option Nat} (ha : a < cP C) (hb : b < cP C) (hab : a ≠ b) (hw : w ≤ 9) (hg1 : ∀ j, g = some j → j < cO C) : RD (addO C a b w g) pl0 pc kc cp ld (upd ones (cO C) (nI a)) (upd others (cO C) (nI b)) (upd worths (cO C) (nI w)) (upd hangs (cO C) (hgI g)) rp rs (upd (upd (upd (upd ro (4 * cO C) (nI a)) (4 * cO C + 1) (nI b)) (4 * cO C + 2) (nI w)) (4 * cO C + 3) (hgI g)) := by
  obtain ⟨⟨m1, m2, m3, m4, m5, m6⟩, h2, ⟨x1, x2, x3⟩, h4, h5⟩ := h
  refine ⟨⟨m1, m2, by show cO C + 1 ≤ 5; omega, m4, fun k hk => ?_, m6⟩, h2, ⟨x1, fun k hk => ?_, x3⟩, h4, fun k hk => ?_⟩
  · have hk : k < cO C + 1 := hk
    show upN (o1 C) (cO C) a k < cP C ∧ upN (o2 C) (cO C) b k < cP C ∧ upN (o1 C) (cO C) a k ≠ upN (o2 C) (cO C) b k ∧ upN (wo C) (cO C) w k ≤ 9 ∧ ∀ h, upN (hg C) (cO C) g k = some h → h < k
    by_cases e : k = cO C
    · rw [e, upN_at, upN_at, upN_at, upN_at]; exact ⟨ha, hb, hab, hw, hg1⟩
    · rw [upN_ne _ _ e, upN_ne _ _ e, upN_ne _ _ e, upN_ne _ _ e]; exact m5 k (by omega)
  · have hk : k < cO C + 1 := hk
    show upd ones (cO C) (nI a) k = nI (upN (o1 C) (cO C) a k) ∧ upd others (cO C) (nI b) k = nI (upN (o2 C) (cO C) b k) ∧ upd worths (cO C) (nI w) k = nI (upN (wo C) (cO C) w k) ∧ upd hangs (cO C) (hgI g) k = hgI (upN (hg C) (cO C) g k)
    by_cases e : k = cO C
    · rw [e, upN_at, upN_at, upN_at, upN_at, upd_at, upd_at, upd_at, upd_at]; exact ⟨rfl, rfl, rfl, rfl⟩
    · rw [upN_ne _ _ e, upN_ne _ _ e, upN_ne _ _ e, upN_ne _ _ e, upd_ne _ _ e, upd_ne _ _ e, upd_ne _ _ e, upd_ne _ _ e]; exact x2 k (by omega)
  · have hk : k < cO C + 1 := hk
    show upd (upd (upd (upd ro (4 * cO C) (nI a)) (4 * cO C + 1) (nI b)) (4 * cO C + 2) (nI w)) (4 * cO C + 3) (hgI g) (4 * k) = nI (upN (o1 C) (cO C) a k) ∧ upd (upd (upd (upd ro (4 * cO C) (nI a)) (4 * cO C + 1) (nI b)) (4 * cO C + 2) (nI w)) (4 * cO C + 3) (hgI g) (4 * k + 1) = nI (upN (o2 C) (cO C) b k) ∧ upd (upd (upd (upd ro (4 * cO C) (nI a)) (4 * cO C + 1) (nI b)) (4 * cO C + 2) (nI w)) (4 * cO C + 3) (hgI g) (4 * k + 2) = nI (upN (wo C) (cO C) w k) ∧ upd (upd (upd (upd ro (4 * cO C) (nI a)) (4 * cO C + 1) (nI b)) (4 * cO C + 2) (nI w)) (4 * cO C + 3) (hgI g) (4 * k + 3) = hgI (upN (hg C) (cO C) g k)
    by_cases e : k = cO C
    · subst e
      rw [upN_at, upN_at, upN_at, upN_at]
      refine ⟨?_, ?_, ?_, ?_⟩
      · rw [upd_ne _ _ (by omega), upd_ne _ _ (by omega), upd_ne _ _ (by omega), upd_at]
      · rw [upd_ne _ _ (by omega), upd_ne _ _ (by omega), upd_at]
      · rw [upd_ne _ _ (by omega), upd_at]
      · rw [upd_at]
    · rw [upN_ne _ _ e, upN_ne _ _ e, upN_ne _ _ e, upN_ne _ _ e]
      refine ⟨?_, ?_, ?_, ?_⟩
      · rw [upd_ne _ _ (by omega), upd_ne _ _ (by omega), upd_ne _ _ (by omega), upd_ne _ _ (by omega)]; exact (h5 k (by omega)).1
      · rw [upd_ne _ _ (by omega), upd_ne _ _ (by omega), upd_ne _ _ (by omega), upd_ne _ _ (by omega)]; exact (h5 k (by omega)).2.1
      · rw [upd_ne _ _ (by omega), upd_ne _ _ (by omega), upd_ne _ _ (by omega), upd_ne _ _ (by omega)]; exact (h5 k (by omega)).2.2.1
      · rw [upd_ne _ _ (by omega), upd_ne _ _ (by omega), upd_ne _ _ (by omega), upd_ne _ _ (by omega)]; exact (h5 k (by omega)).2.2.2
