/-! ===== standings kept: rows of both sides ===== -/
theorem cpy_step (f g : Nat → Int32) (sp dp i : Nat) : upd (va_cpy f g sp dp i) (dp + i) (f (sp + i)) = va_cpy f g sp dp (i + 1) := by
  funext j
  by_cases h1 : j = dp + i
  · subst h1
    rw [upd_at, pk_cpy_in (by omega) (by omega)]
    congr 1; omega
  · rw [upd_ne _ _ h1]
    by_cases h2 : dp ≤ j ∧ j < dp + i
    · rw [pk_cpy_in h2.1 h2.2, pk_cpy_in h2.1 (by omega)]
    · rw [pk_cpy_out (by omega), pk_cpy_out (by omega)]
theorem cpy_0 (f g : Nat → Int32) (sp dp : Nat) : va_cpy f g sp dp 0 = g := by
  funext j
  rw [pk_cpy_out (by omega)]
def SM (C : Cty) (B wl S W D : Nat) : Prop := wl < 2 ^ cP C ∧ S < 2 ^ cO C ∧ clo C S ∧ W ≤ 9999 ∧ D ≤ B
def SX (C : Cty) (pk wool sworn worth day : Int32) (pl : Nat → Nat) (wl S W D : Nat) : Prop := PX (cP C) pl pk ∧ wool = nI wl ∧ sworn = nI S ∧ worth = nI W ∧ day = nI D
/-- the class's five numbers and the reference's nine at o are one standing -/
def RS (C : Cty) (B : Nat) (pk wool sworn worth day : Int32) (N : Nat → Int32) (o : Nat) : Prop := ∃ (pl : Nat → Nat) (wl S W D : Nat), SM C B wl S W D ∧ SX C pk wool sworn worth day pl wl S W D ∧ NY (cP C) N o pl wl S W D
theorem RS.mono {C : Cty} {B B' : Nat} (hB : B ≤ B') {pk wool sworn worth day : Int32} {N : Nat → Int32} {o : Nat} (h : RS C B pk wool sworn worth day N o) : RS C B' pk wool sworn worth day N o := by
  obtain ⟨pl, wl, S, W, D, h1, h2, h3⟩ := h
  exact ⟨pl, wl, S, W, D, ⟨h1.1, h1.2.1, h1.2.2.1, h1.2.2.2.1, Nat.le_trans h1.2.2.2.2 hB⟩, h2, h3⟩
theorem NY.agree {P : Nat} (hP : P ≤ 5) {N N' : Nat → Int32} {o o' : Nat} {pl : Nat → Nat} {wl S W D : Nat} (h : NY P N o pl wl S W D) (hag : ∀ k, k < 9 → N' (o' + k) = N (o + k)) : NY P N' o' pl wl S W D :=
  ⟨fun p hp => by rw [hag p (by omega)]; exact h.1 p hp, by rw [hag 5 (by omega)]; exact h.2.1, by rw [hag 6 (by omega)]; exact h.2.2.1, by rw [hag 7 (by omega)]; exact h.2.2.2.1, by rw [hag 8 (by omega)]; exact h.2.2.2.2⟩
theorem RS.agree {C : Cty} (hC : CM C) {B : Nat} {pk wool sworn worth day : Int32} {N N' : Nat → Int32} {o o' : Nat} (h : RS C B pk wool sworn worth day N o) (hag : ∀ k, k < 9 → N' (o' + k) = N (o + k)) : RS C B pk wool sworn worth day N' o' := by
  obtain ⟨pl, wl, S, W, D, h1, h2, h3⟩ := h
  exact ⟨pl, wl, S, W, D, h1, h2, h3.agree hC.1 hag⟩
/-- the class's standing j of a row -/
def rowS (f : Nat → Int32) (j : Nat) (a b c d e : Int32) : Nat → Int32 := upd (upd (upd (upd (upd f (5 * j) a) (5 * j + 1) b) (5 * j + 2) c) (5 * j + 3) d) (5 * j + 4) e
theorem rowS_at (f : Nat → Int32) (j : Nat) (a b c d e : Int32) : rowS f j a b c d e (5 * j) = a ∧ rowS f j a b c d e (5 * j + 1) = b ∧ rowS f j a b c d e (5 * j + 2) = c ∧ rowS f j a b c d e (5 * j + 3) = d ∧ rowS f j a b c d e (5 * j + 4) = e := by
  unfold rowS
  refine ⟨?_, ?_, ?_, ?_, ?_⟩
  · rw [upd_ne _ _ (by omega), upd_ne _ _ (by omega), upd_ne _ _ (by omega), upd_ne _ _ (by omega), upd_at]
  · rw [upd_ne _ _ (by omega), upd_ne _ _ (by omega), upd_ne _ _ (by omega), upd_at]
  · rw [upd_ne _ _ (by omega), upd_ne _ _ (by omega), upd_at]
  · rw [upd_ne _ _ (by omega), upd_at]
  · rw [upd_at]
theorem rowS_ne (f : Nat → Int32) {j i : Nat} (a b c d e : Int32) (h : i < 5 * j ∨ 5 * j + 5 ≤ i) : rowS f j a b c d e i = f i := by
  unfold rowS
  rw [upd_ne _ _ (by omega), upd_ne _ _ (by omega), upd_ne _ _ (by omega), upd_ne _ _ (by omega), upd_ne _ _ (by omega)]
theorem X_saveTo {n j : Nat} (hj : 5 * j + 5 ≤ n) (hn : n < 2 ^ 31) (a b c d e : Int32) (f : Nat → Int32) : f_X4_saveTo n (nI j) a b c d e f = some (rowS f j a b c d e) := by
  unfold f_X4_saveTo
  have e0 : nI j * (5 : Int32) = nI (5 * j) := by rw [show (5 : Int32) = nI 5 from rfl, pk_mul, Nat.mul_comm]
  simp only [e0, b_some, show (1 : Int32) = nI 1 from rfl, show (2 : Int32) = nI 2 from rfl, show (3 : Int32) = nI 3 from rfl, show (4 : Int32) = nI 4 from rfl, nI_add, put_nI (show 5 * j < n by omega) hn, put_nI (show 5 * j + 1 < n by omega) hn, put_nI (show 5 * j + 2 < n by omega) hn, put_nI (show 5 * j + 3 < n by omega) hn, put_nI (show 5 * j + 4 < n by omega) hn]
  rfl
theorem X_loadFrom {n j : Nat} (hj : 5 * j + 5 ≤ n) (hn : n < 2 ^ 31) (a b c d e : Int32) (f : Nat → Int32) : f_X4_loadFrom n (nI j) a b c d e f = some (f (5 * j), f (5 * j + 1), f (5 * j + 2), f (5 * j + 3), f (5 * j + 4)) := by
  unfold f_X4_loadFrom
  have e0 : nI j * (5 : Int32) = nI (5 * j) := by rw [show (5 : Int32) = nI 5 from rfl, pk_mul, Nat.mul_comm]
  simp only [e0, b_some, show (1 : Int32) = nI 1 from rfl, show (2 : Int32) = nI 2 from rfl, show (3 : Int32) = nI 3 from rfl, show (4 : Int32) = nI 4 from rfl, nI_add, at_nI (show 5 * j < n by omega) hn, at_nI (show 5 * j + 1 < n by omega) hn, at_nI (show 5 * j + 2 < n by omega) hn, at_nI (show 5 * j + 3 < n by omega) hn, at_nI (show 5 * j + 4 < n by omega) hn]
theorem le9 {i : Nat} (h : i < 9) : ¬ ((9 : Int32) ≤ nI i) := nI_ge (a := i) (b := 9) h (by omega)
theorem le9' : (9 : Int32) ≤ nI 9 := by decide
theorem Y_keepRow {x : Nat} (hx : x < 14) (N row : Nat → Int32) : itr (fun s => b_X7_keepAct_2 (nI x) N s.1 s.2) FU ((0 : Int32), row) = some (va_cpy N row 0 (9 * x) 9) := by
  have key := itr_run (b := fun s => b_X7_keepAct_2 (nI x) N s.1 s.2) (fun i => (nI i, va_cpy N row 0 (9 * x) i)) 9 (r := va_cpy N row 0 (9 * x) 9) ?_ ?_ FU (lt_FU (by omega))
  · rw [cpy_0] at key; exact key
  · intro i hi
    show b_X7_keepAct_2 (nI x) N (nI i) (va_cpy N row 0 (9 * x) i) = some (.inl (nI (i + 1), va_cpy N row 0 (9 * x) (i + 1)))
    unfold b_X7_keepAct_2
    rw [if_neg (le9 hi), ald_nI (by omega), b_some, ix0, nI_add, ast_nI (by omega), b_some, nI_1, ← cpy_step, Nat.zero_add]
  · show b_X7_keepAct_2 (nI x) N (nI 9) (va_cpy N row 0 (9 * x) 9) = _
    unfold b_X7_keepAct_2
    rw [if_pos le9']
theorem mod14 {a : Nat} (ha : a < 2 ^ 31) : (nI a - nI a / (14 : Int32) * (14 : Int32)) = nI (a % 14) := pk_rem (d := 14) ha (by omega) (by omega)
theorem Y_keepAct {n x : Nat} (hn : n ≤ 14) (hx : x < 14) (N row : Nat → Int32) : f_X7_keepAct (nI n) (nI x) N row = some (nI (if n < 14 then n + 1 else 14), nI ((x + 1) % 14), va_cpy N row 0 (9 * x) 9) := by
  unfold f_X7_keepAct
  rw [Y_keepRow hx, b_some, nI_1, mod14 (by omega), b_some, show (14 : Int32) = nI 14 from rfl]
  by_cases h : n < 14
  · rw [if_neg (nI_ge (a := n) (b := 14) h (by omega)), if_pos h, b_some, nI_1]
  · rw [if_pos (nI_le (a := 14) (b := n) (by omega) (by omega)), if_neg h]
theorem Y_undoRow {x : Nat} (hx : x < 14) (N row : Nat → Int32) : itr (fun s => b_X7_undo_36 (nI x) row s.1 s.2) FU ((0 : Int32), N) = some (va_cpy row N (9 * x) 0 9) := by
  have key := itr_run (b := fun s => b_X7_undo_36 (nI x) row s.1 s.2) (fun i => (nI i, va_cpy row N (9 * x) 0 i)) 9 (r := va_cpy row N (9 * x) 0 9) ?_ ?_ FU (lt_FU (by omega))
  · rw [cpy_0] at key; exact key
  · intro i hi
    show b_X7_undo_36 (nI x) row (nI i) (va_cpy row N (9 * x) 0 i) = some (.inl (nI (i + 1), va_cpy row N (9 * x) 0 (i + 1)))
    unfold b_X7_undo_36
    rw [if_neg (le9 hi), ix0, nI_add, ald_nI (by omega), b_some, ast_nI (by omega), b_some, nI_1, ← cpy_step, Nat.zero_add]
  · show b_X7_undo_36 (nI x) row (nI 9) (va_cpy row N (9 * x) 0 9) = _
    unfold b_X7_undo_36
    rw [if_pos le9']
theorem Y_layTrial (N : Nat → Int32) : f_X7_layTrial N = some (va_cpy N N 0 9 9) := by
  unfold f_X7_layTrial
  have key := itr_run (b := fun s => b_X7_layTrial_2 s.1 s.2) (fun i => (nI i, va_cpy N N 0 9 i)) 9 (r := va_cpy N N 0 9 9) ?_ ?_ FU (lt_FU (by omega))
  · rw [cpy_0] at key
    rw [nI_0] at key; rw [key]; rfl
  · intro i hi
    show b_X7_layTrial_2 (nI i) (va_cpy N N 0 9 i) = some (.inl (nI (i + 1), va_cpy N N 0 9 (i + 1)))
    unfold b_X7_layTrial_2
    rw [if_neg (le9 hi), ald_nI (by omega), b_some, show (9 : Int32) = nI 9 from rfl, nI_add, ast_nI (by omega), b_some, nI_1, ← cpy_step, Nat.zero_add, pk_cpy_out (by omega)]
  · show b_X7_layTrial_2 (nI 9) (va_cpy N N 0 9 9) = _
    unfold b_X7_layTrial_2
    rw [if_pos le9']

theorem X_push {n : Nat} (hn : n ≤ 14) (row : Nat → Int32) (a b c d e : Int32) : f_X0_push (nI n) row a b c d e = some (nI (if n < 14 then n + 1 else 14), if n < 14 then rowS row n a b c d e else rowS (va_cpy row row 5 0 65) 13 a b c d e) := by
  unfold f_X0_push
  rw [show (14 : Int32) = nI 14 from rfl]
  by_cases h : n < 14
  · rw [if_pos (nI_lt (a := n) (b := 14) h (by omega)), X_saveTo (by omega) (by decide), b_some, b_some, nI_1, if_pos h, if_pos h]
  · rw [if_neg (nI_nlt (a := n) (b := 14) (by omega) (by omega)), show (13 : Int32) = nI 13 from rfl, X_saveTo (by omega) (by decide), b_some, b_some, nI_1, if_neg h, if_neg h]
/-- the two rows of acts -/
def RA (C : Cty) (B : Nat) (len : Int32) (row : Nat → Int32) (acts next : Int32) (mrow : Nat → Int32) : Prop := ∃ n x : Nat, n ≤ 14 ∧ x < 14 ∧ len = nI n ∧ acts = nI n ∧ next = nI x ∧ ∀ j, j < n → RS C B (row (5 * j)) (row (5 * j + 1)) (row (5 * j + 2)) (row (5 * j + 3)) (row (5 * j + 4)) mrow (9 * ((x + 14 - n + j) % 14))
theorem RA.mono {C : Cty} {B B' : Nat} (hB : B ≤ B') {len acts next : Int32} {row mrow : Nat → Int32} (h : RA C B len row acts next mrow) : RA C B' len row acts next mrow := by
  obtain ⟨n, x, h1, h2, h3, h4, h5, h6⟩ := h
  exact ⟨n, x, h1, h2, h3, h4, h5, fun j hj => (h6 j hj).mono hB⟩
theorem acts_push {C : Cty} (hC : CM C) {B : Nat} {len acts next : Int32} {row mrow : Nat → Int32} (h : RA C B len row acts next mrow) {a b c d e : Int32} {N : Nat → Int32} (hs : RS C B a b c d e N 0) : ∃ l' r' k' x' m', f_X0_push len row a b c d e = some (l', r') ∧ f_X7_keepAct acts next N mrow = some (k', x', m') ∧ RA C B l' r' k' x' m' := by
  obtain ⟨n, x, h1, h2, rfl, rfl, rfl, h6⟩ := h
  refine ⟨_, _, _, _, _, X_push h1 row a b c d e, Y_keepAct h1 h2 N mrow, ?_⟩
  by_cases h : n < 14
  · refine ⟨n + 1, (x + 1) % 14, by omega, Nat.mod_lt _ (by omega), by rw [if_pos h], by rw [if_pos h], rfl, fun j hj => ?_⟩
    rw [if_pos h]
    by_cases hjn : j = n
    · subst hjn
      obtain ⟨e1, e2, e3, e4, e5⟩ := rowS_at row j a b c d e
      rw [e1, e2, e3, e4, e5]
      have hix : ((x + 1) % 14 + 14 - (j + 1) + j) % 14 = x := by omega
      rw [hix]
      exact hs.agree hC (fun k hk => by rw [pk_cpy_in (by omega) (by omega)]; congr 1; omega)
    · rw [rowS_ne _ _ _ _ _ _ (by omega), rowS_ne _ _ _ _ _ _ (by omega), rowS_ne _ _ _ _ _ _ (by omega), rowS_ne _ _ _ _ _ _ (by omega), rowS_ne _ _ _ _ _ _ (by omega)]
      have hix : ((x + 1) % 14 + 14 - (n + 1) + j) % 14 = (x + 14 - n + j) % 14 := by omega
      have hne : (x + 14 - n + j) % 14 ≠ x := by omega
      rw [hix]
      exact (h6 j (by omega)).agree hC (fun k hk => pk_cpy_out (by omega))
  · have hn : n = 14 := by omega
    subst hn
    refine ⟨14, (x + 1) % 14, by omega, Nat.mod_lt _ (by omega), rfl, rfl, rfl, fun j hj => ?_⟩
    rw [if_neg h]
    by_cases hj13 : j = 13
    · subst hj13
      obtain ⟨e1, e2, e3, e4, e5⟩ := rowS_at (va_cpy row row 5 0 65) 13 a b c d e
      rw [e1, e2, e3, e4, e5]
      have hix : ((x + 1) % 14 + 14 - 14 + 13) % 14 = x := by omega
      rw [hix]
      exact hs.agree hC (fun k hk => by rw [pk_cpy_in (by omega) (by omega)]; congr 1; omega)
    · have sh : ∀ i, i < 65 → va_cpy row row 5 0 65 i = row (5 + i) := fun i hi => by rw [pk_cpy_in (by omega) (by omega)]; congr 1
      rw [rowS_ne _ _ _ _ _ _ (by omega), rowS_ne _ _ _ _ _ _ (by omega), rowS_ne _ _ _ _ _ _ (by omega), rowS_ne _ _ _ _ _ _ (by omega), rowS_ne _ _ _ _ _ _ (by omega), sh _ (by omega), sh _ (by omega), sh _ (by omega), sh _ (by omega), sh _ (by omega)]
      have hix : ((x + 1) % 14 + 14 - 14 + j) % 14 = (x + 14 - 14 + (j + 1)) % 14 := by omega
      have hne : (x + 14 - 14 + (j + 1)) % 14 ≠ x := by omega
      rw [hix]
      have h7 := h6 (j + 1) (by omega)
      rw [show 5 * (j + 1) = 5 + 5 * j by omega, show 5 + 5 * j + 1 = 5 + (5 * j + 1) by omega, show 5 + 5 * j + 2 = 5 + (5 * j + 2) by omega, show 5 + 5 * j + 3 = 5 + (5 * j + 3) by omega, show 5 + 5 * j + 4 = 5 + (5 * j + 4) by omega] at h7
      exact h7.agree hC (fun k hk => pk_cpy_out (by omega))
