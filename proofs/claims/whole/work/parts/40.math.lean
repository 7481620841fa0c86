/-! ===== plain rows: loops, numbers, arrays ===== -/
theorem itr_run {σ ρ : Type} {b : σ → Option (σ ⊕ ρ)} (st : Nat → σ) (N : Nat) {r : ρ} (hs : ∀ i, i < N → b (st i) = some (.inl (st (i + 1)))) (he : b (st N) = some (.inr r)) : ∀ n, N < n → itr b n (st 0) = some r := by
  have key : ∀ n k, k ≤ N → N - k < n → itr b n (st k) = some r := by
    intro n
    induction n with
    | zero => intro k _ h; omega
    | succ n ih =>
      intro k hk h
      show (b (st k)).bind (fun o => Sum.elim (fun s' => itr b n s') (fun r => some r) o) = some r
      by_cases hkN : k = N
      · subst hkN; rw [he]; rfl
      · rw [hs k (by omega)]
        exact ih (k + 1) (by omega) (by omega)
  intro n hn
  exact key n 0 (by omega) (by omega)
theorem itr_run1 {σ ρ : Type} {b : σ → Option (σ ⊕ ρ)} (st : Nat → σ) (a N : Nat) {r : ρ} (haN : a ≤ N) (hs : ∀ i, a ≤ i → i < N → b (st i) = some (.inl (st (i + 1)))) (he : b (st N) = some (.inr r)) (n : Nat) (hn : N - a < n) : itr b n (st a) = some r := by
  have h := itr_run (b := b) (fun i => st (a + i)) (N - a) (r := r) (fun i hi => hs (a + i) (by omega) (by omega)) (by show b (st (a + (N - a))) = _; rw [Nat.add_sub_cancel' haN]; exact he) n hn
  exact h
theorem FU_eq : FU = 128 := rfl
theorem lt_FU {n : Nat} (h : n < 128) : n < FU := h
theorem b_some {α β : Type} (x : α) (f : α → Option β) : (some x).bind f = f x := rfl
theorem ald_nI {f : Nat → Int32} {n j : Nat} (h : j < n) (hn : n < 2 ^ 31 := by decide) : ald f n (nI j) = some (f j) := by
  unfold ald
  rw [if_neg (nI_in h hn), nI_clamp (by omega)]
theorem ast_nI {f : Nat → Int32} {n j : Nat} {x : Int32} (h : j < n) (hn : n < 2 ^ 31 := by decide) : ast f n (nI j) x = some (upd f j x) := by
  unfold ast
  rw [if_neg (nI_in h hn), nI_clamp (by omega)]
theorem upd_upd (f : Nat → Int32) (k : Nat) (a b : Int32) : upd (upd f k a) k b = upd f k b := by
  funext j; unfold upd; by_cases h : j = k <;> simp [h]
theorem upd_self (f : Nat → Int32) (k : Nat) {a : Int32} (h : f k = a) : upd f k a = f := by
  funext j; unfold upd; by_cases hj : j = k
  · rw [if_pos hj, hj, h]
  · rw [if_neg hj]
theorem upd_at (f : Nat → Int32) (k : Nat) (a : Int32) : upd f k a k = a := by unfold upd; rw [if_pos rfl]
theorem upd_ne (f : Nat → Int32) {k j : Nat} (a : Int32) (h : j ≠ k) : upd f k a j = f j := by unfold upd; rw [if_neg h]
theorem upd_comm (f : Nat → Int32) {k j : Nat} (a b : Int32) (h : j ≠ k) : upd (upd f k a) j b = upd (upd f j b) k a := by
  funext i; unfold upd; by_cases h1 : i = j
  · subst h1; simp [h]
  · simp [h1]
theorem at_nI {f : Nat → Int32} {n j : Nat} (h : j < n) (hn : n < 2 ^ 31) : f_X6_at n (nI j) f = some (f j) := by
  unfold f_X6_at
  rw [if_neg (nI_pos (by omega)), if_neg (nI_ge h hn), ald_nI h hn]; rfl
theorem at_neg {f : Nat → Int32} {n : Nat} {i : Int32} (h : i < 0) : f_X6_at n i f = some 0 := by
  unfold f_X6_at
  rw [if_pos h]
theorem put_nI {f : Nat → Int32} {n j : Nat} {x : Int32} (h : j < n) (hn : n < 2 ^ 31) : f_X6_put n (nI j) x f = some (upd f j x) := by
  unfold f_X6_put
  rw [if_neg (nI_pos (by omega)), if_neg (nI_ge h hn), ast_nI h hn]; rfl
theorem nI_lit (n : Nat) : (OfNat.ofNat n : Int32) = nI n := rfl
/-! ===== sets of at most five, as numbers ===== -/
def pop (S : Nat) : Nat := S % 2 + S / 2 % 2 + S / 4 % 2 + S / 8 % 2 + S / 16 % 2
def clr (S k : Nat) : Nat := if S.testBit k then S - 2 ^ k else S
def sett (S k : Nat) : Nat := if S.testBit k then S else S + 2 ^ k
def tog (S k : Nat) : Nat := if S.testBit k then S - 2 ^ k else S + 2 ^ k
def b2 (b : Bool) : Nat := if b then 1 else 0
theorem bit_e : ∀ S, S < 32 → ∀ k, k < 5 → ((nI S >>> (nI k &&& 31)) &&& (1 : Int32)) = nI (b2 (S.testBit k)) := by decide +kernel
theorem bit_ok {S k : Nat} (hS : S < 32) (hk : k < 5) : f_X6_bit (nI S) (nI k) = some (nI (b2 (S.testBit k))) := by
  unfold f_X6_bit; rw [bit_e S hS k hk]
theorem has_ok : ∀ S, S < 32 → ∀ k, k < 5 → f_X7_has (nI S) (nI k) = some (nI (b2 (S.testBit k))) := by decide +kernel
theorem set_e : ∀ S, S < 32 → ∀ k, k < 5 → (nI S ||| ((1 : Int32) <<< (nI k &&& 31))) = nI (sett S k) := by decide +kernel
theorem clr_e : ∀ S, S < 32 → ∀ k, k < 5 → (nI S &&& (((1 : Int32) <<< (nI k &&& 31)) ^^^ (-1 : Int32))) = nI (clr S k) := by decide +kernel
theorem tog_e : ∀ S, S < 32 → ∀ k, k < 5 → (nI S ^^^ ((1 : Int32) <<< (nI k &&& 31))) = nI (tog S k) := by decide +kernel
theorem all_e : ∀ S, S < 32 → (nI S &&& (-1 : Int32)) = nI S := by decide +kernel
theorem or0_e : ∀ S, S < 32 → (nI S ||| (0 : Int32)) = nI S := by decide +kernel
theorem xor0_e : ∀ S, S < 32 → (nI S ^^^ (0 : Int32)) = nI S := by decide +kernel
theorem and_e : ∀ S, S < 32 → ∀ T, T < 32 → (nI S &&& nI T) = nI (S &&& T) := by decide +kernel
theorem full_e : ∀ O, O < 6 → (((1 : Int32) <<< (nI O &&& 31)) - (1 : Int32)) = nI (2 ^ O - 1) := by decide +kernel
theorem clr_lt : ∀ O, O < 6 → ∀ S, S < 2 ^ O → ∀ k, k < 5 → clr S k < 2 ^ O := by decide +kernel
theorem sett_lt : ∀ O, O < 6 → ∀ S, S < 2 ^ O → ∀ k, k < O → sett S k < 2 ^ O := by decide +kernel
theorem tog_lt : ∀ O, O < 6 → ∀ S, S < 2 ^ O → ∀ k, k < O → tog S k < 2 ^ O := by decide +kernel
theorem clr_tb : ∀ S, S < 32 → ∀ k, k < 5 → ∀ j, j < 5 → (clr S k).testBit j = (S.testBit j && !decide (j = k)) := by decide +kernel
theorem sett_tb : ∀ S, S < 32 → ∀ k, k < 5 → ∀ j, j < 5 → (sett S k).testBit j = (S.testBit j || decide (j = k)) := by decide +kernel
theorem clr_sub : ∀ S, S < 32 → ∀ k, k < 5 → ∀ T, T < 32 → S &&& T = S → clr S k &&& T = clr S k := by decide +kernel
theorem pop_bit : ∀ S, S < 32 → f_J6_bitCount_0f7a4 (nI S) = some (nI (pop S)) := by decide +kernel
theorem pop_ones : ∀ S, S < 32 → f_X7_ones (nI S) = some (nI (pop S)) := by decide +kernel
theorem free_cnt : ∀ S, S < 32 → ∀ T, T < 32 → T &&& S = T → (nI (pop S) - nI (pop T)) = nI (pop S - pop T) ∧ f_X7_ones (nI S &&& (nI T ^^^ (-1 : Int32))) = some (nI (pop S - pop T)) := by decide +kernel
theorem p2_le : ∀ O, O < 6 → 2 ^ O ≤ 32 := by decide
theorem lt32 {O S : Nat} (hO : O ≤ 5) (hS : S < 2 ^ O) : S < 32 := Nat.lt_of_lt_of_le hS (p2_le O (by omega))
theorem b2_1 {b : Bool} : (nI (b2 b) = (1 : Int32)) ↔ b = true := by cases b <;> decide
theorem b2_0 {b : Bool} : (nI (b2 b) = (0 : Int32)) ↔ b = false := by cases b <;> decide
/-! ===== the county and the standing, as numbers ===== -/
abbrev Cty : Type := Nat × Nat × Nat × (Nat → Nat) × (Nat → Nat) × (Nat → Nat) × (Nat → Nat) × (Nat → Option Nat) × (Nat → Option (Nat × Nat))
def cP (C : Cty) : Nat := C.1
def cK (C : Cty) : Nat := C.2.1
def cO (C : Cty) : Nat := C.2.2.1
def kd (C : Cty) : Nat → Nat := C.2.2.2.1
def o1 (C : Cty) : Nat → Nat := C.2.2.2.2.1
def o2 (C : Cty) : Nat → Nat := C.2.2.2.2.2.1
def wo (C : Cty) : Nat → Nat := C.2.2.2.2.2.2.1
def hg (C : Cty) : Nat → Option Nat := C.2.2.2.2.2.2.2.1
def sk (C : Cty) : Nat → Option (Nat × Nat) := C.2.2.2.2.2.2.2.2
def hgI (o : Option Nat) : Int32 := match o with
  | none => -9
  | some h => nI h
/-- a county that was read without a fault -/
def CM (C : Cty) : Prop := cP C ≤ 5 ∧ cK C ≤ 5 ∧ cO C ≤ 5 ∧ (∀ p, p < cP C → kd C p < 4) ∧ (∀ k, k < cO C → o1 C k < cP C ∧ o2 C k < cP C ∧ o1 C k ≠ o2 C k ∧ wo C k ≤ 9 ∧ ∀ h, hg C k = some h → h < k) ∧ (∀ d, d < cK C → ∀ p l, sk C d = some (p, l) → p ≤ 9 ∧ l ≤ 9)
/-- the class's rows hold it -/
def CX (C : Cty) (kinds cp ld ones others worths hangs : Nat → Int32) : Prop := (∀ p, p < cP C → kinds p = nI (kd C p)) ∧ (∀ k, k < cO C → ones k = nI (o1 C k) ∧ others k = nI (o2 C k) ∧ worths k = nI (wo C k) ∧ hangs k = hgI (hg C k)) ∧ (∀ d, d < cK C → (sk C d = none → ld d = -1) ∧ ∀ p l, sk C d = some (p, l) → cp d = nI p ∧ ld d = nI l)
/-- the reference's rows hold it -/
def CY (C : Cty) (kind skyAt skyLoud one other worth hangs : Nat → Int32) : Prop := (∀ p, p < cP C → kind p = nI (kd C p)) ∧ (∀ k, k < cO C → one k = nI (o1 C k) ∧ other k = nI (o2 C k) ∧ worth k = nI (wo C k) ∧ hangs k = hgI (hg C k)) ∧ (∀ d, d < cK C → (sk C d = none → skyAt d = -9) ∧ ∀ p l, sk C d = some (p, l) → skyAt d = nI p ∧ skyLoud d = nI l)
def dst (a b : Nat) : Nat := if a < b then b - a else a - b
def hrs (C : Cty) (pl : Nat → Nat) (wl p cp l : Nat) : Bool := decide (kd C p ≠ 2) && decide (dst (pl p) cp ≤ (if wl.testBit p then l / 2 else l))
def hearN (C : Cty) (pl : Nat → Nat) (wl cp l : Nat) : Nat → Nat
  | 0 => 0
  | n + 1 => if hrs C pl wl n cp l then hearN C pl wl cp l n + 2 ^ n else hearN C pl wl cp l n
theorem hearN_lt (C : Cty) (pl : Nat → Nat) (wl cp l : Nat) : ∀ n, hearN C pl wl cp l n < 2 ^ n
  | 0 => by simp [hearN]
  | n + 1 => by
    have h := hearN_lt C pl wl cp l n
    unfold hearN
    split <;> rw [Nat.pow_succ] <;> omega
theorem hearN_or : ∀ n, n < 5 → ∀ S, S < 2 ^ n → (nI S ||| ((1 : Int32) <<< (nI n &&& 31))) = nI (S + 2 ^ n) := by decide +kernel
theorem hear_tb : ∀ n, n < 5 → ∀ S, S < 2 ^ n → ∀ j, j < 5 → (S + 2 ^ n).testBit j = (S.testBit j || decide (j = n)) := by decide +kernel
