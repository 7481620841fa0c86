/-! ===== Int32 by its bits: bt x i ===== -/
def bt (x : Int32) (i : Nat) : Bool := x.toBitVec.getLsbD i
theorem b_ext {x y : Int32} (h : ∀ i, i < 32 → bt x i = bt y i) : x = y := Int32.toBitVec_inj.mp (BitVec.eq_of_getLsbD_eq (fun i hi => h i hi))
theorem b_or (x y : Int32) (i : Nat) : bt (x ||| y) i = (bt x i || bt y i) := by unfold bt; rw [Int32.toBitVec_or, BitVec.getLsbD_or]
theorem b_and (x y : Int32) (i : Nat) : bt (x &&& y) i = (bt x i && bt y i) := by unfold bt; rw [Int32.toBitVec_and, BitVec.getLsbD_and]
theorem b_xor (x y : Int32) (i : Nat) : bt (x ^^^ y) i = (bt x i ^^ bt y i) := by unfold bt; rw [Int32.toBitVec_xor, BitVec.getLsbD_xor]
theorem b_big {x : Int32} {i : Nat} (h : 32 ≤ i) : bt x i = false := BitVec.getLsbD_of_ge _ _ h
theorem b_255 (i : Nat) : bt 255 i = decide (i < 8) := by
  rcases Nat.lt_or_ge i 32 with h | h
  · exact (by decide +kernel : ∀ i, i < 32 → bt 255 i = decide (i < 8)) i h
  · rw [b_big h, decide_eq_false (by omega)]
theorem b_65535 (i : Nat) : bt 65535 i = decide (i < 16) := by
  rcases Nat.lt_or_ge i 32 with h | h
  · exact (by decide +kernel : ∀ i, i < 32 → bt 65535 i = decide (i < 16)) i h
  · rw [b_big h, decide_eq_false (by omega)]
theorem b_m1 : ∀ i, i < 32 → bt (-1) i = true := by decide +kernel
theorem b_0 (i : Nat) : bt 0 i = false := BitVec.getLsbD_zero
theorem s_l : ∀ n, n < 32 → ((nI n &&& 31).toBitVec.smod 32).toNat = n := by decide +kernel
theorem s_u : ∀ n, n < 32 → (((nI n).toUInt32 &&& Int32.toUInt32 31).toBitVec % 32).toNat = n := by decide +kernel
theorem b_shl (n : Nat) (hn : n < 32) (x : Int32) {i : Nat} (hi : i < 32) : bt (x <<< (nI n &&& 31)) i = (decide (n ≤ i) && bt x (i - n)) := by
  unfold bt
  rw [Int32.toBitVec_shiftLeft]
  show (x.toBitVec <<< ((nI n &&& 31).toBitVec.smod 32).toNat).getLsbD i = _
  rw [s_l n hn, BitVec.getLsbD_shiftLeft]
  rcases Nat.lt_or_ge i n with h | h
  · simp [h, Nat.not_le.mpr h]
  · simp [hi, h, Nat.not_lt.mpr h]
theorem b_ushr (n : Nat) (hn : n < 32) (x : Int32) (i : Nat) : bt ((x.toUInt32 >>> ((nI n).toUInt32 &&& Int32.toUInt32 31)).toInt32) i = bt x (n + i) := by
  show (x.toUInt32 >>> ((nI n).toUInt32 &&& Int32.toUInt32 31)).toBitVec.getLsbD i = x.toUInt32.toBitVec.getLsbD (n + i)
  rw [UInt32.toBitVec_shiftRight]
  show (x.toUInt32.toBitVec >>> (((nI n).toUInt32 &&& Int32.toUInt32 31).toBitVec % 32).toNat).getLsbD i = _
  rw [s_u n hn, BitVec.getLsbD_ushiftRight]
theorem b_sshr (n : Nat) (hn : n < 32) (x : Int32) {i : Nat} (hi : i < 32) : bt (x >>> (nI n &&& 31)) i = if n + i < 32 then bt x (n + i) else bt x 31 := by
  unfold bt
  rw [Int32.toBitVec_shiftRight]
  show (x.toBitVec.sshiftRight ((nI n &&& 31).toBitVec.smod 32).toNat).getLsbD i = _
  rw [s_l n hn, BitVec.getLsbD_sshiftRight, BitVec.msb_eq_getLsbD_last]
  simp [hi]
theorem b_15 (i : Nat) (h : i < 32) : bt 15 i = decide (i < 4) := (by decide +kernel : ∀ i, i < 32 → bt 15 i = decide (i < 4)) i h
theorem b_v : ∀ v, v < 16 → ∀ i, i < 32 → bt (nI v) i = (decide (i < 4) && bt (nI v) i) := by decide +kernel
theorem p4_e (p : Nat) : (4 : Int32) * nI p = nI (4 * p) := by rw [show (4 : Int32) = nI 4 from rfl, pk_mul]
theorem put_plc {pk : Int32} {p p' v : Nat} (hp : p < 5) (hp' : p' < 5) (hv : v < 16) : ((((pk &&& (((15 : Int32) <<< (((4 : Int32) * nI p) &&& 31)) ^^^ (-1 : Int32))) ||| (nI v <<< (((4 : Int32) * nI p) &&& 31))) >>> (((4 : Int32) * nI p') &&& 31)) &&& (15 : Int32)) = if p' = p then nI v else ((pk >>> (((4 : Int32) * nI p') &&& 31)) &&& (15 : Int32)) := by
  rw [p4_e, p4_e]
  apply b_ext
  intro i hi
  by_cases h4 : i < 4
  · have h1 : 4 * p' + i < 32 := by omega
    rw [b_and, b_sshr _ (by omega) _ hi, if_pos h1, b_or, b_and, b_xor, b_shl _ (by omega) _ h1, b_shl _ (by omega) _ h1, b_m1 _ h1, b_15 i hi]
    by_cases he : p' = p
    · subst he
      rw [if_pos rfl, show 4 * p' + i - 4 * p' = i by omega, b_15 i hi]
      simp [h4]
    · rw [if_neg he, b_and, b_sshr _ (by omega) _ hi, if_pos h1, b_15 i hi, b_15 (4 * p' + i - 4 * p) (by omega), b_v v hv (4 * p' + i - 4 * p) (by omega)]
      by_cases hlt : 4 * p ≤ 4 * p' + i
      · have : ¬ (4 * p' + i - 4 * p < 4) := by omega
        simp [h4, hlt, this]
      · simp [h4, hlt]
  · rw [b_and, b_15 i hi]
    by_cases he : p' = p
    · rw [if_pos he, b_v v hv i hi]; simp [h4]
    · rw [if_neg he, b_and, b_15 i hi]; simp [h4]
def setP (pl : Nat → Nat) (p v : Nat) : Nat → Nat := fun j => if j = p then v else pl j
theorem X_putAt {P : Nat} (hP : P ≤ 5) {pl : Nat → Nat} {pk : Int32} (h : PX P pl pk) {p v : Nat} (hp : p < P) (hv : v < 10) : ∃ pk', f_X4_putAt (nI p) (nI v) pk = some pk' ∧ PX P (setP pl p v) pk' := by
  refine ⟨_, rfl, fun j hj => ?_⟩
  have e := put_plc (pk := pk) (p := p) (p' := j) (v := v) (by omega) (by omega) (by omega)
  have hj2 := h j hj
  unfold f_X4_placeOf at hj2 ⊢
  rw [e]
  unfold setP
  by_cases he : j = p
  · rw [if_pos he, if_pos he]; exact ⟨rfl, hv⟩
  · rw [if_neg he, if_neg he]; exact hj2
