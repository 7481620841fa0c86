def f_X7_in (v0 : Int64) (v2 : Int64) (v4 : Int64) : Option (Int32) := if (lg_cmp v0 v2) < (0 : Int32) then some (0 : Int32) else if (0 : Int32) < (lg_cmp v0 v4) then some (0 : Int32) else some (1 : Int32)
set_option maxHeartbeats 4000000 in
set_option maxRecDepth 100000 in
theorem c_X7_in (l : Launch) (D : va_G) (cI cZ : ClassId) (v0 : Int64) (v2 : Int64) (v4 : Int64) (q : Int32) (hf : f_X7_in v0 v2 v4 = some q) : CtZ l D cI cZ yX7_in wsX7_in 0 0 [.long v0, .long v2, .long v4] [] (fun q => []) (fun q => q) q := by
  refine CtZ.of (cc := cX7_in) (maxL := 6) (plainFor_of_name (by decide)) rfl (Nat.le_of_ble_eq_true rfl) ?_
  intro p e s m args below meth c A Q H ls hB hE hW hl
  have hx := hB.1
  have hb := hB.2.1
  have hml := hB.2.2.2.1
  have hown : s.vm.findClass RX7 = some m.cls := hB.2.2.2.2.1
  have hts := hB.2.2.2.2.2.1
  have hK := hB.2.2.2.2.2.2.2.1.1
  have hl : lv_has ls 6 [(0, .long v0), (2, .long v2), (4, .long v4)] := hl
  unfold f_X7_in at hf
  refine lv_lload_n hx hb dX7_in_0 rfl (lv_at hl 0 rfl) ?_
  refine lv_lload_n hx hb dX7_in_1 rfl (lv_at hl 1 rfl) ?_
  refine W.lcmp hx hb dX7_in_2 ?_
  refine lv_if_lt (tgt := 17) hx hb dX7_in_3 (by decide) (fun c_1 => ?_) (fun c_1 => ?_)
  · have hf := it_t c_1 hf
    refine lv_iconst (v := 0) hx hb dX7_in_17 (by decide) ?_
    exact hE _ _ _ _ _ (0 : Int32) (sm hf) hW rfl nz_0 dX7_in_18
  · have hf := it_f c_1 hf
    refine lv_lload_n hx hb dX7_in_6 rfl (lv_at hl 0 rfl) ?_
    refine lv_lload hx hb dX7_in_7 (lv_at hl 2 rfl) ?_
    refine W.lcmp hx hb dX7_in_9 ?_
    refine lv_if_gt (tgt := 17) hx hb dX7_in_10 (by decide) (fun c_2 => ?_) (fun c_2 => ?_)
    · have hf := it_t c_2 hf
      refine lv_iconst (v := 0) hx hb dX7_in_17 (by decide) ?_
      exact hE _ _ _ _ _ (0 : Int32) (sm hf) hW rfl nz_0 dX7_in_18
    · have hf := it_f c_2 hf
      refine lv_iconst (v := 1) hx hb dX7_in_13 (by decide) ?_
      refine lv_goto (tgt := 18) hx hb dX7_in_14 (by decide) ?_
      exact hE _ _ _ _ _ (1 : Int32) (sm hf) hW rfl nz_1 dX7_in_18
def f_X7_has (v0 : Int32) (v1 : Int32) : Option (Int32) := if ((v0 >>> (v1 &&& 31)) &&& (1 : Int32)) = (1 : Int32) then some (1 : Int32) else some (0 : Int32)
set_option maxHeartbeats 4000000 in
set_option maxRecDepth 100000 in
theorem c_X7_has (l : Launch) (D : va_G) (cI cZ : ClassId) (v0 : Int32) (v1 : Int32) (q : Int32) (hf : f_X7_has v0 v1 = some q) : CtZ l D cI cZ yX7_has wsX7_has 0 0 [.int v0, .int v1] [] (fun q => []) (fun q => q) q := by
  refine CtZ.of (cc := cX7_has) (maxL := 2) (plainFor_of_name (by decide)) rfl (Nat.le_of_ble_eq_true rfl) ?_
  intro p e s m args below meth c A Q H ls hB hE hW hl
  have hx := hB.1
  have hb := hB.2.1
  have hml := hB.2.2.2.1
  have hown : s.vm.findClass RX7 = some m.cls := hB.2.2.2.2.1
  have hts := hB.2.2.2.2.2.1
  have hK := hB.2.2.2.2.2.2.2.1.1
  have hl : lv_has ls 2 [(0, .int v0), (1, .int v1)] := hl
  unfold f_X7_has at hf
  refine lv_iload_n hx hb dX7_has_0 rfl (lv_at hl 0 rfl) ?_
  refine lv_iload_n hx hb dX7_has_1 rfl (lv_at hl 1 rfl) ?_
  refine lv_ishr hx hb dX7_has_2 ?_
  refine lv_iconst (v := 1) hx hb dX7_has_3 (by decide) ?_
  refine lv_iand hx hb dX7_has_4 ?_
  refine lv_iconst (v := 1) hx hb dX7_has_5 (by decide) ?_
  refine lv_icmp_ne (tgt := 13) hx hb dX7_has_6 (by decide) (fun c_1 => ?_) (fun c_1 => ?_)
  · have hf := it_f c_1 hf
    refine lv_iconst (v := 0) hx hb dX7_has_13 (by decide) ?_
    exact hE _ _ _ _ _ (0 : Int32) (sm hf) hW rfl nz_0 dX7_has_14
  · have hf := it_t c_1 hf
    refine lv_iconst (v := 1) hx hb dX7_has_9 (by decide) ?_
    refine lv_goto (tgt := 14) hx hb dX7_has_10 (by decide) ?_
    exact hE _ _ _ _ _ (1 : Int32) (sm hf) hW rfl nz_1 dX7_has_14
def b_X7_ones_4 (v0 : Int32) (v1 : Int32) (v2 : Int32) : Option ((Int32 × Int32) ⊕ (Int32)) := if (5 : Int32) ≤ v2 then some (.inr v1) else (some (v1 + ((v0 >>> (v2 &&& 31)) &&& (1 : Int32)))).bind fun w_506 => some (.inl (w_506, (v2 + (1 : Int32))))
def f_X7_ones (v0 : Int32) : Option (Int32) := (itr (fun s => b_X7_ones_4 v0 s.1 s.2) FU ((0 : Int32), (0 : Int32))).bind fun x_4 => some x_4
set_option maxHeartbeats 4000000 in
set_option maxRecDepth 100000 in
theorem c_X7_ones (l : Launch) (D : va_G) (cI cZ : ClassId) (v0 : Int32) (q : Int32) (hf : f_X7_ones v0 = some q) : CtI l D cI cZ yX7_ones wsX7_ones 0 0 [.int v0] [] (fun q => []) (fun q => q) q := by
  refine CtI.of (cc := cX7_ones) (maxL := 3) (plainFor_of_name (by decide)) rfl (Nat.le_of_ble_eq_true rfl) ?_
  intro p e s m args below meth c A Q H ls hB hE hW hl
  have hx := hB.1
  have hb := hB.2.1
  have hml := hB.2.2.2.1
  have hown : s.vm.findClass RX7 = some m.cls := hB.2.2.2.2.1
  have hts := hB.2.2.2.2.2.1
  have hK := hB.2.2.2.2.2.2.2.1.1
  have hl : lv_has ls 3 [(0, .int v0)] := hl
  unfold f_X7_ones at hf
  refine lv_iconst (v := 0) hx hb dX7_ones_0 (by decide) ?_
  refine lv_istore_n (lv' := [(1, .int (0 : Int32)), (0, .int v0)]) hx hb dX7_ones_1 rfl hl (by decide) rfl (fun ls hl => ?_)
  refine lv_iconst (v := 0) hx hb dX7_ones_2 (by decide) ?_
  refine lv_istore_n (lv' := [(2, .int (0 : Int32)), (1, .int (0 : Int32)), (0, .int v0)]) hx hb dX7_ones_3 rfl hl (by decide) rfl (fun ls hl => ?_)
  obtain ⟨e_4, hl_4, hk_4⟩ := bnd hf
  have K_4 : ∀ x_4 : Int32, x_4 = e_4 → ∀ (H : Heap) (locs : List Loc) (ls : Array Slot), Wl D A s.heap [] H locs → lv_has ls 3 [(1, .int x_4)] → W p l e (Rm 0 0) s m args below meth c H locs 0 0 Q (F0 m 23 ls []) := by
    intro x_4 hx_4 H locs ls hW hl
    have hf := hk_4
    rw [← hx_4] at hf
    refine lv_iload_n hx hb dX7_ones_23 rfl (lv_at hl 0 rfl) ?_
    exact hE _ _ _ _ _ x_4 (sm hf) hW rfl dX7_ones_24
  have L_4 : ∀ (n : Nat) (y4_1 : Int32) (y4_2 : Int32) (H : Heap) (locs : List Loc) (ls : Array Slot), itr (fun s => b_X7_ones_4 v0 s.1 s.2) n (y4_1, y4_2) = some e_4 → Wl D A s.heap [] H locs → lv_has ls 3 [(0, .int v0), (1, .int y4_1), (2, .int y4_2)] → W p l e (Rm 0 0) s m args below meth c H locs 0 0 Q (F0 m 4 ls []) := by
    intro n
    induction n with
    | zero => intro y4_1 y4_2 H locs ls h9; exact itr_0 h9
    | succ n ih =>
      intro y4_1 y4_2 H locs ls hf hW hl
      obtain ⟨o_4, hf, ho_4⟩ := itr_inv hf
      have hf : b_X7_ones_4 v0 y4_1 y4_2 = some o_4 := hf
      unfold b_X7_ones_4 at hf
      refine lv_iload_n hx hb dX7_ones_4 rfl (lv_at hl 2 rfl) ?_
      refine lv_iconst (v := 5) hx hb dX7_ones_5 (by decide) ?_
      refine lv_icmp_ge (tgt := 23) hx hb dX7_ones_6 (by decide) (fun c_1 => ?_) (fun c_1 => ?_)
      · have hf := it_t c_1 hf
        have h9 := o_inr hf ho_4
        exact K_4 y4_1 h9 _ _ _ hW (lv_sub hl [1] rfl)
      · have hf := it_f c_1 hf
        refine lv_iload_n hx hb dX7_ones_9 rfl (lv_at hl 1 rfl) ?_
        refine lv_iload_n hx hb dX7_ones_10 rfl (lv_at hl 0 rfl) ?_
        refine lv_iload_n hx hb dX7_ones_11 rfl (lv_at hl 2 rfl) ?_
        refine lv_ishr hx hb dX7_ones_12 ?_
        refine lv_iconst (v := 1) hx hb dX7_ones_13 (by decide) ?_
        refine lv_iand hx hb dX7_ones_14 ?_
        refine lv_iadd hx hb dX7_ones_15 ?_
        obtain ⟨w_2, hw_2, hf⟩ := bnd hf
        refine q_nmI hw_2 ?_
        refine lv_istore_n (lv' := [(1, .int w_2), (0, .int v0), (2, .int y4_2)]) hx hb dX7_ones_16 rfl hl (by decide) rfl (fun ls hl => ?_)
        refine lv_iinc (v := (y4_2 + (1 : Int32))) (lv' := [(2, .int (y4_2 + (1 : Int32))), (1, .int w_2), (0, .int v0)]) hx hb dX7_ones_17 hl (k := 2) rfl rfl (by decide) rfl (fun ls hl => ?_)
        refine lv_goto (tgt := 4) hx hb dX7_ones_20 (by decide) ?_
        have h9 := o_inl hf ho_4
        exact ih w_2 (y4_2 + (1 : Int32)) _ _ _ h9 hW (lv_sub hl [2, 1, 0] rfl)
  exact L_4 FU (0 : Int32) (0 : Int32) _ _ _ hl_4 hW (lv_sub hl [2, 1, 0] rfl)
def f_X7_write (v1 : Int32) (p0_length : Int32) (p0_text : Nat → Int32) : Option (Int32 × Int32 × (Nat → Int32)) := (f_X7_in (Int32.toInt64 v1) (0 : Int64) (255 : Int64)).bind fun r_1 => if r_1 = (0 : Int32) then some ((-2 : Int32), p0_length, p0_text) else if p0_length = (60 : Int32) then some ((-4 : Int32), p0_length, p0_text) else (ast p0_text 60 p0_length v1).bind fun r_4 => (some (p0_length + (1 : Int32))).bind fun w_5 => some (w_5, w_5, r_4)
set_option maxHeartbeats 4000000 in
set_option maxRecDepth 100000 in
theorem c_X7_write (l : Launch) (D : va_G) (cI cZ : ClassId) (a_p0 a_p0_kind a_p0_skyAt a_p0_skyLoud a_p0_one a_p0_other a_p0_worth a_p0_hangs a_p0_now a_p0_readPerson a_p0_readSky a_p0_readOath a_p0_text a_p0_row a_p0_toldAt a_p0_toldWool a_p0_toldHeard a_p0_isKept a_p0_kept : Nat) (p0_persons : Int32) (p0_skies : Int32) (p0_oaths : Int32) (p0_readPersons : Int32) (p0_readSkies : Int32) (p0_readOaths : Int32) (p0_length : Int32) (p0_at : Int32) (p0_faultAt : Int32) (p0_acts : Int32) (p0_next : Int32) (p0_told : Int32) (p0_seed : Int64) (p0_text : Nat → Int32) (v1 : Int32) (q : Int32 × Int32 × (Nat → Int32)) (hf : f_X7_write v1 p0_length p0_text = some q) : CtI l D cI cZ yX7_write wsX7_write 1 25 [.ref a_p0, .int v1] [(a_p0, .inr (7, [.int p0_persons, .int p0_skies, .int p0_oaths, .ref a_p0_kind, .ref a_p0_skyAt, .ref a_p0_skyLoud, .ref a_p0_one, .ref a_p0_other, .ref a_p0_worth, .ref a_p0_hangs, .ref a_p0_now, .ref a_p0_readPerson, .ref a_p0_readSky, .ref a_p0_readOath, .int p0_readPersons, .int p0_readSkies, .int p0_readOaths, .ref a_p0_text, .int p0_length, .int p0_at, .int p0_faultAt, .int p0_acts, .int p0_next, .ref a_p0_row, .int p0_told, .ref a_p0_toldAt, .ref a_p0_toldWool, .ref a_p0_toldHeard, .long p0_seed, .ref a_p0_isKept, .ref a_p0_kept])), (a_p0_text, .inl (cI, 60, .inl p0_text))] (fun q => [(a_p0, .inr (7, [.int p0_persons, .int p0_skies, .int p0_oaths, .ref a_p0_kind, .ref a_p0_skyAt, .ref a_p0_skyLoud, .ref a_p0_one, .ref a_p0_other, .ref a_p0_worth, .ref a_p0_hangs, .ref a_p0_now, .ref a_p0_readPerson, .ref a_p0_readSky, .ref a_p0_readOath, .int p0_readPersons, .int p0_readSkies, .int p0_readOaths, .ref a_p0_text, .int q.2.1, .int p0_at, .int p0_faultAt, .int p0_acts, .int p0_next, .ref a_p0_row, .int p0_told, .ref a_p0_toldAt, .ref a_p0_toldWool, .ref a_p0_toldHeard, .long p0_seed, .ref a_p0_isKept, .ref a_p0_kept])), (a_p0_text, .inl (cI, 60, .inl q.2.2))]) (fun q => q.1) q := by
  refine CtI.of (cc := cX7_write) (maxL := 2) (plainFor_of_name (by decide)) rfl (Nat.le_of_ble_eq_true rfl) ?_
  intro p e s m args below meth c A Q H ls hB hE hW hl
  have hx := hB.1
  have hb := hB.2.1
  have hml := hB.2.2.2.1
  have hown : s.vm.findClass RX7 = some m.cls := hB.2.2.2.2.1
  have hts := hB.2.2.2.2.2.1
  have hK := hB.2.2.2.2.2.2.2.1.1
  have hl : lv_has ls 2 [(0, .ref a_p0), (1, .int v1)] := hl
  have in_X7 : ∀ w ∈ wsX70, w ∈ wsX7_write := fun w h => List.mem_cons_of_mem _ (List.mem_append_right _ h)
  have fl_43 : (Cond.fieldLink RX7 43 (TX7 17).1 (TX7 17).2.1 (TX7 17).2.2.1).before args s = true := hts (.fieldLink RX7 43 "ClapOathsModel" "text" "[I") (by decide +kernel)
  have fl_71 : (Cond.fieldLink RX7 71 (TX7 18).1 (TX7 18).2.1 (TX7 18).2.2.1).before args s = true := hts (.fieldLink RX7 71 "ClapOathsModel" "length" "I") (by decide +kernel)
  unfold f_X7_write at hf
  refine lv_iload_n hx hb dX7_write_0 rfl (lv_at hl 1 rfl) ?_
  refine lv_i2l (v := (Int32.toInt64 v1)) hx hb dX7_write_1 rfl ?_
  refine lv_lconst (v := 0) hx hb dX7_write_2 (by decide) ?_
  refine lv_ldc2 (v := 255) hx hb hown (hts (.constantLong RX7 65 (255)) (by decide +kernel)) dX7_write_3 ?_
  obtain ⟨r_1, hr_1, hf⟩ := bnd hf
  refine q_callSZ hB hW (As := [.long (Int32.toInt64 v1), .long (0 : Int64), .long (255 : Int64)]) (rest := []) (ws' := [(a_p0, .inr (7, [.int p0_persons, .int p0_skies, .int p0_oaths, .ref a_p0_kind, .ref a_p0_skyAt, .ref a_p0_skyLoud, .ref a_p0_one, .ref a_p0_other, .ref a_p0_worth, .ref a_p0_hangs, .ref a_p0_now, .ref a_p0_readPerson, .ref a_p0_readSky, .ref a_p0_readOath, .int p0_readPersons, .int p0_readSkies, .int p0_readOaths, .ref a_p0_text, .int p0_length, .int p0_at, .int p0_faultAt, .int p0_acts, .int p0_next, .ref a_p0_row, .int p0_told, .ref a_p0_toldAt, .ref a_p0_toldWool, .ref a_p0_toldHeard, .long p0_seed, .ref a_p0_isKept, .ref a_p0_kept])), (a_p0_text, .inl (cI, 60, .inl p0_text))]) (c_X7_in l D cI cZ (Int32.toInt64 v1) (0 : Int64) (255 : Int64) r_1 hr_1) (va_cwS 3 hts gX7_write_X7_in rfl rfl rfl (by decide +kernel) ⟨Nat.le_of_ble_eq_true rfl, Nat.le_of_ble_eq_true rfl⟩) [] rfl rfl rfl rfl rfl hl.1 rfl (Nat.le_of_ble_eq_true rfl) ⟨Nat.le_of_ble_eq_true rfl, Nat.le_of_ble_eq_true rfl⟩ dX7_write_6 (fun hzr_1 H locs hW => ?_)
  refine lv_if_ne (tgt := 15) hx hb dX7_write_9 (by decide) (fun c_2 => ?_) (fun c_2 => ?_)
  · have hf := it_f c_2 hf
    refine lv_aload_n hx hb dX7_write_15 rfl (lv_at hl 0 rfl) ?_
    refine q_get hB hW 7 in_X7 0 rfl rfl 18 (by decide) fl_71 (v := .int p0_length) rfl dX7_write_16 ?_
    refine lv_bipush (v := 60) hx hb dX7_write_19 (by decide) ?_
    refine lv_icmp_ne (tgt := 27) hx hb dX7_write_21 (by decide) (fun c_3 => ?_) (fun c_3 => ?_)
    · have hf := it_f c_3 hf
      refine lv_aload_n hx hb dX7_write_27 rfl (lv_at hl 0 rfl) ?_
      refine q_get hB hW 7 in_X7 0 rfl rfl 17 (by decide) fl_43 (v := .ref a_p0_text) rfl dX7_write_28 ?_
      refine lv_aload_n hx hb dX7_write_31 rfl (lv_at hl 0 rfl) ?_
      refine q_get hB hW 7 in_X7 0 rfl rfl 18 (by decide) fl_71 (v := .int p0_length) rfl dX7_write_32 ?_
      refine lv_iload_n hx hb dX7_write_35 rfl (lv_at hl 1 rfl) ?_
      obtain ⟨r_4, hr_4, hf⟩ := bnd hf
      refine q_iast hB hW 1 rfl hr_4 (ws' := [(a_p0, .inr (7, [.int p0_persons, .int p0_skies, .int p0_oaths, .ref a_p0_kind, .ref a_p0_skyAt, .ref a_p0_skyLoud, .ref a_p0_one, .ref a_p0_other, .ref a_p0_worth, .ref a_p0_hangs, .ref a_p0_now, .ref a_p0_readPerson, .ref a_p0_readSky, .ref a_p0_readOath, .int p0_readPersons, .int p0_readSkies, .int p0_readOaths, .ref a_p0_text, .int p0_length, .int p0_at, .int p0_faultAt, .int p0_acts, .int p0_next, .ref a_p0_row, .int p0_told, .ref a_p0_toldAt, .ref a_p0_toldWool, .ref a_p0_toldHeard, .long p0_seed, .ref a_p0_isKept, .ref a_p0_kept])), (a_p0_text, .inl (cI, 60, .inl r_4))]) rfl dX7_write_36 (fun H locs hW => ?_)
      refine lv_aload_n hx hb dX7_write_37 rfl (lv_at hl 0 rfl) ?_
      refine lv_dup hx hb dX7_write_38 rfl ?_
      refine q_get hB hW 7 in_X7 0 rfl rfl 18 (by decide) fl_71 (v := .int p0_length) rfl dX7_write_39 ?_
      refine lv_iconst (v := 1) hx hb dX7_write_42 (by decide) ?_
      refine lv_iadd hx hb dX7_write_43 ?_
      obtain ⟨w_5, hw_5, hf⟩ := bnd hf
      refine q_nmI hw_5 ?_
      refine q_put hB hW 7 in_X7 tyX7 tyX7_ok nmX7 0 rfl rfl 18 (by decide) fl_71 rfl (by first | rfl | decide) (by first | rfl | decide) (Nat.le_of_ble_eq_true rfl) (ws' := [(a_p0, .inr (7, [.int p0_persons, .int p0_skies, .int p0_oaths, .ref a_p0_kind, .ref a_p0_skyAt, .ref a_p0_skyLoud, .ref a_p0_one, .ref a_p0_other, .ref a_p0_worth, .ref a_p0_hangs, .ref a_p0_now, .ref a_p0_readPerson, .ref a_p0_readSky, .ref a_p0_readOath, .int p0_readPersons, .int p0_readSkies, .int p0_readOaths, .ref a_p0_text, .int w_5, .int p0_at, .int p0_faultAt, .int p0_acts, .int p0_next, .ref a_p0_row, .int p0_told, .ref a_p0_toldAt, .ref a_p0_toldWool, .ref a_p0_toldHeard, .long p0_seed, .ref a_p0_isKept, .ref a_p0_kept])), (a_p0_text, .inl (cI, 60, .inl r_4))]) rfl dX7_write_44 (fun H locs hW => ?_)
      refine lv_aload_n hx hb dX7_write_47 rfl (lv_at hl 0 rfl) ?_
      refine q_get hB hW 7 in_X7 0 rfl rfl 18 (by decide) fl_71 (v := .int w_5) rfl dX7_write_48 ?_
      exact hE _ _ _ _ _ (w_5, w_5, r_4) (sm hf) hW rfl dX7_write_51
    · have hf := it_t c_3 hf
      refine lv_bipush (v := -4) hx hb dX7_write_24 (by decide) ?_
      exact hE _ _ _ _ _ ((-4 : Int32), p0_length, p0_text) (sm hf) hW rfl dX7_write_26
  · have hf := it_t c_2 hf
    refine lv_bipush (v := -2) hx hb dX7_write_12 (by decide) ?_
    exact hE _ _ _ _ _ ((-2 : Int32), p0_length, p0_text) (sm hf) hW rfl dX7_write_14
def f_X7_wipe (p0_length : Int32) : Option (Int32 × Int32) := some (p0_length, (0 : Int32))
set_option maxHeartbeats 4000000 in
set_option maxRecDepth 100000 in
theorem c_X7_wipe (l : Launch) (D : va_G) (cI cZ : ClassId) (a_p0 a_p0_kind a_p0_skyAt a_p0_skyLoud a_p0_one a_p0_other a_p0_worth a_p0_hangs a_p0_now a_p0_readPerson a_p0_readSky a_p0_readOath a_p0_text a_p0_row a_p0_toldAt a_p0_toldWool a_p0_toldHeard a_p0_isKept a_p0_kept : Nat) (p0_persons : Int32) (p0_skies : Int32) (p0_oaths : Int32) (p0_readPersons : Int32) (p0_readSkies : Int32) (p0_readOaths : Int32) (p0_length : Int32) (p0_at : Int32) (p0_faultAt : Int32) (p0_acts : Int32) (p0_next : Int32) (p0_told : Int32) (p0_seed : Int64) (q : Int32 × Int32) (hf : f_X7_wipe p0_length = some q) : CtI l D cI cZ yX7_wipe wsX7_wipe 0 0 [.ref a_p0] [(a_p0, .inr (7, [.int p0_persons, .int p0_skies, .int p0_oaths, .ref a_p0_kind, .ref a_p0_skyAt, .ref a_p0_skyLoud, .ref a_p0_one, .ref a_p0_other, .ref a_p0_worth, .ref a_p0_hangs, .ref a_p0_now, .ref a_p0_readPerson, .ref a_p0_readSky, .ref a_p0_readOath, .int p0_readPersons, .int p0_readSkies, .int p0_readOaths, .ref a_p0_text, .int p0_length, .int p0_at, .int p0_faultAt, .int p0_acts, .int p0_next, .ref a_p0_row, .int p0_told, .ref a_p0_toldAt, .ref a_p0_toldWool, .ref a_p0_toldHeard, .long p0_seed, .ref a_p0_isKept, .ref a_p0_kept]))] (fun q => [(a_p0, .inr (7, [.int p0_persons, .int p0_skies, .int p0_oaths, .ref a_p0_kind, .ref a_p0_skyAt, .ref a_p0_skyLoud, .ref a_p0_one, .ref a_p0_other, .ref a_p0_worth, .ref a_p0_hangs, .ref a_p0_now, .ref a_p0_readPerson, .ref a_p0_readSky, .ref a_p0_readOath, .int p0_readPersons, .int p0_readSkies, .int p0_readOaths, .ref a_p0_text, .int q.2, .int p0_at, .int p0_faultAt, .int p0_acts, .int p0_next, .ref a_p0_row, .int p0_told, .ref a_p0_toldAt, .ref a_p0_toldWool, .ref a_p0_toldHeard, .long p0_seed, .ref a_p0_isKept, .ref a_p0_kept]))]) (fun q => q.1) q := by
  refine CtI.of (cc := cX7_wipe) (maxL := 2) (plainFor_of_name (by decide)) rfl (Nat.le_of_ble_eq_true rfl) ?_
  intro p e s m args below meth c A Q H ls hB hE hW hl
  have hx := hB.1
  have hb := hB.2.1
  have hml := hB.2.2.2.1
  have hown : s.vm.findClass RX7 = some m.cls := hB.2.2.2.2.1
  have hts := hB.2.2.2.2.2.1
  have hK := hB.2.2.2.2.2.2.2.1.1
  have hl : lv_has ls 2 [(0, .ref a_p0)] := hl
  have in_X7 : ∀ w ∈ wsX70, w ∈ wsX7_wipe := fun w h => List.mem_cons_of_mem _ (List.mem_append_right _ h)
  have fl_71 : (Cond.fieldLink RX7 71 (TX7 18).1 (TX7 18).2.1 (TX7 18).2.2.1).before args s = true := hts (.fieldLink RX7 71 "ClapOathsModel" "length" "I") (by decide +kernel)
  unfold f_X7_wipe at hf
  refine lv_aload_n hx hb dX7_wipe_0 rfl (lv_at hl 0 rfl) ?_
  refine q_get hB hW 7 in_X7 0 rfl rfl 18 (by decide) fl_71 (v := .int p0_length) rfl dX7_wipe_1 ?_
  refine lv_istore_n (lv' := [(1, .int p0_length), (0, .ref a_p0)]) hx hb dX7_wipe_4 rfl hl (by decide) rfl (fun ls hl => ?_)
  refine lv_aload_n hx hb dX7_wipe_5 rfl (lv_at hl 1 rfl) ?_
  refine lv_iconst (v := 0) hx hb dX7_wipe_6 (by decide) ?_
  refine q_put hB hW 7 in_X7 tyX7 tyX7_ok nmX7 0 rfl rfl 18 (by decide) fl_71 rfl (by first | rfl | decide) (by first | rfl | decide) (Nat.le_of_ble_eq_true rfl) (ws' := [(a_p0, .inr (7, [.int p0_persons, .int p0_skies, .int p0_oaths, .ref a_p0_kind, .ref a_p0_skyAt, .ref a_p0_skyLoud, .ref a_p0_one, .ref a_p0_other, .ref a_p0_worth, .ref a_p0_hangs, .ref a_p0_now, .ref a_p0_readPerson, .ref a_p0_readSky, .ref a_p0_readOath, .int p0_readPersons, .int p0_readSkies, .int p0_readOaths, .ref a_p0_text, .int (0 : Int32), .int p0_at, .int p0_faultAt, .int p0_acts, .int p0_next, .ref a_p0_row, .int p0_told, .ref a_p0_toldAt, .ref a_p0_toldWool, .ref a_p0_toldHeard, .long p0_seed, .ref a_p0_isKept, .ref a_p0_kept]))]) rfl dX7_wipe_7 (fun H locs hW => ?_)
  refine lv_iload_n hx hb dX7_wipe_10 rfl (lv_at hl 0 rfl) ?_
  exact hE _ _ _ _ _ (p0_length, (0 : Int32)) (sm hf) hW rfl dX7_wipe_11
def f_X7_figureOf (v1 : Int32) (v2 : Int32) (p0_length : Int32) (p0_at : Int32) (p0_faultAt : Int32) (p0_text : Nat → Int32) : Option (Int32 × Int32 × Int32) := if p0_faultAt = (-9 : Int32) then if p0_length ≤ p0_at then some ((0 : Int32), p0_at, p0_at) else (ald p0_text 60 p0_at).bind fun r_3 => (some (r_3 - (48 : Int32))).bind fun w_4 => (f_X7_in (Int32.toInt64 w_4) (0 : Int64) (Int32.toInt64 v1)).bind fun r_5 => if r_5 = (0 : Int32) then some ((0 : Int32), p0_at, p0_at) else if w_4 = v2 then some ((0 : Int32), p0_at, p0_at) else (some (p0_at + (1 : Int32))).bind fun w_8 => some (w_4, w_8, p0_faultAt) else some ((0 : Int32), p0_at, p0_faultAt)
set_option maxHeartbeats 4000000 in
set_option maxRecDepth 100000 in
theorem c_X7_figureOf (l : Launch) (D : va_G) (cI cZ : ClassId) (a_p0 a_p0_kind a_p0_skyAt a_p0_skyLoud a_p0_one a_p0_other a_p0_worth a_p0_hangs a_p0_now a_p0_readPerson a_p0_readSky a_p0_readOath a_p0_text a_p0_row a_p0_toldAt a_p0_toldWool a_p0_toldHeard a_p0_isKept a_p0_kept : Nat) (p0_persons : Int32) (p0_skies : Int32) (p0_oaths : Int32) (p0_readPersons : Int32) (p0_readSkies : Int32) (p0_readOaths : Int32) (p0_length : Int32) (p0_at : Int32) (p0_faultAt : Int32) (p0_acts : Int32) (p0_next : Int32) (p0_told : Int32) (p0_seed : Int64) (p0_text : Nat → Int32) (v1 : Int32) (v2 : Int32) (q : Int32 × Int32 × Int32) (hf : f_X7_figureOf v1 v2 p0_length p0_at p0_faultAt p0_text = some q) : CtI l D cI cZ yX7_figureOf wsX7_figureOf 1 25 [.ref a_p0, .int v1, .int v2] [(a_p0, .inr (7, [.int p0_persons, .int p0_skies, .int p0_oaths, .ref a_p0_kind, .ref a_p0_skyAt, .ref a_p0_skyLoud, .ref a_p0_one, .ref a_p0_other, .ref a_p0_worth, .ref a_p0_hangs, .ref a_p0_now, .ref a_p0_readPerson, .ref a_p0_readSky, .ref a_p0_readOath, .int p0_readPersons, .int p0_readSkies, .int p0_readOaths, .ref a_p0_text, .int p0_length, .int p0_at, .int p0_faultAt, .int p0_acts, .int p0_next, .ref a_p0_row, .int p0_told, .ref a_p0_toldAt, .ref a_p0_toldWool, .ref a_p0_toldHeard, .long p0_seed, .ref a_p0_isKept, .ref a_p0_kept])), (a_p0_text, .inl (cI, 60, .inl p0_text))] (fun q => [(a_p0, .inr (7, [.int p0_persons, .int p0_skies, .int p0_oaths, .ref a_p0_kind, .ref a_p0_skyAt, .ref a_p0_skyLoud, .ref a_p0_one, .ref a_p0_other, .ref a_p0_worth, .ref a_p0_hangs, .ref a_p0_now, .ref a_p0_readPerson, .ref a_p0_readSky, .ref a_p0_readOath, .int p0_readPersons, .int p0_readSkies, .int p0_readOaths, .ref a_p0_text, .int p0_length, .int q.2.1, .int q.2.2, .int p0_acts, .int p0_next, .ref a_p0_row, .int p0_told, .ref a_p0_toldAt, .ref a_p0_toldWool, .ref a_p0_toldHeard, .long p0_seed, .ref a_p0_isKept, .ref a_p0_kept])), (a_p0_text, .inl (cI, 60, .inl p0_text))]) (fun q => q.1) q := by
  refine CtI.of (cc := cX7_figureOf) (maxL := 5) (plainFor_of_name (by decide)) rfl (Nat.le_of_ble_eq_true rfl) ?_
  intro p e s m args below meth c A Q H ls hB hE hW hl
  have hx := hB.1
  have hb := hB.2.1
  have hml := hB.2.2.2.1
  have hown : s.vm.findClass RX7 = some m.cls := hB.2.2.2.2.1
  have hts := hB.2.2.2.2.2.1
  have hK := hB.2.2.2.2.2.2.2.1.1
  have hl : lv_has ls 5 [(0, .ref a_p0), (1, .int v1), (2, .int v2)] := hl
  have in_X7 : ∀ w ∈ wsX70, w ∈ wsX7_figureOf := fun w h => List.mem_cons_of_mem _ (List.mem_append_right _ h)
  have fl_43 : (Cond.fieldLink RX7 43 (TX7 17).1 (TX7 17).2.1 (TX7 17).2.2.1).before args s = true := hts (.fieldLink RX7 43 "ClapOathsModel" "text" "[I") (by decide +kernel)
  have fl_71 : (Cond.fieldLink RX7 71 (TX7 18).1 (TX7 18).2.1 (TX7 18).2.2.1).before args s = true := hts (.fieldLink RX7 71 "ClapOathsModel" "length" "I") (by decide +kernel)
  have fl_75 : (Cond.fieldLink RX7 75 (TX7 20).1 (TX7 20).2.1 (TX7 20).2.2.1).before args s = true := hts (.fieldLink RX7 75 "ClapOathsModel" "faultAt" "I") (by decide +kernel)
  have fl_78 : (Cond.fieldLink RX7 78 (TX7 19).1 (TX7 19).2.1 (TX7 19).2.2.1).before args s = true := hts (.fieldLink RX7 78 "ClapOathsModel" "at" "I") (by decide +kernel)
  unfold f_X7_figureOf at hf
  refine lv_aload_n hx hb dX7_figureOf_0 rfl (lv_at hl 0 rfl) ?_
  refine q_get hB hW 7 in_X7 0 rfl rfl 20 (by decide) fl_75 (v := .int p0_faultAt) rfl dX7_figureOf_1 ?_
  refine lv_bipush (v := -9) hx hb dX7_figureOf_4 (by decide) ?_
  refine lv_icmp_ne (tgt := 24) hx hb dX7_figureOf_6 (by decide) (fun c_1 => ?_) (fun c_1 => ?_)
  · have hf := it_f c_1 hf
    refine lv_iconst (v := 0) hx hb dX7_figureOf_24 (by decide) ?_
    refine lv_istore_n (lv' := [(3, .int (0 : Int32)), (0, .ref a_p0), (1, .int v1), (2, .int v2)]) hx hb dX7_figureOf_25 rfl hl (by decide) rfl (fun ls hl => ?_)
    refine lv_iload_n hx hb dX7_figureOf_26 rfl (lv_at hl 0 rfl) ?_
    refine lv_if_eq (tgt := 45) hx hb dX7_figureOf_27 (by decide) (fun _ => ?_) (fun c9 => absurd c9 (by decide))
    refine lv_iconst (v := 0) hx hb dX7_figureOf_45 (by decide) ?_
    refine lv_istore (lv' := [(4, .int (0 : Int32)), (3, .int (0 : Int32)), (0, .ref a_p0), (1, .int v1), (2, .int v2)]) hx hb dX7_figureOf_46 hl (by decide) rfl (fun ls hl => ?_)
    refine lv_iload_n hx hb dX7_figureOf_48 rfl (lv_at hl 1 rfl) ?_
    refine lv_if_eq (tgt := 70) hx hb dX7_figureOf_49 (by decide) (fun _ => ?_) (fun c9 => absurd c9 (by decide))
    refine lv_aload_n hx hb dX7_figureOf_70 rfl (lv_at hl 2 rfl) ?_
    refine lv_aload_n hx hb dX7_figureOf_71 rfl (lv_at hl 2 rfl) ?_
    refine q_get hB hW 7 in_X7 0 rfl rfl 20 (by decide) fl_75 (v := .int p0_faultAt) rfl dX7_figureOf_72 ?_
    refine lv_bipush (v := -9) hx hb dX7_figureOf_75 (by decide) ?_
    refine lv_icmp_ne (tgt := 87) hx hb dX7_figureOf_77 (by decide) (fun _ => ?_) (fun c9 => absurd c9 c_1)
    refine lv_aload_n hx hb dX7_figureOf_87 rfl (lv_at hl 2 rfl) ?_
    refine q_get hB hW 7 in_X7 0 rfl rfl 20 (by decide) fl_75 (v := .int p0_faultAt) rfl dX7_figureOf_88 ?_
    refine q_put hB hW 7 in_X7 tyX7 tyX7_ok nmX7 0 rfl rfl 20 (by decide) fl_75 rfl (by first | rfl | decide) (by first | rfl | decide) (Nat.le_of_ble_eq_true rfl) (ws' := [(a_p0, .inr (7, [.int p0_persons, .int p0_skies, .int p0_oaths, .ref a_p0_kind, .ref a_p0_skyAt, .ref a_p0_skyLoud, .ref a_p0_one, .ref a_p0_other, .ref a_p0_worth, .ref a_p0_hangs, .ref a_p0_now, .ref a_p0_readPerson, .ref a_p0_readSky, .ref a_p0_readOath, .int p0_readPersons, .int p0_readSkies, .int p0_readOaths, .ref a_p0_text, .int p0_length, .int p0_at, .int p0_faultAt, .int p0_acts, .int p0_next, .ref a_p0_row, .int p0_told, .ref a_p0_toldAt, .ref a_p0_toldWool, .ref a_p0_toldHeard, .long p0_seed, .ref a_p0_isKept, .ref a_p0_kept])), (a_p0_text, .inl (cI, 60, .inl p0_text))]) rfl dX7_figureOf_91 (fun H locs hW => ?_)
    refine lv_iconst (v := 0) hx hb dX7_figureOf_94 (by decide) ?_
    exact hE _ _ _ _ _ ((0 : Int32), p0_at, p0_faultAt) (sm hf) hW rfl dX7_figureOf_95
  · have hf := it_t c_1 hf
    refine lv_aload_n hx hb dX7_figureOf_9 rfl (lv_at hl 0 rfl) ?_
    refine q_get hB hW 7 in_X7 0 rfl rfl 19 (by decide) fl_78 (v := .int p0_at) rfl dX7_figureOf_10 ?_
    refine lv_aload_n hx hb dX7_figureOf_13 rfl (lv_at hl 0 rfl) ?_
    refine q_get hB hW 7 in_X7 0 rfl rfl 18 (by decide) fl_71 (v := .int p0_length) rfl dX7_figureOf_14 ?_
    refine lv_icmp_ge (tgt := 24) hx hb dX7_figureOf_17 (by decide) (fun c_2 => ?_) (fun c_2 => ?_)
    · have hf := it_t c_2 hf
      refine lv_iconst (v := 0) hx hb dX7_figureOf_24 (by decide) ?_
      refine lv_istore_n (lv' := [(3, .int (0 : Int32)), (0, .ref a_p0), (1, .int v1), (2, .int v2)]) hx hb dX7_figureOf_25 rfl hl (by decide) rfl (fun ls hl => ?_)
      refine lv_iload_n hx hb dX7_figureOf_26 rfl (lv_at hl 0 rfl) ?_
      refine lv_if_eq (tgt := 45) hx hb dX7_figureOf_27 (by decide) (fun _ => ?_) (fun c9 => absurd c9 (by decide))
      refine lv_iconst (v := 0) hx hb dX7_figureOf_45 (by decide) ?_
      refine lv_istore (lv' := [(4, .int (0 : Int32)), (3, .int (0 : Int32)), (0, .ref a_p0), (1, .int v1), (2, .int v2)]) hx hb dX7_figureOf_46 hl (by decide) rfl (fun ls hl => ?_)
      refine lv_iload_n hx hb dX7_figureOf_48 rfl (lv_at hl 1 rfl) ?_
      refine lv_if_eq (tgt := 70) hx hb dX7_figureOf_49 (by decide) (fun _ => ?_) (fun c9 => absurd c9 (by decide))
      refine lv_aload_n hx hb dX7_figureOf_70 rfl (lv_at hl 2 rfl) ?_
      refine lv_aload_n hx hb dX7_figureOf_71 rfl (lv_at hl 2 rfl) ?_
      refine q_get hB hW 7 in_X7 0 rfl rfl 20 (by decide) fl_75 (v := .int p0_faultAt) rfl dX7_figureOf_72 ?_
      refine lv_bipush (v := -9) hx hb dX7_figureOf_75 (by decide) ?_
      refine lv_icmp_ne (tgt := 87) hx hb dX7_figureOf_77 (by decide) (fun c9 => absurd c_1 c9) (fun _ => ?_)
      refine lv_aload_n hx hb dX7_figureOf_80 rfl (lv_at hl 2 rfl) ?_
      refine q_get hB hW 7 in_X7 0 rfl rfl 19 (by decide) fl_78 (v := .int p0_at) rfl dX7_figureOf_81 ?_
      refine lv_goto (tgt := 91) hx hb dX7_figureOf_84 (by decide) ?_
      refine q_put hB hW 7 in_X7 tyX7 tyX7_ok nmX7 0 rfl rfl 20 (by decide) fl_75 rfl (by first | rfl | decide) (by first | rfl | decide) (Nat.le_of_ble_eq_true rfl) (ws' := [(a_p0, .inr (7, [.int p0_persons, .int p0_skies, .int p0_oaths, .ref a_p0_kind, .ref a_p0_skyAt, .ref a_p0_skyLoud, .ref a_p0_one, .ref a_p0_other, .ref a_p0_worth, .ref a_p0_hangs, .ref a_p0_now, .ref a_p0_readPerson, .ref a_p0_readSky, .ref a_p0_readOath, .int p0_readPersons, .int p0_readSkies, .int p0_readOaths, .ref a_p0_text, .int p0_length, .int p0_at, .int p0_at, .int p0_acts, .int p0_next, .ref a_p0_row, .int p0_told, .ref a_p0_toldAt, .ref a_p0_toldWool, .ref a_p0_toldHeard, .long p0_seed, .ref a_p0_isKept, .ref a_p0_kept])), (a_p0_text, .inl (cI, 60, .inl p0_text))]) rfl dX7_figureOf_91 (fun H locs hW => ?_)
      refine lv_iconst (v := 0) hx hb dX7_figureOf_94 (by decide) ?_
      exact hE _ _ _ _ _ ((0 : Int32), p0_at, p0_at) (sm hf) hW rfl dX7_figureOf_95
    · have hf := it_f c_2 hf
      refine lv_iconst (v := 1) hx hb dX7_figureOf_20 (by decide) ?_
      refine lv_goto (tgt := 25) hx hb dX7_figureOf_21 (by decide) ?_
      refine lv_istore_n (lv' := [(3, .int (1 : Int32)), (0, .ref a_p0), (1, .int v1), (2, .int v2)]) hx hb dX7_figureOf_25 rfl hl (by decide) rfl (fun ls hl => ?_)
      refine lv_iload_n hx hb dX7_figureOf_26 rfl (lv_at hl 0 rfl) ?_
      refine lv_if_eq (tgt := 45) hx hb dX7_figureOf_27 (by decide) (fun c9 => absurd c9 (by decide)) (fun _ => ?_)
      refine lv_aload_n hx hb dX7_figureOf_30 rfl (lv_at hl 1 rfl) ?_
      refine q_get hB hW 7 in_X7 0 rfl rfl 17 (by decide) fl_43 (v := .ref a_p0_text) rfl dX7_figureOf_31 ?_
      refine lv_aload_n hx hb dX7_figureOf_34 rfl (lv_at hl 1 rfl) ?_
      refine q_get hB hW 7 in_X7 0 rfl rfl 19 (by decide) fl_78 (v := .int p0_at) rfl dX7_figureOf_35 ?_
      obtain ⟨r_3, hr_3, hf⟩ := bnd hf
      refine q_iald hB hW 1 rfl hr_3 dX7_figureOf_38 ?_
      refine lv_bipush (v := 48) hx hb dX7_figureOf_39 (by decide) ?_
      refine lv_isub hx hb dX7_figureOf_41 ?_
      refine lv_goto (tgt := 46) hx hb dX7_figureOf_42 (by decide) ?_
      obtain ⟨w_4, hw_4, hf⟩ := bnd hf
      refine q_nmI hw_4 ?_
      refine lv_istore (lv' := [(4, .int w_4), (3, .int (1 : Int32)), (0, .ref a_p0), (1, .int v1), (2, .int v2)]) hx hb dX7_figureOf_46 hl (by decide) rfl (fun ls hl => ?_)
      refine lv_iload_n hx hb dX7_figureOf_48 rfl (lv_at hl 1 rfl) ?_
      refine lv_if_eq (tgt := 70) hx hb dX7_figureOf_49 (by decide) (fun c9 => absurd c9 (by decide)) (fun _ => ?_)
      refine lv_iload hx hb dX7_figureOf_52 (lv_at hl 0 rfl) ?_
      refine lv_i2l (v := (Int32.toInt64 w_4)) hx hb dX7_figureOf_54 rfl ?_
      refine lv_lconst (v := 0) hx hb dX7_figureOf_55 (by decide) ?_
      refine lv_iload_n hx hb dX7_figureOf_56 rfl (lv_at hl 3 rfl) ?_
      refine lv_i2l (v := (Int32.toInt64 v1)) hx hb dX7_figureOf_57 rfl ?_
      obtain ⟨r_5, hr_5, hf⟩ := bnd hf
      refine q_callSZ hB hW (As := [.long (Int32.toInt64 w_4), .long (0 : Int64), .long (Int32.toInt64 v1)]) (rest := []) (ws' := [(a_p0, .inr (7, [.int p0_persons, .int p0_skies, .int p0_oaths, .ref a_p0_kind, .ref a_p0_skyAt, .ref a_p0_skyLoud, .ref a_p0_one, .ref a_p0_other, .ref a_p0_worth, .ref a_p0_hangs, .ref a_p0_now, .ref a_p0_readPerson, .ref a_p0_readSky, .ref a_p0_readOath, .int p0_readPersons, .int p0_readSkies, .int p0_readOaths, .ref a_p0_text, .int p0_length, .int p0_at, .int p0_faultAt, .int p0_acts, .int p0_next, .ref a_p0_row, .int p0_told, .ref a_p0_toldAt, .ref a_p0_toldWool, .ref a_p0_toldHeard, .long p0_seed, .ref a_p0_isKept, .ref a_p0_kept])), (a_p0_text, .inl (cI, 60, .inl p0_text))]) (c_X7_in l D cI cZ (Int32.toInt64 w_4) (0 : Int64) (Int32.toInt64 v1) r_5 hr_5) (va_cwS 3 hts gX7_figureOf_X7_in rfl rfl rfl (by decide +kernel) ⟨Nat.le_of_ble_eq_true rfl, Nat.le_of_ble_eq_true rfl⟩) [] rfl rfl rfl rfl rfl hl.1 rfl (Nat.le_of_ble_eq_true rfl) ⟨Nat.le_of_ble_eq_true rfl, Nat.le_of_ble_eq_true rfl⟩ dX7_figureOf_58 (fun hzr_5 H locs hW => ?_)
      refine lv_if_eq (tgt := 70) hx hb dX7_figureOf_61 (by decide) (fun c_6 => ?_) (fun c_6 => ?_)
      · have hf := it_t c_6 hf
        refine lv_aload_n hx hb dX7_figureOf_70 rfl (lv_at hl 2 rfl) ?_
        refine lv_aload_n hx hb dX7_figureOf_71 rfl (lv_at hl 2 rfl) ?_
        refine q_get hB hW 7 in_X7 0 rfl rfl 20 (by decide) fl_75 (v := .int p0_faultAt) rfl dX7_figureOf_72 ?_
        refine lv_bipush (v := -9) hx hb dX7_figureOf_75 (by decide) ?_
        refine lv_icmp_ne (tgt := 87) hx hb dX7_figureOf_77 (by decide) (fun c9 => absurd c_1 c9) (fun _ => ?_)
        refine lv_aload_n hx hb dX7_figureOf_80 rfl (lv_at hl 2 rfl) ?_
        refine q_get hB hW 7 in_X7 0 rfl rfl 19 (by decide) fl_78 (v := .int p0_at) rfl dX7_figureOf_81 ?_
        refine lv_goto (tgt := 91) hx hb dX7_figureOf_84 (by decide) ?_
        refine q_put hB hW 7 in_X7 tyX7 tyX7_ok nmX7 0 rfl rfl 20 (by decide) fl_75 rfl (by first | rfl | decide) (by first | rfl | decide) (Nat.le_of_ble_eq_true rfl) (ws' := [(a_p0, .inr (7, [.int p0_persons, .int p0_skies, .int p0_oaths, .ref a_p0_kind, .ref a_p0_skyAt, .ref a_p0_skyLoud, .ref a_p0_one, .ref a_p0_other, .ref a_p0_worth, .ref a_p0_hangs, .ref a_p0_now, .ref a_p0_readPerson, .ref a_p0_readSky, .ref a_p0_readOath, .int p0_readPersons, .int p0_readSkies, .int p0_readOaths, .ref a_p0_text, .int p0_length, .int p0_at, .int p0_at, .int p0_acts, .int p0_next, .ref a_p0_row, .int p0_told, .ref a_p0_toldAt, .ref a_p0_toldWool, .ref a_p0_toldHeard, .long p0_seed, .ref a_p0_isKept, .ref a_p0_kept])), (a_p0_text, .inl (cI, 60, .inl p0_text))]) rfl dX7_figureOf_91 (fun H locs hW => ?_)
        refine lv_iconst (v := 0) hx hb dX7_figureOf_94 (by decide) ?_
        exact hE _ _ _ _ _ ((0 : Int32), p0_at, p0_at) (sm hf) hW rfl dX7_figureOf_95
      · have hf := it_f c_6 hf
        refine lv_iload hx hb dX7_figureOf_64 (lv_at hl 0 rfl) ?_
        refine lv_iload_n hx hb dX7_figureOf_66 rfl (lv_at hl 4 rfl) ?_
        refine lv_icmp_ne (tgt := 96) hx hb dX7_figureOf_67 (by decide) (fun c_7 => ?_) (fun c_7 => ?_)
        · have hf := it_f c_7 hf
          refine lv_aload_n hx hb dX7_figureOf_96 rfl (lv_at hl 2 rfl) ?_
          refine lv_dup hx hb dX7_figureOf_97 rfl ?_
          refine q_get hB hW 7 in_X7 0 rfl rfl 19 (by decide) fl_78 (v := .int p0_at) rfl dX7_figureOf_98 ?_
          refine lv_iconst (v := 1) hx hb dX7_figureOf_101 (by decide) ?_
          refine lv_iadd hx hb dX7_figureOf_102 ?_
          obtain ⟨w_8, hw_8, hf⟩ := bnd hf
          refine q_nmI hw_8 ?_
          refine q_put hB hW 7 in_X7 tyX7 tyX7_ok nmX7 0 rfl rfl 19 (by decide) fl_78 rfl (by first | rfl | decide) (by first | rfl | decide) (Nat.le_of_ble_eq_true rfl) (ws' := [(a_p0, .inr (7, [.int p0_persons, .int p0_skies, .int p0_oaths, .ref a_p0_kind, .ref a_p0_skyAt, .ref a_p0_skyLoud, .ref a_p0_one, .ref a_p0_other, .ref a_p0_worth, .ref a_p0_hangs, .ref a_p0_now, .ref a_p0_readPerson, .ref a_p0_readSky, .ref a_p0_readOath, .int p0_readPersons, .int p0_readSkies, .int p0_readOaths, .ref a_p0_text, .int p0_length, .int w_8, .int p0_faultAt, .int p0_acts, .int p0_next, .ref a_p0_row, .int p0_told, .ref a_p0_toldAt, .ref a_p0_toldWool, .ref a_p0_toldHeard, .long p0_seed, .ref a_p0_isKept, .ref a_p0_kept])), (a_p0_text, .inl (cI, 60, .inl p0_text))]) rfl dX7_figureOf_103 (fun H locs hW => ?_)
          refine lv_iload hx hb dX7_figureOf_106 (lv_at hl 0 rfl) ?_
          exact hE _ _ _ _ _ (w_4, w_8, p0_faultAt) (sm hf) hW rfl dX7_figureOf_108
        · have hf := it_t c_7 hf
          refine lv_aload_n hx hb dX7_figureOf_70 rfl (lv_at hl 2 rfl) ?_
          refine lv_aload_n hx hb dX7_figureOf_71 rfl (lv_at hl 2 rfl) ?_
          refine q_get hB hW 7 in_X7 0 rfl rfl 20 (by decide) fl_75 (v := .int p0_faultAt) rfl dX7_figureOf_72 ?_
          refine lv_bipush (v := -9) hx hb dX7_figureOf_75 (by decide) ?_
          refine lv_icmp_ne (tgt := 87) hx hb dX7_figureOf_77 (by decide) (fun c9 => absurd c_1 c9) (fun _ => ?_)
          refine lv_aload_n hx hb dX7_figureOf_80 rfl (lv_at hl 2 rfl) ?_
          refine q_get hB hW 7 in_X7 0 rfl rfl 19 (by decide) fl_78 (v := .int p0_at) rfl dX7_figureOf_81 ?_
          refine lv_goto (tgt := 91) hx hb dX7_figureOf_84 (by decide) ?_
          refine q_put hB hW 7 in_X7 tyX7 tyX7_ok nmX7 0 rfl rfl 20 (by decide) fl_75 rfl (by first | rfl | decide) (by first | rfl | decide) (Nat.le_of_ble_eq_true rfl) (ws' := [(a_p0, .inr (7, [.int p0_persons, .int p0_skies, .int p0_oaths, .ref a_p0_kind, .ref a_p0_skyAt, .ref a_p0_skyLoud, .ref a_p0_one, .ref a_p0_other, .ref a_p0_worth, .ref a_p0_hangs, .ref a_p0_now, .ref a_p0_readPerson, .ref a_p0_readSky, .ref a_p0_readOath, .int p0_readPersons, .int p0_readSkies, .int p0_readOaths, .ref a_p0_text, .int p0_length, .int p0_at, .int p0_at, .int p0_acts, .int p0_next, .ref a_p0_row, .int p0_told, .ref a_p0_toldAt, .ref a_p0_toldWool, .ref a_p0_toldHeard, .long p0_seed, .ref a_p0_isKept, .ref a_p0_kept])), (a_p0_text, .inl (cI, 60, .inl p0_text))]) rfl dX7_figureOf_91 (fun H locs hW => ?_)
          refine lv_iconst (v := 0) hx hb dX7_figureOf_94 (by decide) ?_
          exact hE _ _ _ _ _ ((0 : Int32), p0_at, p0_at) (sm hf) hW rfl dX7_figureOf_95
def f_X7_readSworn (p0_readPersons : Int32) (p0_readOaths : Int32) (p0_length : Int32) (p0_at : Int32) (p0_faultAt : Int32) (p0_readOath : Nat → Int32) (p0_text : Nat → Int32) : Option (Int32 × Int32 × Int32 × (Nat → Int32)) := (some ((4 : Int32) * p0_readOaths)).bind fun w_1 => (f_X7_figureOf (p0_readPersons - (1 : Int32)) (-9 : Int32) p0_length p0_at p0_faultAt p0_text).bind fun r_2 => (ast p0_readOath 20 w_1 r_2.1).bind fun r_3 => (ald r_3 20 w_1).bind fun r_4 => (f_X7_figureOf (p0_readPersons - (1 : Int32)) r_4 p0_length r_2.2.1 r_2.2.2 p0_text).bind fun r_5 => (ast r_3 20 (w_1 + (1 : Int32)) r_5.1).bind fun r_6 => (f_X7_figureOf (9 : Int32) (-9 : Int32) p0_length r_5.2.1 r_5.2.2 p0_text).bind fun r_7 => (ast r_6 20 (w_1 + (2 : Int32)) r_7.1).bind fun r_8 => if r_7.2.2 = (-9 : Int32) then if p0_length ≤ r_7.2.1 then (f_X7_figureOf (p0_readOaths - (1 : Int32)) (-9 : Int32) p0_length r_7.2.1 r_7.2.2 p0_text).bind fun r_14 => (ast r_8 20 (w_1 + (3 : Int32)) r_14.1).bind fun r_15 => (some (p0_readOaths + (1 : Int32))).bind fun w_16 => some (w_16, r_14.2.1, r_14.2.2, r_15) else (ald p0_text 60 r_7.2.1).bind fun r_17 => if r_17 = (110 : Int32) then (ast r_8 20 (w_1 + (3 : Int32)) (-9 : Int32)).bind fun r_22 => (some (r_7.2.1 + (1 : Int32))).bind fun w_23 => (some (p0_readOaths + (1 : Int32))).bind fun w_24 => some (w_24, w_23, r_7.2.2, r_22) else (f_X7_figureOf (p0_readOaths - (1 : Int32)) (-9 : Int32) p0_length r_7.2.1 r_7.2.2 p0_text).bind fun r_19 => (ast r_8 20 (w_1 + (3 : Int32)) r_19.1).bind fun r_20 => (some (p0_readOaths + (1 : Int32))).bind fun w_21 => some (w_21, r_19.2.1, r_19.2.2, r_20) else (f_X7_figureOf (p0_readOaths - (1 : Int32)) (-9 : Int32) p0_length r_7.2.1 r_7.2.2 p0_text).bind fun r_10 => (ast r_8 20 (w_1 + (3 : Int32)) r_10.1).bind fun r_11 => (some (p0_readOaths + (1 : Int32))).bind fun w_12 => some (w_12, r_10.2.1, r_10.2.2, r_11)
set_option maxHeartbeats 4000000 in
set_option maxRecDepth 100000 in
theorem c_X7_readSworn (l : Launch) (D : va_G) (cI cZ : ClassId) (a_p0 a_p0_kind a_p0_skyAt a_p0_skyLoud a_p0_one a_p0_other a_p0_worth a_p0_hangs a_p0_now a_p0_readPerson a_p0_readSky a_p0_readOath a_p0_text a_p0_row a_p0_toldAt a_p0_toldWool a_p0_toldHeard a_p0_isKept a_p0_kept : Nat) (p0_persons : Int32) (p0_skies : Int32) (p0_oaths : Int32) (p0_readPersons : Int32) (p0_readSkies : Int32) (p0_readOaths : Int32) (p0_length : Int32) (p0_at : Int32) (p0_faultAt : Int32) (p0_acts : Int32) (p0_next : Int32) (p0_told : Int32) (p0_seed : Int64) (p0_readOath : Nat → Int32) (p0_text : Nat → Int32) (q : Int32 × Int32 × Int32 × (Nat → Int32)) (hf : f_X7_readSworn p0_readPersons p0_readOaths p0_length p0_at p0_faultAt p0_readOath p0_text = some q) : CtV l D cI cZ yX7_readSworn wsX7_readSworn 2 49 [.ref a_p0] [(a_p0, .inr (7, [.int p0_persons, .int p0_skies, .int p0_oaths, .ref a_p0_kind, .ref a_p0_skyAt, .ref a_p0_skyLoud, .ref a_p0_one, .ref a_p0_other, .ref a_p0_worth, .ref a_p0_hangs, .ref a_p0_now, .ref a_p0_readPerson, .ref a_p0_readSky, .ref a_p0_readOath, .int p0_readPersons, .int p0_readSkies, .int p0_readOaths, .ref a_p0_text, .int p0_length, .int p0_at, .int p0_faultAt, .int p0_acts, .int p0_next, .ref a_p0_row, .int p0_told, .ref a_p0_toldAt, .ref a_p0_toldWool, .ref a_p0_toldHeard, .long p0_seed, .ref a_p0_isKept, .ref a_p0_kept])), (a_p0_readOath, .inl (cI, 20, .inl p0_readOath)), (a_p0_text, .inl (cI, 60, .inl p0_text))] (fun q => [(a_p0, .inr (7, [.int p0_persons, .int p0_skies, .int p0_oaths, .ref a_p0_kind, .ref a_p0_skyAt, .ref a_p0_skyLoud, .ref a_p0_one, .ref a_p0_other, .ref a_p0_worth, .ref a_p0_hangs, .ref a_p0_now, .ref a_p0_readPerson, .ref a_p0_readSky, .ref a_p0_readOath, .int p0_readPersons, .int p0_readSkies, .int q.1, .ref a_p0_text, .int p0_length, .int q.2.1, .int q.2.2.1, .int p0_acts, .int p0_next, .ref a_p0_row, .int p0_told, .ref a_p0_toldAt, .ref a_p0_toldWool, .ref a_p0_toldHeard, .long p0_seed, .ref a_p0_isKept, .ref a_p0_kept])), (a_p0_readOath, .inl (cI, 20, .inl q.2.2.2)), (a_p0_text, .inl (cI, 60, .inl p0_text))]) q := by
  refine CtV.of (cc := cX7_readSworn) (maxL := 2) (plainFor_of_name (by decide)) rfl (Nat.le_of_ble_eq_true rfl) ?_
  intro p e s m args below meth c A Q H ls hB hE hW hl
  have hx := hB.1
  have hb := hB.2.1
  have hml := hB.2.2.2.1
  have hown : s.vm.findClass RX7 = some m.cls := hB.2.2.2.2.1
  have hts := hB.2.2.2.2.2.1
  have hK := hB.2.2.2.2.2.2.2.1.1
  have hl : lv_has ls 2 [(0, .ref a_p0)] := hl
  have in_X7 : ∀ w ∈ wsX70, w ∈ wsX7_readSworn := fun w h => List.mem_cons_of_mem _ (List.mem_append_right _ h)
  have fl_40 : (Cond.fieldLink RX7 40 (TX7 13).1 (TX7 13).2.1 (TX7 13).2.2.1).before args s = true := hts (.fieldLink RX7 40 "ClapOathsModel" "readOath" "[I") (by decide +kernel)
  have fl_43 : (Cond.fieldLink RX7 43 (TX7 17).1 (TX7 17).2.1 (TX7 17).2.2.1).before args s = true := hts (.fieldLink RX7 43 "ClapOathsModel" "text" "[I") (by decide +kernel)
  have fl_71 : (Cond.fieldLink RX7 71 (TX7 18).1 (TX7 18).2.1 (TX7 18).2.2.1).before args s = true := hts (.fieldLink RX7 71 "ClapOathsModel" "length" "I") (by decide +kernel)
  have fl_75 : (Cond.fieldLink RX7 75 (TX7 20).1 (TX7 20).2.1 (TX7 20).2.2.1).before args s = true := hts (.fieldLink RX7 75 "ClapOathsModel" "faultAt" "I") (by decide +kernel)
  have fl_78 : (Cond.fieldLink RX7 78 (TX7 19).1 (TX7 19).2.1 (TX7 19).2.2.1).before args s = true := hts (.fieldLink RX7 78 "ClapOathsModel" "at" "I") (by decide +kernel)
  have fl_81 : (Cond.fieldLink RX7 81 (TX7 14).1 (TX7 14).2.1 (TX7 14).2.2.1).before args s = true := hts (.fieldLink RX7 81 "ClapOathsModel" "readPersons" "I") (by decide +kernel)
  have fl_87 : (Cond.fieldLink RX7 87 (TX7 16).1 (TX7 16).2.1 (TX7 16).2.2.1).before args s = true := hts (.fieldLink RX7 87 "ClapOathsModel" "readOaths" "I") (by decide +kernel)
  unfold f_X7_readSworn at hf
  refine lv_iconst (v := 4) hx hb dX7_readSworn_0 (by decide) ?_
  refine lv_aload_n hx hb dX7_readSworn_1 rfl (lv_at hl 0 rfl) ?_
  refine q_get hB hW 7 in_X7 0 rfl rfl 16 (by decide) fl_87 (v := .int p0_readOaths) rfl dX7_readSworn_2 ?_
  refine lv_imul hx hb dX7_readSworn_5 ?_
  obtain ⟨w_1, hw_1, hf⟩ := bnd hf
  refine q_nmI hw_1 ?_
  refine lv_istore_n (lv' := [(1, .int w_1), (0, .ref a_p0)]) hx hb dX7_readSworn_6 rfl hl (by decide) rfl (fun ls hl => ?_)
  refine lv_aload_n hx hb dX7_readSworn_7 rfl (lv_at hl 1 rfl) ?_
  refine q_get hB hW 7 in_X7 0 rfl rfl 13 (by decide) fl_40 (v := .ref a_p0_readOath) rfl dX7_readSworn_8 ?_
  refine lv_iload_n hx hb dX7_readSworn_11 rfl (lv_at hl 0 rfl) ?_
  refine lv_aload_n hx hb dX7_readSworn_12 rfl (lv_at hl 1 rfl) ?_
  refine lv_aload_n hx hb dX7_readSworn_13 rfl (lv_at hl 1 rfl) ?_
  refine q_get hB hW 7 in_X7 0 rfl rfl 14 (by decide) fl_81 (v := .int p0_readPersons) rfl dX7_readSworn_14 ?_
  refine lv_iconst (v := 1) hx hb dX7_readSworn_17 (by decide) ?_
  refine lv_isub hx hb dX7_readSworn_18 ?_
  refine lv_bipush (v := -9) hx hb dX7_readSworn_19 (by decide) ?_
  obtain ⟨r_2, hr_2, hf⟩ := bnd hf
  refine q_callVI hB hW (ci := 7) (q0 := 0) rfl rfl rfl (As := [.int (p0_readPersons - (1 : Int32)), .int (-9 : Int32)]) (rest := [.int w_1, .ref a_p0_readOath]) (ws' := [(a_p0, .inr (7, [.int p0_persons, .int p0_skies, .int p0_oaths, .ref a_p0_kind, .ref a_p0_skyAt, .ref a_p0_skyLoud, .ref a_p0_one, .ref a_p0_other, .ref a_p0_worth, .ref a_p0_hangs, .ref a_p0_now, .ref a_p0_readPerson, .ref a_p0_readSky, .ref a_p0_readOath, .int p0_readPersons, .int p0_readSkies, .int p0_readOaths, .ref a_p0_text, .int p0_length, .int r_2.2.1, .int r_2.2.2, .int p0_acts, .int p0_next, .ref a_p0_row, .int p0_told, .ref a_p0_toldAt, .ref a_p0_toldWool, .ref a_p0_toldHeard, .long p0_seed, .ref a_p0_isKept, .ref a_p0_kept])), (a_p0_readOath, .inl (cI, 20, .inl p0_readOath)), (a_p0_text, .inl (cI, 60, .inl p0_text))]) (c_X7_figureOf l D cI cZ a_p0 a_p0_kind a_p0_skyAt a_p0_skyLoud a_p0_one a_p0_other a_p0_worth a_p0_hangs a_p0_now a_p0_readPerson a_p0_readSky a_p0_readOath a_p0_text a_p0_row a_p0_toldAt a_p0_toldWool a_p0_toldHeard a_p0_isKept a_p0_kept p0_persons p0_skies p0_oaths p0_readPersons p0_readSkies p0_readOaths p0_length p0_at p0_faultAt p0_acts p0_next p0_told p0_seed p0_text (p0_readPersons - (1 : Int32)) (-9 : Int32) r_2 hr_2) (cwV 2 hts gX7_readSworn_X7_figureOf rfl rfl rfl (by decide +kernel) ⟨Nat.le_of_ble_eq_true rfl, Nat.le_of_ble_eq_true rfl⟩) [0, 2] rfl rfl rfl rfl rfl hl.1 rfl (Nat.le_of_ble_eq_true rfl) ⟨Nat.le_of_ble_eq_true rfl, Nat.le_of_ble_eq_true rfl⟩ dX7_readSworn_21 (fun H locs hW => ?_)
  obtain ⟨r_3, hr_3, hf⟩ := bnd hf
  refine q_iast hB hW 1 rfl hr_3 (ws' := [(a_p0, .inr (7, [.int p0_persons, .int p0_skies, .int p0_oaths, .ref a_p0_kind, .ref a_p0_skyAt, .ref a_p0_skyLoud, .ref a_p0_one, .ref a_p0_other, .ref a_p0_worth, .ref a_p0_hangs, .ref a_p0_now, .ref a_p0_readPerson, .ref a_p0_readSky, .ref a_p0_readOath, .int p0_readPersons, .int p0_readSkies, .int p0_readOaths, .ref a_p0_text, .int p0_length, .int r_2.2.1, .int r_2.2.2, .int p0_acts, .int p0_next, .ref a_p0_row, .int p0_told, .ref a_p0_toldAt, .ref a_p0_toldWool, .ref a_p0_toldHeard, .long p0_seed, .ref a_p0_isKept, .ref a_p0_kept])), (a_p0_readOath, .inl (cI, 20, .inl r_3)), (a_p0_text, .inl (cI, 60, .inl p0_text))]) rfl dX7_readSworn_24 (fun H locs hW => ?_)
  refine lv_aload_n hx hb dX7_readSworn_25 rfl (lv_at hl 1 rfl) ?_
  refine q_get hB hW 7 in_X7 0 rfl rfl 13 (by decide) fl_40 (v := .ref a_p0_readOath) rfl dX7_readSworn_26 ?_
  refine lv_iload_n hx hb dX7_readSworn_29 rfl (lv_at hl 0 rfl) ?_
  refine lv_iconst (v := 1) hx hb dX7_readSworn_30 (by decide) ?_
  refine lv_iadd hx hb dX7_readSworn_31 ?_
  refine lv_aload_n hx hb dX7_readSworn_32 rfl (lv_at hl 1 rfl) ?_
  refine lv_aload_n hx hb dX7_readSworn_33 rfl (lv_at hl 1 rfl) ?_
  refine q_get hB hW 7 in_X7 0 rfl rfl 14 (by decide) fl_81 (v := .int p0_readPersons) rfl dX7_readSworn_34 ?_
  refine lv_iconst (v := 1) hx hb dX7_readSworn_37 (by decide) ?_
  refine lv_isub hx hb dX7_readSworn_38 ?_
  refine lv_aload_n hx hb dX7_readSworn_39 rfl (lv_at hl 1 rfl) ?_
  refine q_get hB hW 7 in_X7 0 rfl rfl 13 (by decide) fl_40 (v := .ref a_p0_readOath) rfl dX7_readSworn_40 ?_
  refine lv_iload_n hx hb dX7_readSworn_43 rfl (lv_at hl 0 rfl) ?_
  obtain ⟨r_4, hr_4, hf⟩ := bnd hf
  refine q_iald hB hW 1 rfl hr_4 dX7_readSworn_44 ?_
  obtain ⟨r_5, hr_5, hf⟩ := bnd hf
  refine q_callVI hB hW (ci := 7) (q0 := 0) rfl rfl rfl (As := [.int (p0_readPersons - (1 : Int32)), .int r_4]) (rest := [.int (w_1 + (1 : Int32)), .ref a_p0_readOath]) (ws' := [(a_p0, .inr (7, [.int p0_persons, .int p0_skies, .int p0_oaths, .ref a_p0_kind, .ref a_p0_skyAt, .ref a_p0_skyLoud, .ref a_p0_one, .ref a_p0_other, .ref a_p0_worth, .ref a_p0_hangs, .ref a_p0_now, .ref a_p0_readPerson, .ref a_p0_readSky, .ref a_p0_readOath, .int p0_readPersons, .int p0_readSkies, .int p0_readOaths, .ref a_p0_text, .int p0_length, .int r_5.2.1, .int r_5.2.2, .int p0_acts, .int p0_next, .ref a_p0_row, .int p0_told, .ref a_p0_toldAt, .ref a_p0_toldWool, .ref a_p0_toldHeard, .long p0_seed, .ref a_p0_isKept, .ref a_p0_kept])), (a_p0_readOath, .inl (cI, 20, .inl r_3)), (a_p0_text, .inl (cI, 60, .inl p0_text))]) (c_X7_figureOf l D cI cZ a_p0 a_p0_kind a_p0_skyAt a_p0_skyLoud a_p0_one a_p0_other a_p0_worth a_p0_hangs a_p0_now a_p0_readPerson a_p0_readSky a_p0_readOath a_p0_text a_p0_row a_p0_toldAt a_p0_toldWool a_p0_toldHeard a_p0_isKept a_p0_kept p0_persons p0_skies p0_oaths p0_readPersons p0_readSkies p0_readOaths p0_length r_2.2.1 r_2.2.2 p0_acts p0_next p0_told p0_seed p0_text (p0_readPersons - (1 : Int32)) r_4 r_5 hr_5) (cwV 2 hts gX7_readSworn_X7_figureOf rfl rfl rfl (by decide +kernel) ⟨Nat.le_of_ble_eq_true rfl, Nat.le_of_ble_eq_true rfl⟩) [0, 2] rfl rfl rfl rfl rfl hl.1 rfl (Nat.le_of_ble_eq_true rfl) ⟨Nat.le_of_ble_eq_true rfl, Nat.le_of_ble_eq_true rfl⟩ dX7_readSworn_45 (fun H locs hW => ?_)
  obtain ⟨r_6, hr_6, hf⟩ := bnd hf
  refine q_iast hB hW 1 rfl hr_6 (ws' := [(a_p0, .inr (7, [.int p0_persons, .int p0_skies, .int p0_oaths, .ref a_p0_kind, .ref a_p0_skyAt, .ref a_p0_skyLoud, .ref a_p0_one, .ref a_p0_other, .ref a_p0_worth, .ref a_p0_hangs, .ref a_p0_now, .ref a_p0_readPerson, .ref a_p0_readSky, .ref a_p0_readOath, .int p0_readPersons, .int p0_readSkies, .int p0_readOaths, .ref a_p0_text, .int p0_length, .int r_5.2.1, .int r_5.2.2, .int p0_acts, .int p0_next, .ref a_p0_row, .int p0_told, .ref a_p0_toldAt, .ref a_p0_toldWool, .ref a_p0_toldHeard, .long p0_seed, .ref a_p0_isKept, .ref a_p0_kept])), (a_p0_readOath, .inl (cI, 20, .inl r_6)), (a_p0_text, .inl (cI, 60, .inl p0_text))]) rfl dX7_readSworn_48 (fun H locs hW => ?_)
  refine lv_aload_n hx hb dX7_readSworn_49 rfl (lv_at hl 1 rfl) ?_
  refine q_get hB hW 7 in_X7 0 rfl rfl 13 (by decide) fl_40 (v := .ref a_p0_readOath) rfl dX7_readSworn_50 ?_
  refine lv_iload_n hx hb dX7_readSworn_53 rfl (lv_at hl 0 rfl) ?_
  refine lv_iconst (v := 2) hx hb dX7_readSworn_54 (by decide) ?_
  refine lv_iadd hx hb dX7_readSworn_55 ?_
  refine lv_aload_n hx hb dX7_readSworn_56 rfl (lv_at hl 1 rfl) ?_
  refine lv_bipush (v := 9) hx hb dX7_readSworn_57 (by decide) ?_
  refine lv_bipush (v := -9) hx hb dX7_readSworn_59 (by decide) ?_
  obtain ⟨r_7, hr_7, hf⟩ := bnd hf
  refine q_callVI hB hW (ci := 7) (q0 := 0) rfl rfl rfl (As := [.int (9 : Int32), .int (-9 : Int32)]) (rest := [.int (w_1 + (2 : Int32)), .ref a_p0_readOath]) (ws' := [(a_p0, .inr (7, [.int p0_persons, .int p0_skies, .int p0_oaths, .ref a_p0_kind, .ref a_p0_skyAt, .ref a_p0_skyLoud, .ref a_p0_one, .ref a_p0_other, .ref a_p0_worth, .ref a_p0_hangs, .ref a_p0_now, .ref a_p0_readPerson, .ref a_p0_readSky, .ref a_p0_readOath, .int p0_readPersons, .int p0_readSkies, .int p0_readOaths, .ref a_p0_text, .int p0_length, .int r_7.2.1, .int r_7.2.2, .int p0_acts, .int p0_next, .ref a_p0_row, .int p0_told, .ref a_p0_toldAt, .ref a_p0_toldWool, .ref a_p0_toldHeard, .long p0_seed, .ref a_p0_isKept, .ref a_p0_kept])), (a_p0_readOath, .inl (cI, 20, .inl r_6)), (a_p0_text, .inl (cI, 60, .inl p0_text))]) (c_X7_figureOf l D cI cZ a_p0 a_p0_kind a_p0_skyAt a_p0_skyLoud a_p0_one a_p0_other a_p0_worth a_p0_hangs a_p0_now a_p0_readPerson a_p0_readSky a_p0_readOath a_p0_text a_p0_row a_p0_toldAt a_p0_toldWool a_p0_toldHeard a_p0_isKept a_p0_kept p0_persons p0_skies p0_oaths p0_readPersons p0_readSkies p0_readOaths p0_length r_5.2.1 r_5.2.2 p0_acts p0_next p0_told p0_seed p0_text (9 : Int32) (-9 : Int32) r_7 hr_7) (cwV 2 hts gX7_readSworn_X7_figureOf rfl rfl rfl (by decide +kernel) ⟨Nat.le_of_ble_eq_true rfl, Nat.le_of_ble_eq_true rfl⟩) [0, 2] rfl rfl rfl rfl rfl hl.1 rfl (Nat.le_of_ble_eq_true rfl) ⟨Nat.le_of_ble_eq_true rfl, Nat.le_of_ble_eq_true rfl⟩ dX7_readSworn_61 (fun H locs hW => ?_)
  obtain ⟨r_8, hr_8, hf⟩ := bnd hf
  refine q_iast hB hW 1 rfl hr_8 (ws' := [(a_p0, .inr (7, [.int p0_persons, .int p0_skies, .int p0_oaths, .ref a_p0_kind, .ref a_p0_skyAt, .ref a_p0_skyLoud, .ref a_p0_one, .ref a_p0_other, .ref a_p0_worth, .ref a_p0_hangs, .ref a_p0_now, .ref a_p0_readPerson, .ref a_p0_readSky, .ref a_p0_readOath, .int p0_readPersons, .int p0_readSkies, .int p0_readOaths, .ref a_p0_text, .int p0_length, .int r_7.2.1, .int r_7.2.2, .int p0_acts, .int p0_next, .ref a_p0_row, .int p0_told, .ref a_p0_toldAt, .ref a_p0_toldWool, .ref a_p0_toldHeard, .long p0_seed, .ref a_p0_isKept, .ref a_p0_kept])), (a_p0_readOath, .inl (cI, 20, .inl r_8)), (a_p0_text, .inl (cI, 60, .inl p0_text))]) rfl dX7_readSworn_64 (fun H locs hW => ?_)
  refine lv_aload_n hx hb dX7_readSworn_65 rfl (lv_at hl 1 rfl) ?_
  refine q_get hB hW 7 in_X7 0 rfl rfl 20 (by decide) fl_75 (v := .int r_7.2.2) rfl dX7_readSworn_66 ?_
  refine lv_bipush (v := -9) hx hb dX7_readSworn_69 (by decide) ?_
  refine lv_icmp_ne (tgt := 122) hx hb dX7_readSworn_71 (by decide) (fun c_9 => ?_) (fun c_9 => ?_)
  · have hf := it_f c_9 hf
    refine lv_aload_n hx hb dX7_readSworn_122 rfl (lv_at hl 1 rfl) ?_
    refine q_get hB hW 7 in_X7 0 rfl rfl 13 (by decide) fl_40 (v := .ref a_p0_readOath) rfl dX7_readSworn_123 ?_
    refine lv_iload_n hx hb dX7_readSworn_126 rfl (lv_at hl 0 rfl) ?_
    refine lv_iconst (v := 3) hx hb dX7_readSworn_127 (by decide) ?_
    refine lv_iadd hx hb dX7_readSworn_128 ?_
    refine lv_aload_n hx hb dX7_readSworn_129 rfl (lv_at hl 1 rfl) ?_
    refine lv_aload_n hx hb dX7_readSworn_130 rfl (lv_at hl 1 rfl) ?_
    refine q_get hB hW 7 in_X7 0 rfl rfl 16 (by decide) fl_87 (v := .int p0_readOaths) rfl dX7_readSworn_131 ?_
    refine lv_iconst (v := 1) hx hb dX7_readSworn_134 (by decide) ?_
    refine lv_isub hx hb dX7_readSworn_135 ?_
    refine lv_bipush (v := -9) hx hb dX7_readSworn_136 (by decide) ?_
    obtain ⟨r_10, hr_10, hf⟩ := bnd hf
    refine q_callVI hB hW (ci := 7) (q0 := 0) rfl rfl rfl (As := [.int (p0_readOaths - (1 : Int32)), .int (-9 : Int32)]) (rest := [.int (w_1 + (3 : Int32)), .ref a_p0_readOath]) (ws' := [(a_p0, .inr (7, [.int p0_persons, .int p0_skies, .int p0_oaths, .ref a_p0_kind, .ref a_p0_skyAt, .ref a_p0_skyLoud, .ref a_p0_one, .ref a_p0_other, .ref a_p0_worth, .ref a_p0_hangs, .ref a_p0_now, .ref a_p0_readPerson, .ref a_p0_readSky, .ref a_p0_readOath, .int p0_readPersons, .int p0_readSkies, .int p0_readOaths, .ref a_p0_text, .int p0_length, .int r_10.2.1, .int r_10.2.2, .int p0_acts, .int p0_next, .ref a_p0_row, .int p0_told, .ref a_p0_toldAt, .ref a_p0_toldWool, .ref a_p0_toldHeard, .long p0_seed, .ref a_p0_isKept, .ref a_p0_kept])), (a_p0_readOath, .inl (cI, 20, .inl r_8)), (a_p0_text, .inl (cI, 60, .inl p0_text))]) (c_X7_figureOf l D cI cZ a_p0 a_p0_kind a_p0_skyAt a_p0_skyLoud a_p0_one a_p0_other a_p0_worth a_p0_hangs a_p0_now a_p0_readPerson a_p0_readSky a_p0_readOath a_p0_text a_p0_row a_p0_toldAt a_p0_toldWool a_p0_toldHeard a_p0_isKept a_p0_kept p0_persons p0_skies p0_oaths p0_readPersons p0_readSkies p0_readOaths p0_length r_7.2.1 r_7.2.2 p0_acts p0_next p0_told p0_seed p0_text (p0_readOaths - (1 : Int32)) (-9 : Int32) r_10 hr_10) (cwV 2 hts gX7_readSworn_X7_figureOf rfl rfl rfl (by decide +kernel) ⟨Nat.le_of_ble_eq_true rfl, Nat.le_of_ble_eq_true rfl⟩) [0, 2] rfl rfl rfl rfl rfl hl.1 rfl (Nat.le_of_ble_eq_true rfl) ⟨Nat.le_of_ble_eq_true rfl, Nat.le_of_ble_eq_true rfl⟩ dX7_readSworn_138 (fun H locs hW => ?_)
    obtain ⟨r_11, hr_11, hf⟩ := bnd hf
    refine q_iast hB hW 1 rfl hr_11 (ws' := [(a_p0, .inr (7, [.int p0_persons, .int p0_skies, .int p0_oaths, .ref a_p0_kind, .ref a_p0_skyAt, .ref a_p0_skyLoud, .ref a_p0_one, .ref a_p0_other, .ref a_p0_worth, .ref a_p0_hangs, .ref a_p0_now, .ref a_p0_readPerson, .ref a_p0_readSky, .ref a_p0_readOath, .int p0_readPersons, .int p0_readSkies, .int p0_readOaths, .ref a_p0_text, .int p0_length, .int r_10.2.1, .int r_10.2.2, .int p0_acts, .int p0_next, .ref a_p0_row, .int p0_told, .ref a_p0_toldAt, .ref a_p0_toldWool, .ref a_p0_toldHeard, .long p0_seed, .ref a_p0_isKept, .ref a_p0_kept])), (a_p0_readOath, .inl (cI, 20, .inl r_11)), (a_p0_text, .inl (cI, 60, .inl p0_text))]) rfl dX7_readSworn_141 (fun H locs hW => ?_)
    refine lv_aload_n hx hb dX7_readSworn_142 rfl (lv_at hl 1 rfl) ?_
    refine lv_dup hx hb dX7_readSworn_143 rfl ?_
    refine q_get hB hW 7 in_X7 0 rfl rfl 16 (by decide) fl_87 (v := .int p0_readOaths) rfl dX7_readSworn_144 ?_
    refine lv_iconst (v := 1) hx hb dX7_readSworn_147 (by decide) ?_
    refine lv_iadd hx hb dX7_readSworn_148 ?_
    obtain ⟨w_12, hw_12, hf⟩ := bnd hf
    refine q_nmI hw_12 ?_
    refine q_put hB hW 7 in_X7 tyX7 tyX7_ok nmX7 0 rfl rfl 16 (by decide) fl_87 rfl (by first | rfl | decide) (by first | rfl | decide) (Nat.le_of_ble_eq_true rfl) (ws' := [(a_p0, .inr (7, [.int p0_persons, .int p0_skies, .int p0_oaths, .ref a_p0_kind, .ref a_p0_skyAt, .ref a_p0_skyLoud, .ref a_p0_one, .ref a_p0_other, .ref a_p0_worth, .ref a_p0_hangs, .ref a_p0_now, .ref a_p0_readPerson, .ref a_p0_readSky, .ref a_p0_readOath, .int p0_readPersons, .int p0_readSkies, .int w_12, .ref a_p0_text, .int p0_length, .int r_10.2.1, .int r_10.2.2, .int p0_acts, .int p0_next, .ref a_p0_row, .int p0_told, .ref a_p0_toldAt, .ref a_p0_toldWool, .ref a_p0_toldHeard, .long p0_seed, .ref a_p0_isKept, .ref a_p0_kept])), (a_p0_readOath, .inl (cI, 20, .inl r_11)), (a_p0_text, .inl (cI, 60, .inl p0_text))]) rfl dX7_readSworn_149 (fun H locs hW => ?_)
    exact hE _ _ _ _ (w_12, r_10.2.1, r_10.2.2, r_11) (sm hf) hW dX7_readSworn_152
  · have hf := it_t c_9 hf
    refine lv_aload_n hx hb dX7_readSworn_74 rfl (lv_at hl 1 rfl) ?_
    refine q_get hB hW 7 in_X7 0 rfl rfl 19 (by decide) fl_78 (v := .int r_7.2.1) rfl dX7_readSworn_75 ?_
    refine lv_aload_n hx hb dX7_readSworn_78 rfl (lv_at hl 1 rfl) ?_
    refine q_get hB hW 7 in_X7 0 rfl rfl 18 (by decide) fl_71 (v := .int p0_length) rfl dX7_readSworn_79 ?_
    refine lv_icmp_ge (tgt := 122) hx hb dX7_readSworn_82 (by decide) (fun c_13 => ?_) (fun c_13 => ?_)
    · have hf := it_t c_13 hf
      refine lv_aload_n hx hb dX7_readSworn_122 rfl (lv_at hl 1 rfl) ?_
      refine q_get hB hW 7 in_X7 0 rfl rfl 13 (by decide) fl_40 (v := .ref a_p0_readOath) rfl dX7_readSworn_123 ?_
      refine lv_iload_n hx hb dX7_readSworn_126 rfl (lv_at hl 0 rfl) ?_
      refine lv_iconst (v := 3) hx hb dX7_readSworn_127 (by decide) ?_
      refine lv_iadd hx hb dX7_readSworn_128 ?_
      refine lv_aload_n hx hb dX7_readSworn_129 rfl (lv_at hl 1 rfl) ?_
      refine lv_aload_n hx hb dX7_readSworn_130 rfl (lv_at hl 1 rfl) ?_
      refine q_get hB hW 7 in_X7 0 rfl rfl 16 (by decide) fl_87 (v := .int p0_readOaths) rfl dX7_readSworn_131 ?_
      refine lv_iconst (v := 1) hx hb dX7_readSworn_134 (by decide) ?_
      refine lv_isub hx hb dX7_readSworn_135 ?_
      refine lv_bipush (v := -9) hx hb dX7_readSworn_136 (by decide) ?_
      obtain ⟨r_14, hr_14, hf⟩ := bnd hf
      refine q_callVI hB hW (ci := 7) (q0 := 0) rfl rfl rfl (As := [.int (p0_readOaths - (1 : Int32)), .int (-9 : Int32)]) (rest := [.int (w_1 + (3 : Int32)), .ref a_p0_readOath]) (ws' := [(a_p0, .inr (7, [.int p0_persons, .int p0_skies, .int p0_oaths, .ref a_p0_kind, .ref a_p0_skyAt, .ref a_p0_skyLoud, .ref a_p0_one, .ref a_p0_other, .ref a_p0_worth, .ref a_p0_hangs, .ref a_p0_now, .ref a_p0_readPerson, .ref a_p0_readSky, .ref a_p0_readOath, .int p0_readPersons, .int p0_readSkies, .int p0_readOaths, .ref a_p0_text, .int p0_length, .int r_14.2.1, .int r_14.2.2, .int p0_acts, .int p0_next, .ref a_p0_row, .int p0_told, .ref a_p0_toldAt, .ref a_p0_toldWool, .ref a_p0_toldHeard, .long p0_seed, .ref a_p0_isKept, .ref a_p0_kept])), (a_p0_readOath, .inl (cI, 20, .inl r_8)), (a_p0_text, .inl (cI, 60, .inl p0_text))]) (c_X7_figureOf l D cI cZ a_p0 a_p0_kind a_p0_skyAt a_p0_skyLoud a_p0_one a_p0_other a_p0_worth a_p0_hangs a_p0_now a_p0_readPerson a_p0_readSky a_p0_readOath a_p0_text a_p0_row a_p0_toldAt a_p0_toldWool a_p0_toldHeard a_p0_isKept a_p0_kept p0_persons p0_skies p0_oaths p0_readPersons p0_readSkies p0_readOaths p0_length r_7.2.1 r_7.2.2 p0_acts p0_next p0_told p0_seed p0_text (p0_readOaths - (1 : Int32)) (-9 : Int32) r_14 hr_14) (cwV 2 hts gX7_readSworn_X7_figureOf rfl rfl rfl (by decide +kernel) ⟨Nat.le_of_ble_eq_true rfl, Nat.le_of_ble_eq_true rfl⟩) [0, 2] rfl rfl rfl rfl rfl hl.1 rfl (Nat.le_of_ble_eq_true rfl) ⟨Nat.le_of_ble_eq_true rfl, Nat.le_of_ble_eq_true rfl⟩ dX7_readSworn_138 (fun H locs hW => ?_)
      obtain ⟨r_15, hr_15, hf⟩ := bnd hf
      refine q_iast hB hW 1 rfl hr_15 (ws' := [(a_p0, .inr (7, [.int p0_persons, .int p0_skies, .int p0_oaths, .ref a_p0_kind, .ref a_p0_skyAt, .ref a_p0_skyLoud, .ref a_p0_one, .ref a_p0_other, .ref a_p0_worth, .ref a_p0_hangs, .ref a_p0_now, .ref a_p0_readPerson, .ref a_p0_readSky, .ref a_p0_readOath, .int p0_readPersons, .int p0_readSkies, .int p0_readOaths, .ref a_p0_text, .int p0_length, .int r_14.2.1, .int r_14.2.2, .int p0_acts, .int p0_next, .ref a_p0_row, .int p0_told, .ref a_p0_toldAt, .ref a_p0_toldWool, .ref a_p0_toldHeard, .long p0_seed, .ref a_p0_isKept, .ref a_p0_kept])), (a_p0_readOath, .inl (cI, 20, .inl r_15)), (a_p0_text, .inl (cI, 60, .inl p0_text))]) rfl dX7_readSworn_141 (fun H locs hW => ?_)
      refine lv_aload_n hx hb dX7_readSworn_142 rfl (lv_at hl 1 rfl) ?_
      refine lv_dup hx hb dX7_readSworn_143 rfl ?_
      refine q_get hB hW 7 in_X7 0 rfl rfl 16 (by decide) fl_87 (v := .int p0_readOaths) rfl dX7_readSworn_144 ?_
      refine lv_iconst (v := 1) hx hb dX7_readSworn_147 (by decide) ?_
      refine lv_iadd hx hb dX7_readSworn_148 ?_
      obtain ⟨w_16, hw_16, hf⟩ := bnd hf
      refine q_nmI hw_16 ?_
      refine q_put hB hW 7 in_X7 tyX7 tyX7_ok nmX7 0 rfl rfl 16 (by decide) fl_87 rfl (by first | rfl | decide) (by first | rfl | decide) (Nat.le_of_ble_eq_true rfl) (ws' := [(a_p0, .inr (7, [.int p0_persons, .int p0_skies, .int p0_oaths, .ref a_p0_kind, .ref a_p0_skyAt, .ref a_p0_skyLoud, .ref a_p0_one, .ref a_p0_other, .ref a_p0_worth, .ref a_p0_hangs, .ref a_p0_now, .ref a_p0_readPerson, .ref a_p0_readSky, .ref a_p0_readOath, .int p0_readPersons, .int p0_readSkies, .int w_16, .ref a_p0_text, .int p0_length, .int r_14.2.1, .int r_14.2.2, .int p0_acts, .int p0_next, .ref a_p0_row, .int p0_told, .ref a_p0_toldAt, .ref a_p0_toldWool, .ref a_p0_toldHeard, .long p0_seed, .ref a_p0_isKept, .ref a_p0_kept])), (a_p0_readOath, .inl (cI, 20, .inl r_15)), (a_p0_text, .inl (cI, 60, .inl p0_text))]) rfl dX7_readSworn_149 (fun H locs hW => ?_)
      exact hE _ _ _ _ (w_16, r_14.2.1, r_14.2.2, r_15) (sm hf) hW dX7_readSworn_152
    · have hf := it_f c_13 hf
      refine lv_aload_n hx hb dX7_readSworn_85 rfl (lv_at hl 1 rfl) ?_
      refine q_get hB hW 7 in_X7 0 rfl rfl 17 (by decide) fl_43 (v := .ref a_p0_text) rfl dX7_readSworn_86 ?_
      refine lv_aload_n hx hb dX7_readSworn_89 rfl (lv_at hl 1 rfl) ?_
      refine q_get hB hW 7 in_X7 0 rfl rfl 19 (by decide) fl_78 (v := .int r_7.2.1) rfl dX7_readSworn_90 ?_
      obtain ⟨r_17, hr_17, hf⟩ := bnd hf
      refine q_iald hB hW 2 rfl hr_17 dX7_readSworn_93 ?_
      refine lv_bipush (v := 110) hx hb dX7_readSworn_94 (by decide) ?_
      refine lv_icmp_ne (tgt := 122) hx hb dX7_readSworn_96 (by decide) (fun c_18 => ?_) (fun c_18 => ?_)
      · have hf := it_f c_18 hf
        refine lv_aload_n hx hb dX7_readSworn_122 rfl (lv_at hl 1 rfl) ?_
        refine q_get hB hW 7 in_X7 0 rfl rfl 13 (by decide) fl_40 (v := .ref a_p0_readOath) rfl dX7_readSworn_123 ?_
        refine lv_iload_n hx hb dX7_readSworn_126 rfl (lv_at hl 0 rfl) ?_
        refine lv_iconst (v := 3) hx hb dX7_readSworn_127 (by decide) ?_
        refine lv_iadd hx hb dX7_readSworn_128 ?_
        refine lv_aload_n hx hb dX7_readSworn_129 rfl (lv_at hl 1 rfl) ?_
        refine lv_aload_n hx hb dX7_readSworn_130 rfl (lv_at hl 1 rfl) ?_
        refine q_get hB hW 7 in_X7 0 rfl rfl 16 (by decide) fl_87 (v := .int p0_readOaths) rfl dX7_readSworn_131 ?_
        refine lv_iconst (v := 1) hx hb dX7_readSworn_134 (by decide) ?_
        refine lv_isub hx hb dX7_readSworn_135 ?_
        refine lv_bipush (v := -9) hx hb dX7_readSworn_136 (by decide) ?_
        obtain ⟨r_19, hr_19, hf⟩ := bnd hf
        refine q_callVI hB hW (ci := 7) (q0 := 0) rfl rfl rfl (As := [.int (p0_readOaths - (1 : Int32)), .int (-9 : Int32)]) (rest := [.int (w_1 + (3 : Int32)), .ref a_p0_readOath]) (ws' := [(a_p0, .inr (7, [.int p0_persons, .int p0_skies, .int p0_oaths, .ref a_p0_kind, .ref a_p0_skyAt, .ref a_p0_skyLoud, .ref a_p0_one, .ref a_p0_other, .ref a_p0_worth, .ref a_p0_hangs, .ref a_p0_now, .ref a_p0_readPerson, .ref a_p0_readSky, .ref a_p0_readOath, .int p0_readPersons, .int p0_readSkies, .int p0_readOaths, .ref a_p0_text, .int p0_length, .int r_19.2.1, .int r_19.2.2, .int p0_acts, .int p0_next, .ref a_p0_row, .int p0_told, .ref a_p0_toldAt, .ref a_p0_toldWool, .ref a_p0_toldHeard, .long p0_seed, .ref a_p0_isKept, .ref a_p0_kept])), (a_p0_readOath, .inl (cI, 20, .inl r_8)), (a_p0_text, .inl (cI, 60, .inl p0_text))]) (c_X7_figureOf l D cI cZ a_p0 a_p0_kind a_p0_skyAt a_p0_skyLoud a_p0_one a_p0_other a_p0_worth a_p0_hangs a_p0_now a_p0_readPerson a_p0_readSky a_p0_readOath a_p0_text a_p0_row a_p0_toldAt a_p0_toldWool a_p0_toldHeard a_p0_isKept a_p0_kept p0_persons p0_skies p0_oaths p0_readPersons p0_readSkies p0_readOaths p0_length r_7.2.1 r_7.2.2 p0_acts p0_next p0_told p0_seed p0_text (p0_readOaths - (1 : Int32)) (-9 : Int32) r_19 hr_19) (cwV 2 hts gX7_readSworn_X7_figureOf rfl rfl rfl (by decide +kernel) ⟨Nat.le_of_ble_eq_true rfl, Nat.le_of_ble_eq_true rfl⟩) [0, 2] rfl rfl rfl rfl rfl hl.1 rfl (Nat.le_of_ble_eq_true rfl) ⟨Nat.le_of_ble_eq_true rfl, Nat.le_of_ble_eq_true rfl⟩ dX7_readSworn_138 (fun H locs hW => ?_)
        obtain ⟨r_20, hr_20, hf⟩ := bnd hf
        refine q_iast hB hW 1 rfl hr_20 (ws' := [(a_p0, .inr (7, [.int p0_persons, .int p0_skies, .int p0_oaths, .ref a_p0_kind, .ref a_p0_skyAt, .ref a_p0_skyLoud, .ref a_p0_one, .ref a_p0_other, .ref a_p0_worth, .ref a_p0_hangs, .ref a_p0_now, .ref a_p0_readPerson, .ref a_p0_readSky, .ref a_p0_readOath, .int p0_readPersons, .int p0_readSkies, .int p0_readOaths, .ref a_p0_text, .int p0_length, .int r_19.2.1, .int r_19.2.2, .int p0_acts, .int p0_next, .ref a_p0_row, .int p0_told, .ref a_p0_toldAt, .ref a_p0_toldWool, .ref a_p0_toldHeard, .long p0_seed, .ref a_p0_isKept, .ref a_p0_kept])), (a_p0_readOath, .inl (cI, 20, .inl r_20)), (a_p0_text, .inl (cI, 60, .inl p0_text))]) rfl dX7_readSworn_141 (fun H locs hW => ?_)
        refine lv_aload_n hx hb dX7_readSworn_142 rfl (lv_at hl 1 rfl) ?_
        refine lv_dup hx hb dX7_readSworn_143 rfl ?_
        refine q_get hB hW 7 in_X7 0 rfl rfl 16 (by decide) fl_87 (v := .int p0_readOaths) rfl dX7_readSworn_144 ?_
        refine lv_iconst (v := 1) hx hb dX7_readSworn_147 (by decide) ?_
        refine lv_iadd hx hb dX7_readSworn_148 ?_
        obtain ⟨w_21, hw_21, hf⟩ := bnd hf
        refine q_nmI hw_21 ?_
        refine q_put hB hW 7 in_X7 tyX7 tyX7_ok nmX7 0 rfl rfl 16 (by decide) fl_87 rfl (by first | rfl | decide) (by first | rfl | decide) (Nat.le_of_ble_eq_true rfl) (ws' := [(a_p0, .inr (7, [.int p0_persons, .int p0_skies, .int p0_oaths, .ref a_p0_kind, .ref a_p0_skyAt, .ref a_p0_skyLoud, .ref a_p0_one, .ref a_p0_other, .ref a_p0_worth, .ref a_p0_hangs, .ref a_p0_now, .ref a_p0_readPerson, .ref a_p0_readSky, .ref a_p0_readOath, .int p0_readPersons, .int p0_readSkies, .int w_21, .ref a_p0_text, .int p0_length, .int r_19.2.1, .int r_19.2.2, .int p0_acts, .int p0_next, .ref a_p0_row, .int p0_told, .ref a_p0_toldAt, .ref a_p0_toldWool, .ref a_p0_toldHeard, .long p0_seed, .ref a_p0_isKept, .ref a_p0_kept])), (a_p0_readOath, .inl (cI, 20, .inl r_20)), (a_p0_text, .inl (cI, 60, .inl p0_text))]) rfl dX7_readSworn_149 (fun H locs hW => ?_)
        exact hE _ _ _ _ (w_21, r_19.2.1, r_19.2.2, r_20) (sm hf) hW dX7_readSworn_152
      · have hf := it_t c_18 hf
        refine lv_aload_n hx hb dX7_readSworn_99 rfl (lv_at hl 1 rfl) ?_
        refine q_get hB hW 7 in_X7 0 rfl rfl 13 (by decide) fl_40 (v := .ref a_p0_readOath) rfl dX7_readSworn_100 ?_
        refine lv_iload_n hx hb dX7_readSworn_103 rfl (lv_at hl 0 rfl) ?_
        refine lv_iconst (v := 3) hx hb dX7_readSworn_104 (by decide) ?_
        refine lv_iadd hx hb dX7_readSworn_105 ?_
        refine lv_bipush (v := -9) hx hb dX7_readSworn_106 (by decide) ?_
        obtain ⟨r_22, hr_22, hf⟩ := bnd hf
        refine q_iast hB hW 1 rfl hr_22 (ws' := [(a_p0, .inr (7, [.int p0_persons, .int p0_skies, .int p0_oaths, .ref a_p0_kind, .ref a_p0_skyAt, .ref a_p0_skyLoud, .ref a_p0_one, .ref a_p0_other, .ref a_p0_worth, .ref a_p0_hangs, .ref a_p0_now, .ref a_p0_readPerson, .ref a_p0_readSky, .ref a_p0_readOath, .int p0_readPersons, .int p0_readSkies, .int p0_readOaths, .ref a_p0_text, .int p0_length, .int r_7.2.1, .int r_7.2.2, .int p0_acts, .int p0_next, .ref a_p0_row, .int p0_told, .ref a_p0_toldAt, .ref a_p0_toldWool, .ref a_p0_toldHeard, .long p0_seed, .ref a_p0_isKept, .ref a_p0_kept])), (a_p0_readOath, .inl (cI, 20, .inl r_22)), (a_p0_text, .inl (cI, 60, .inl p0_text))]) rfl dX7_readSworn_108 (fun H locs hW => ?_)
        refine lv_aload_n hx hb dX7_readSworn_109 rfl (lv_at hl 1 rfl) ?_
        refine lv_dup hx hb dX7_readSworn_110 rfl ?_
        refine q_get hB hW 7 in_X7 0 rfl rfl 19 (by decide) fl_78 (v := .int r_7.2.1) rfl dX7_readSworn_111 ?_
        refine lv_iconst (v := 1) hx hb dX7_readSworn_114 (by decide) ?_
        refine lv_iadd hx hb dX7_readSworn_115 ?_
        obtain ⟨w_23, hw_23, hf⟩ := bnd hf
        refine q_nmI hw_23 ?_
        refine q_put hB hW 7 in_X7 tyX7 tyX7_ok nmX7 0 rfl rfl 19 (by decide) fl_78 rfl (by first | rfl | decide) (by first | rfl | decide) (Nat.le_of_ble_eq_true rfl) (ws' := [(a_p0, .inr (7, [.int p0_persons, .int p0_skies, .int p0_oaths, .ref a_p0_kind, .ref a_p0_skyAt, .ref a_p0_skyLoud, .ref a_p0_one, .ref a_p0_other, .ref a_p0_worth, .ref a_p0_hangs, .ref a_p0_now, .ref a_p0_readPerson, .ref a_p0_readSky, .ref a_p0_readOath, .int p0_readPersons, .int p0_readSkies, .int p0_readOaths, .ref a_p0_text, .int p0_length, .int w_23, .int r_7.2.2, .int p0_acts, .int p0_next, .ref a_p0_row, .int p0_told, .ref a_p0_toldAt, .ref a_p0_toldWool, .ref a_p0_toldHeard, .long p0_seed, .ref a_p0_isKept, .ref a_p0_kept])), (a_p0_readOath, .inl (cI, 20, .inl r_22)), (a_p0_text, .inl (cI, 60, .inl p0_text))]) rfl dX7_readSworn_116 (fun H locs hW => ?_)
        refine lv_goto (tgt := 142) hx hb dX7_readSworn_119 (by decide) ?_
        refine lv_aload_n hx hb dX7_readSworn_142 rfl (lv_at hl 1 rfl) ?_
        refine lv_dup hx hb dX7_readSworn_143 rfl ?_
        refine q_get hB hW 7 in_X7 0 rfl rfl 16 (by decide) fl_87 (v := .int p0_readOaths) rfl dX7_readSworn_144 ?_
        refine lv_iconst (v := 1) hx hb dX7_readSworn_147 (by decide) ?_
        refine lv_iadd hx hb dX7_readSworn_148 ?_
        obtain ⟨w_24, hw_24, hf⟩ := bnd hf
        refine q_nmI hw_24 ?_
        refine q_put hB hW 7 in_X7 tyX7 tyX7_ok nmX7 0 rfl rfl 16 (by decide) fl_87 rfl (by first | rfl | decide) (by first | rfl | decide) (Nat.le_of_ble_eq_true rfl) (ws' := [(a_p0, .inr (7, [.int p0_persons, .int p0_skies, .int p0_oaths, .ref a_p0_kind, .ref a_p0_skyAt, .ref a_p0_skyLoud, .ref a_p0_one, .ref a_p0_other, .ref a_p0_worth, .ref a_p0_hangs, .ref a_p0_now, .ref a_p0_readPerson, .ref a_p0_readSky, .ref a_p0_readOath, .int p0_readPersons, .int p0_readSkies, .int w_24, .ref a_p0_text, .int p0_length, .int w_23, .int r_7.2.2, .int p0_acts, .int p0_next, .ref a_p0_row, .int p0_told, .ref a_p0_toldAt, .ref a_p0_toldWool, .ref a_p0_toldHeard, .long p0_seed, .ref a_p0_isKept, .ref a_p0_kept])), (a_p0_readOath, .inl (cI, 20, .inl r_22)), (a_p0_text, .inl (cI, 60, .inl p0_text))]) rfl dX7_readSworn_149 (fun H locs hW => ?_)
        exact hE _ _ _ _ (w_24, w_23, r_7.2.2, r_22) (sm hf) hW dX7_readSworn_152
