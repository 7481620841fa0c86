def f_X6_within (v0 : Int32) (v1 : Int32) (v2 : Int32) : Option (Int32) := if v0 < v1 then some (0 : Int32) else if v2 < v0 then some (0 : Int32) else some (1 : Int32)
set_option maxHeartbeats 4000000 in
set_option maxRecDepth 100000 in
theorem c_X6_within (l : Launch) (D : va_G) (cI cZ : ClassId) (v0 : Int32) (v1 : Int32) (v2 : Int32) (q : Int32) (hf : f_X6_within v0 v1 v2 = some q) : CtZ l D cI cZ yX6_within wsX6_within 0 0 [.int v0, .int v1, .int v2] [] (fun q => []) (fun q => q) q := by
  refine CtZ.of (cc := cX6_within) (maxL := 3) (plainFor_of_name (by decide)) rfl (Nat.le_of_ble_eq_true rfl) ?_
  intro p e s m args below meth c A Q H ls hB hE hW hl
  have hx := hB.1
  have hb := hB.2.1
  have hml := hB.2.2.2.1
  have hown : s.vm.findClass RX6 = some m.cls := hB.2.2.2.2.1
  have hts := hB.2.2.2.2.2.1
  have hK := hB.2.2.2.2.2.2.2.1.1
  have hl : lv_has ls 3 [(0, .int v0), (1, .int v1), (2, .int v2)] := hl
  unfold f_X6_within at hf
  refine lv_iload_n hx hb dX6_within_0 rfl (lv_at hl 0 rfl) ?_
  refine lv_iload_n hx hb dX6_within_1 rfl (lv_at hl 1 rfl) ?_
  refine lv_icmp_lt (tgt := 14) hx hb dX6_within_2 (by decide) (fun c_1 => ?_) (fun c_1 => ?_)
  · have hf := it_t c_1 hf
    refine lv_iconst (v := 0) hx hb dX6_within_14 (by decide) ?_
    exact hE _ _ _ _ _ (0 : Int32) (sm hf) hW rfl nz_0 dX6_within_15
  · have hf := it_f c_1 hf
    refine lv_iload_n hx hb dX6_within_5 rfl (lv_at hl 0 rfl) ?_
    refine lv_iload_n hx hb dX6_within_6 rfl (lv_at hl 2 rfl) ?_
    refine lv_icmp_gt (tgt := 14) hx hb dX6_within_7 (by decide) (fun c_2 => ?_) (fun c_2 => ?_)
    · have hf := it_t c_2 hf
      refine lv_iconst (v := 0) hx hb dX6_within_14 (by decide) ?_
      exact hE _ _ _ _ _ (0 : Int32) (sm hf) hW rfl nz_0 dX6_within_15
    · have hf := it_f c_2 hf
      refine lv_iconst (v := 1) hx hb dX6_within_10 (by decide) ?_
      refine lv_goto (tgt := 15) hx hb dX6_within_11 (by decide) ?_
      exact hE _ _ _ _ _ (1 : Int32) (sm hf) hW rfl nz_1 dX6_within_15
def f_X6_put (n_p0 : Nat) (v1 : Int32) (v2 : Int32) (p0 : Nat → Int32) : Option (Nat → Int32) := if v1 < (0 : Int32) then some p0 else if (nI n_p0) ≤ v1 then some p0 else (ast p0 n_p0 v1 v2).bind fun r_3 => some r_3
set_option maxHeartbeats 4000000 in
set_option maxRecDepth 100000 in
theorem c_X6_put (l : Launch) (D : va_G) (cI cZ : ClassId) (a_p0 : Nat) (n_p0 : Nat) (p0 : Nat → Int32) (v1 : Int32) (v2 : Int32) (q : Nat → Int32) (hf : f_X6_put n_p0 v1 v2 p0 = some q) : CtV l D cI cZ yX6_put wsX6_put 0 0 [.ref a_p0, .int v1, .int v2] [(a_p0, .inl (cI, n_p0, .inl p0))] (fun q => [(a_p0, .inl (cI, n_p0, .inl q))]) q := by
  refine CtV.of (cc := cX6_put) (maxL := 3) (plainFor_of_name (by decide)) rfl (Nat.le_of_ble_eq_true rfl) ?_
  intro p e s m args below meth c A Q H ls hB hE hW hl
  have hx := hB.1
  have hb := hB.2.1
  have hml := hB.2.2.2.1
  have hown : s.vm.findClass RX6 = some m.cls := hB.2.2.2.2.1
  have hts := hB.2.2.2.2.2.1
  have hK := hB.2.2.2.2.2.2.2.1.1
  have hl : lv_has ls 3 [(0, .ref a_p0), (1, .int v1), (2, .int v2)] := hl
  unfold f_X6_put at hf
  refine lv_iload_n hx hb dX6_put_0 rfl (lv_at hl 1 rfl) ?_
  refine lv_if_lt (tgt := 14) hx hb dX6_put_1 (by decide) (fun c_1 => ?_) (fun c_1 => ?_)
  · have hf := it_t c_1 hf
    exact hE _ _ _ _ p0 (sm hf) hW dX6_put_14
  · have hf := it_f c_1 hf
    refine lv_iload_n hx hb dX6_put_4 rfl (lv_at hl 1 rfl) ?_
    refine lv_aload_n hx hb dX6_put_5 rfl (lv_at hl 0 rfl) ?_
    refine q_alen hB hW 0 rfl (v := (nI n_p0)) rfl dX6_put_6 ?_
    refine lv_icmp_ge (tgt := 14) hx hb dX6_put_7 (by decide) (fun c_2 => ?_) (fun c_2 => ?_)
    · have hf := it_t c_2 hf
      exact hE _ _ _ _ p0 (sm hf) hW dX6_put_14
    · have hf := it_f c_2 hf
      refine lv_aload_n hx hb dX6_put_10 rfl (lv_at hl 0 rfl) ?_
      refine lv_iload_n hx hb dX6_put_11 rfl (lv_at hl 1 rfl) ?_
      refine lv_iload_n hx hb dX6_put_12 rfl (lv_at hl 2 rfl) ?_
      obtain ⟨r_3, hr_3, hf⟩ := bnd hf
      refine q_iast hB hW 0 rfl hr_3 (ws' := [(a_p0, .inl (cI, n_p0, .inl r_3))]) rfl dX6_put_13 (fun H locs hW => ?_)
      exact hE _ _ _ _ r_3 (sm hf) hW dX6_put_14
def f_X5_add (v1 : Int32) (p0_length : Int32) (p0_letters : Nat → Int32) : Option (Int32 × Int32 × (Nat → Int32)) := (f_X6_put 60 p0_length v1 p0_letters).bind fun r_1 => (some (p0_length + (1 : Int32))).bind fun w_2 => some (w_2, w_2, r_1)
set_option maxHeartbeats 4000000 in
set_option maxRecDepth 100000 in
theorem c_X5_add (l : Launch) (D : va_G) (cI cZ : ClassId) (a_p0 a_p0_letters : Nat) (p0_length : Int32) (p0_letters : Nat → Int32) (v1 : Int32) (q : Int32 × Int32 × (Nat → Int32)) (hf : f_X5_add v1 p0_length p0_letters = some q) : CtI l D cI cZ yX5_add wsX5_add 1 22 [.ref a_p0, .int v1] [(a_p0, .inr (5, [.ref a_p0_letters, .int p0_length])), (a_p0_letters, .inl (cI, 60, .inl p0_letters))] (fun q => [(a_p0, .inr (5, [.ref a_p0_letters, .int q.2.1])), (a_p0_letters, .inl (cI, 60, .inl q.2.2))]) (fun q => q.1) q := by
  refine CtI.of (cc := cX5_add) (maxL := 2) (plainFor_of_name (by decide)) rfl (Nat.le_of_ble_eq_true rfl) ?_
  intro p e s m args below meth c A Q H ls hB hE hW hl
  have hx := hB.1
  have hb := hB.2.1
  have hml := hB.2.2.2.1
  have hown : s.vm.findClass RX5 = some m.cls := hB.2.2.2.2.1
  have hts := hB.2.2.2.2.2.1
  have hK := hB.2.2.2.2.2.2.2.1.1
  have hl : lv_has ls 2 [(0, .ref a_p0), (1, .int v1)] := hl
  have in_X5 : ∀ w ∈ wsX50, w ∈ wsX5_add := fun w h => List.mem_cons_of_mem _ (List.mem_append_right _ h)
  have fl_9 : (Cond.fieldLink RX5 9 (TX5 0).1 (TX5 0).2.1 (TX5 0).2.2.1).before args s = true := hts (.fieldLink RX5 9 "ClapOaths$Text" "letters" "[I") (by decide +kernel)
  have fl_15 : (Cond.fieldLink RX5 15 (TX5 1).1 (TX5 1).2.1 (TX5 1).2.2.1).before args s = true := hts (.fieldLink RX5 15 "ClapOaths$Text" "length" "I") (by decide +kernel)
  unfold f_X5_add at hf
  refine lv_aload_n hx hb dX5_add_0 rfl (lv_at hl 0 rfl) ?_
  refine q_get hB hW 5 in_X5 0 rfl rfl 0 (by decide) fl_9 (v := .ref a_p0_letters) rfl dX5_add_1 ?_
  refine lv_aload_n hx hb dX5_add_4 rfl (lv_at hl 0 rfl) ?_
  refine q_get hB hW 5 in_X5 0 rfl rfl 1 (by decide) fl_15 (v := .int p0_length) rfl dX5_add_5 ?_
  refine lv_iload_n hx hb dX5_add_8 rfl (lv_at hl 1 rfl) ?_
  obtain ⟨r_1, hr_1, hf⟩ := bnd hf
  refine q_callNV hB hW (As := [.ref a_p0_letters, .int p0_length, .int v1]) (rest := []) (ws' := [(a_p0, .inr (5, [.ref a_p0_letters, .int p0_length])), (a_p0_letters, .inl (cI, 60, .inl r_1))]) (c_X6_put l D cI cZ a_p0_letters 60 p0_letters p0_length v1 r_1 hr_1) ⟨va_cnB 3 hts gX5_add_X6_put_n19 rfl rfl rfl (hB.2.2.2.2.2.2.2.1.2 (RX5, 19, yX6_put, RX6) (by decide +kernel)) (hts (.initialized RX6) (by decide +kernel)) (by decide +kernel) ⟨Nat.le_of_ble_eq_true rfl, Nat.le_of_ble_eq_true rfl⟩, hts (.static yX6_put) (by decide +kernel), trivial⟩ [1] rfl rfl rfl rfl rfl hl.1 rfl (Nat.le_of_ble_eq_true rfl) ⟨Nat.le_of_ble_eq_true rfl, Nat.le_of_ble_eq_true rfl⟩ dX5_add_9 (fun H locs hW => ?_)
  refine lv_aload_n hx hb dX5_add_12 rfl (lv_at hl 0 rfl) ?_
  refine lv_dup hx hb dX5_add_13 rfl ?_
  refine q_get hB hW 5 in_X5 0 rfl rfl 1 (by decide) fl_15 (v := .int p0_length) rfl dX5_add_14 ?_
  refine lv_iconst (v := 1) hx hb dX5_add_17 (by decide) ?_
  refine lv_iadd hx hb dX5_add_18 ?_
  obtain ⟨w_2, hw_2, hf⟩ := bnd hf
  refine q_nmI hw_2 ?_
  refine q_put hB hW 5 in_X5 tyX5 tyX5_ok nmX5 0 rfl rfl 1 (by decide) fl_15 rfl (by first | rfl | decide) (by first | rfl | decide) (Nat.le_of_ble_eq_true rfl) (ws' := [(a_p0, .inr (5, [.ref a_p0_letters, .int w_2])), (a_p0_letters, .inl (cI, 60, .inl r_1))]) rfl dX5_add_19 (fun H locs hW => ?_)
  refine lv_aload_n hx hb dX5_add_22 rfl (lv_at hl 0 rfl) ?_
  refine q_get hB hW 5 in_X5 0 rfl rfl 1 (by decide) fl_15 (v := .int w_2) rfl dX5_add_23 ?_
  exact hE _ _ _ _ _ (w_2, w_2, r_1) (sm hf) hW rfl dX5_add_26
def f_X6_write (v1 : Int32) (p0_text_length : Int32) (p0_text_letters : Nat → Int32) : Option (Int32 × Int32 × (Nat → Int32)) := (f_X6_within v1 (0 : Int32) (255 : Int32)).bind fun r_1 => if r_1 = (0 : Int32) then some ((-2 : Int32), p0_text_length, p0_text_letters) else if p0_text_length < (60 : Int32) then (f_X5_add v1 p0_text_length p0_text_letters).bind fun r_4 => some (r_4.1, r_4.2.1, r_4.2.2) else some ((-4 : Int32), p0_text_length, p0_text_letters)
set_option maxHeartbeats 4000000 in
set_option maxRecDepth 100000 in
theorem c_X6_write (l : Launch) (D : va_G) (cI cZ : ClassId) (a_p0 a_p0_text a_p0_reader a_p0_draft a_p0_land a_p0_now a_p0_trial a_p0_acts a_p0_hearings a_p0_kept a_p0_text_letters : Nat) (p0_keptSlots : Int32) (p0_seedNow : Int64) (p0_text_length : Int32) (p0_text_letters : Nat → Int32) (v1 : Int32) (q : Int32 × Int32 × (Nat → Int32)) (hf : f_X6_write v1 p0_text_length p0_text_letters = some q) : CtI l D cI cZ yX6_write wsX6_write 2 43 [.ref a_p0, .int v1] [(a_p0, .inr (6, [.ref a_p0_text, .ref a_p0_reader, .ref a_p0_draft, .ref a_p0_land, .ref a_p0_now, .ref a_p0_trial, .ref a_p0_acts, .ref a_p0_hearings, .ref a_p0_kept, .int p0_keptSlots, .long p0_seedNow])), (a_p0_text, .inr (5, [.ref a_p0_text_letters, .int p0_text_length])), (a_p0_text_letters, .inl (cI, 60, .inl p0_text_letters))] (fun q => [(a_p0, .inr (6, [.ref a_p0_text, .ref a_p0_reader, .ref a_p0_draft, .ref a_p0_land, .ref a_p0_now, .ref a_p0_trial, .ref a_p0_acts, .ref a_p0_hearings, .ref a_p0_kept, .int p0_keptSlots, .long p0_seedNow])), (a_p0_text, .inr (5, [.ref a_p0_text_letters, .int q.2.1])), (a_p0_text_letters, .inl (cI, 60, .inl q.2.2))]) (fun q => q.1) q := by
  refine CtI.of (cc := cX6_write) (maxL := 2) (plainFor_of_name (by decide)) rfl (Nat.le_of_ble_eq_true rfl) ?_
  intro p e s m args below meth c A Q H ls hB hE hW hl
  have hx := hB.1
  have hb := hB.2.1
  have hml := hB.2.2.2.1
  have hown : s.vm.findClass RX6 = some m.cls := hB.2.2.2.2.1
  have hts := hB.2.2.2.2.2.1
  have hK := hB.2.2.2.2.2.2.2.1.1
  have hl : lv_has ls 2 [(0, .ref a_p0), (1, .int v1)] := hl
  have in_X5 : ∀ w ∈ wsX50, w ∈ wsX6_write := fun w h => List.mem_cons_of_mem _ (List.mem_append_right _ h)
  have in_X6 : ∀ w ∈ wsX60, w ∈ wsX6_write := fun w h => List.mem_cons_of_mem _ (List.mem_append_left _ (List.mem_append_right _ h))
  have fl_10 : (Cond.fieldLink RX6 10 (TX6 0).1 (TX6 0).2.1 (TX6 0).2.2.1).before args s = true := hts (.fieldLink RX6 10 "ClapOaths" "text" "LClapOaths$Text;") (by decide +kernel)
  have fl_77 : (Cond.fieldLink RX6 77 (TX5 1).1 (TX5 1).2.1 (TX5 1).2.2.1).before args s = true := hts (.fieldLink RX6 77 "ClapOaths$Text" "length" "I") (by decide +kernel)
  unfold f_X6_write at hf
  refine lv_iload_n hx hb dX6_write_0 rfl (lv_at hl 1 rfl) ?_
  refine lv_iconst (v := 0) hx hb dX6_write_1 (by decide) ?_
  refine lv_sipush (v := 255) hx hb dX6_write_2 (by decide) ?_
  obtain ⟨r_1, hr_1, hf⟩ := bnd hf
  refine q_callSZ hB hW (As := [.int v1, .int (0 : Int32), .int (255 : Int32)]) (rest := []) (ws' := [(a_p0, .inr (6, [.ref a_p0_text, .ref a_p0_reader, .ref a_p0_draft, .ref a_p0_land, .ref a_p0_now, .ref a_p0_trial, .ref a_p0_acts, .ref a_p0_hearings, .ref a_p0_kept, .int p0_keptSlots, .long p0_seedNow])), (a_p0_text, .inr (5, [.ref a_p0_text_letters, .int p0_text_length])), (a_p0_text_letters, .inl (cI, 60, .inl p0_text_letters))]) (c_X6_within l D cI cZ v1 (0 : Int32) (255 : Int32) r_1 hr_1) (va_cwS 3 hts gX6_write_X6_within rfl rfl rfl (by decide +kernel) ⟨Nat.le_of_ble_eq_true rfl, Nat.le_of_ble_eq_true rfl⟩) [] rfl rfl rfl rfl rfl hl.1 rfl (Nat.le_of_ble_eq_true rfl) ⟨Nat.le_of_ble_eq_true rfl, Nat.le_of_ble_eq_true rfl⟩ dX6_write_5 (fun hzr_1 H locs hW => ?_)
  refine lv_if_ne (tgt := 14) hx hb dX6_write_8 (by decide) (fun c_2 => ?_) (fun c_2 => ?_)
  · have hf := it_f c_2 hf
    refine lv_aload_n hx hb dX6_write_14 rfl (lv_at hl 0 rfl) ?_
    refine q_get hB hW 6 in_X6 0 rfl rfl 0 (by decide) fl_10 (v := .ref a_p0_text) rfl dX6_write_15 ?_
    refine q_get hB hW 5 in_X5 1 rfl rfl 1 (by decide) fl_77 (v := .int p0_text_length) rfl dX6_write_18 ?_
    refine lv_bipush (v := 60) hx hb dX6_write_21 (by decide) ?_
    refine lv_icmp_lt (tgt := 29) hx hb dX6_write_23 (by decide) (fun c_3 => ?_) (fun c_3 => ?_)
    · have hf := it_t c_3 hf
      refine lv_aload_n hx hb dX6_write_29 rfl (lv_at hl 0 rfl) ?_
      refine q_get hB hW 6 in_X6 0 rfl rfl 0 (by decide) fl_10 (v := .ref a_p0_text) rfl dX6_write_30 ?_
      refine lv_iload_n hx hb dX6_write_33 rfl (lv_at hl 1 rfl) ?_
      obtain ⟨r_4, hr_4, hf⟩ := bnd hf
      refine q_callVI hB hW (ci := 5) (q0 := 0) rfl rfl rfl (As := [.int v1]) (rest := []) (ws' := [(a_p0, .inr (6, [.ref a_p0_text, .ref a_p0_reader, .ref a_p0_draft, .ref a_p0_land, .ref a_p0_now, .ref a_p0_trial, .ref a_p0_acts, .ref a_p0_hearings, .ref a_p0_kept, .int p0_keptSlots, .long p0_seedNow])), (a_p0_text, .inr (5, [.ref a_p0_text_letters, .int r_4.2.1])), (a_p0_text_letters, .inl (cI, 60, .inl r_4.2.2))]) (c_X5_add l D cI cZ a_p0_text a_p0_text_letters p0_text_length p0_text_letters v1 r_4 hr_4) (cwV 1 hts gX6_write_X5_add rfl rfl rfl (by decide +kernel) ⟨Nat.le_of_ble_eq_true rfl, Nat.le_of_ble_eq_true rfl⟩) [1, 2] rfl rfl rfl rfl rfl hl.1 rfl (Nat.le_of_ble_eq_true rfl) ⟨Nat.le_of_ble_eq_true rfl, Nat.le_of_ble_eq_true rfl⟩ dX6_write_34 (fun H locs hW => ?_)
      exact hE _ _ _ _ _ (r_4.1, r_4.2.1, r_4.2.2) (sm hf) hW rfl dX6_write_37
    · have hf := it_f c_3 hf
      refine lv_bipush (v := -4) hx hb dX6_write_26 (by decide) ?_
      exact hE _ _ _ _ _ ((-4 : Int32), p0_text_length, p0_text_letters) (sm hf) hW rfl dX6_write_28
  · have hf := it_t c_2 hf
    refine lv_bipush (v := -2) hx hb dX6_write_11 (by decide) ?_
    exact hE _ _ _ _ _ ((-2 : Int32), p0_text_length, p0_text_letters) (sm hf) hW rfl dX6_write_13
def f_X6_wipe (p0_text_length : Int32) : Option (Int32 × Int32) := some (p0_text_length, (0 : Int32))
set_option maxHeartbeats 4000000 in
set_option maxRecDepth 100000 in
theorem c_X6_wipe (l : Launch) (D : va_G) (cI cZ : ClassId) (a_p0 a_p0_text a_p0_reader a_p0_draft a_p0_land a_p0_now a_p0_trial a_p0_acts a_p0_hearings a_p0_kept a_p0_text_letters : Nat) (p0_keptSlots : Int32) (p0_seedNow : Int64) (p0_text_length : Int32) (q : Int32 × Int32) (hf : f_X6_wipe p0_text_length = some q) : CtI l D cI cZ yX6_wipe wsX6_wipe 0 0 [.ref a_p0] [(a_p0, .inr (6, [.ref a_p0_text, .ref a_p0_reader, .ref a_p0_draft, .ref a_p0_land, .ref a_p0_now, .ref a_p0_trial, .ref a_p0_acts, .ref a_p0_hearings, .ref a_p0_kept, .int p0_keptSlots, .long p0_seedNow])), (a_p0_text, .inr (5, [.ref a_p0_text_letters, .int p0_text_length]))] (fun q => [(a_p0, .inr (6, [.ref a_p0_text, .ref a_p0_reader, .ref a_p0_draft, .ref a_p0_land, .ref a_p0_now, .ref a_p0_trial, .ref a_p0_acts, .ref a_p0_hearings, .ref a_p0_kept, .int p0_keptSlots, .long p0_seedNow])), (a_p0_text, .inr (5, [.ref a_p0_text_letters, .int q.2]))]) (fun q => q.1) q := by
  refine CtI.of (cc := cX6_wipe) (maxL := 2) (plainFor_of_name (by decide)) rfl (Nat.le_of_ble_eq_true rfl) ?_
  intro p e s m args below meth c A Q H ls hB hE hW hl
  have hx := hB.1
  have hb := hB.2.1
  have hml := hB.2.2.2.1
  have hown : s.vm.findClass RX6 = some m.cls := hB.2.2.2.2.1
  have hts := hB.2.2.2.2.2.1
  have hK := hB.2.2.2.2.2.2.2.1.1
  have hl : lv_has ls 2 [(0, .ref a_p0)] := hl
  have in_X5 : ∀ w ∈ wsX50, w ∈ wsX6_wipe := fun w h => List.mem_cons_of_mem _ (List.mem_append_right _ h)
  have in_X6 : ∀ w ∈ wsX60, w ∈ wsX6_wipe := fun w h => List.mem_cons_of_mem _ (List.mem_append_left _ (List.mem_append_right _ h))
  have fl_10 : (Cond.fieldLink RX6 10 (TX6 0).1 (TX6 0).2.1 (TX6 0).2.2.1).before args s = true := hts (.fieldLink RX6 10 "ClapOaths" "text" "LClapOaths$Text;") (by decide +kernel)
  have fl_77 : (Cond.fieldLink RX6 77 (TX5 1).1 (TX5 1).2.1 (TX5 1).2.2.1).before args s = true := hts (.fieldLink RX6 77 "ClapOaths$Text" "length" "I") (by decide +kernel)
  unfold f_X6_wipe at hf
  refine lv_aload_n hx hb dX6_wipe_0 rfl (lv_at hl 0 rfl) ?_
  refine q_get hB hW 6 in_X6 0 rfl rfl 0 (by decide) fl_10 (v := .ref a_p0_text) rfl dX6_wipe_1 ?_
  refine q_get hB hW 5 in_X5 1 rfl rfl 1 (by decide) fl_77 (v := .int p0_text_length) rfl dX6_wipe_4 ?_
  refine lv_istore_n (lv' := [(1, .int p0_text_length), (0, .ref a_p0)]) hx hb dX6_wipe_7 rfl hl (by decide) rfl (fun ls hl => ?_)
  refine lv_aload_n hx hb dX6_wipe_8 rfl (lv_at hl 1 rfl) ?_
  refine q_get hB hW 6 in_X6 0 rfl rfl 0 (by decide) fl_10 (v := .ref a_p0_text) rfl dX6_wipe_9 ?_
  refine lv_iconst (v := 0) hx hb dX6_wipe_12 (by decide) ?_
  refine q_put hB hW 5 in_X5 tyX5 tyX5_ok nmX5 1 rfl rfl 1 (by decide) fl_77 rfl (by first | rfl | decide) (by first | rfl | decide) (Nat.le_of_ble_eq_true rfl) (ws' := [(a_p0, .inr (6, [.ref a_p0_text, .ref a_p0_reader, .ref a_p0_draft, .ref a_p0_land, .ref a_p0_now, .ref a_p0_trial, .ref a_p0_acts, .ref a_p0_hearings, .ref a_p0_kept, .int p0_keptSlots, .long p0_seedNow])), (a_p0_text, .inr (5, [.ref a_p0_text_letters, .int (0 : Int32)]))]) rfl dX6_wipe_13 (fun H locs hW => ?_)
  refine lv_iload_n hx hb dX6_wipe_16 rfl (lv_at hl 0 rfl) ?_
  exact hE _ _ _ _ _ (p0_text_length, (0 : Int32)) (sm hf) hW rfl dX6_wipe_17
def f_X1_clear (p0_persons : Int32) (p0_skies : Int32) (p0_oaths : Int32) : Option (Int32 × Int32 × Int32) := some ((0 : Int32), (0 : Int32), (0 : Int32))
set_option maxHeartbeats 4000000 in
set_option maxRecDepth 100000 in
theorem c_X1_clear (l : Launch) (D : va_G) (cI cZ : ClassId) (a_p0 a_p0_places a_p0_kinds a_p0_clapPlaces a_p0_louds a_p0_ones a_p0_others a_p0_worths a_p0_hangs : Nat) (p0_persons : Int32) (p0_skies : Int32) (p0_oaths : Int32) (q : Int32 × Int32 × Int32) (hf : f_X1_clear p0_persons p0_skies p0_oaths = some q) : CtV l D cI cZ yX1_clear wsX1_clear 0 0 [.ref a_p0] [(a_p0, .inr (1, [.ref a_p0_places, .ref a_p0_kinds, .ref a_p0_clapPlaces, .ref a_p0_louds, .ref a_p0_ones, .ref a_p0_others, .ref a_p0_worths, .ref a_p0_hangs, .int p0_persons, .int p0_skies, .int p0_oaths]))] (fun q => [(a_p0, .inr (1, [.ref a_p0_places, .ref a_p0_kinds, .ref a_p0_clapPlaces, .ref a_p0_louds, .ref a_p0_ones, .ref a_p0_others, .ref a_p0_worths, .ref a_p0_hangs, .int q.1, .int q.2.1, .int q.2.2]))]) q := by
  refine CtV.of (cc := cX1_clear) (maxL := 1) (plainFor_of_name (by decide)) rfl (Nat.le_of_ble_eq_true rfl) ?_
  intro p e s m args below meth c A Q H ls hB hE hW hl
  have hx := hB.1
  have hb := hB.2.1
  have hml := hB.2.2.2.1
  have hown : s.vm.findClass RX1 = some m.cls := hB.2.2.2.2.1
  have hts := hB.2.2.2.2.2.1
  have hK := hB.2.2.2.2.2.2.2.1.1
  have hl : lv_has ls 1 [(0, .ref a_p0)] := hl
  have in_X1 : ∀ w ∈ wsX10, w ∈ wsX1_clear := fun w h => List.mem_cons_of_mem _ (List.mem_append_right _ h)
  have fl_36 : (Cond.fieldLink RX1 36 (TX1 8).1 (TX1 8).2.1 (TX1 8).2.2.1).before args s = true := hts (.fieldLink RX1 36 "ClapOaths$County" "persons" "I") (by decide +kernel)
  have fl_40 : (Cond.fieldLink RX1 40 (TX1 9).1 (TX1 9).2.1 (TX1 9).2.2.1).before args s = true := hts (.fieldLink RX1 40 "ClapOaths$County" "skies" "I") (by decide +kernel)
  have fl_43 : (Cond.fieldLink RX1 43 (TX1 10).1 (TX1 10).2.1 (TX1 10).2.2.1).before args s = true := hts (.fieldLink RX1 43 "ClapOaths$County" "oaths" "I") (by decide +kernel)
  unfold f_X1_clear at hf
  refine lv_aload_n hx hb dX1_clear_0 rfl (lv_at hl 0 rfl) ?_
  refine lv_iconst (v := 0) hx hb dX1_clear_1 (by decide) ?_
  refine q_put hB hW 1 in_X1 tyX1 tyX1_ok nmX1 0 rfl rfl 8 (by decide) fl_36 rfl (by first | rfl | decide) (by first | rfl | decide) (Nat.le_of_ble_eq_true rfl) (ws' := [(a_p0, .inr (1, [.ref a_p0_places, .ref a_p0_kinds, .ref a_p0_clapPlaces, .ref a_p0_louds, .ref a_p0_ones, .ref a_p0_others, .ref a_p0_worths, .ref a_p0_hangs, .int (0 : Int32), .int p0_skies, .int p0_oaths]))]) rfl dX1_clear_2 (fun H locs hW => ?_)
  refine lv_aload_n hx hb dX1_clear_5 rfl (lv_at hl 0 rfl) ?_
  refine lv_iconst (v := 0) hx hb dX1_clear_6 (by decide) ?_
  refine q_put hB hW 1 in_X1 tyX1 tyX1_ok nmX1 0 rfl rfl 9 (by decide) fl_40 rfl (by first | rfl | decide) (by first | rfl | decide) (Nat.le_of_ble_eq_true rfl) (ws' := [(a_p0, .inr (1, [.ref a_p0_places, .ref a_p0_kinds, .ref a_p0_clapPlaces, .ref a_p0_louds, .ref a_p0_ones, .ref a_p0_others, .ref a_p0_worths, .ref a_p0_hangs, .int (0 : Int32), .int (0 : Int32), .int p0_oaths]))]) rfl dX1_clear_7 (fun H locs hW => ?_)
  refine lv_aload_n hx hb dX1_clear_10 rfl (lv_at hl 0 rfl) ?_
  refine lv_iconst (v := 0) hx hb dX1_clear_11 (by decide) ?_
  refine q_put hB hW 1 in_X1 tyX1 tyX1_ok nmX1 0 rfl rfl 10 (by decide) fl_43 rfl (by first | rfl | decide) (by first | rfl | decide) (Nat.le_of_ble_eq_true rfl) (ws' := [(a_p0, .inr (1, [.ref a_p0_places, .ref a_p0_kinds, .ref a_p0_clapPlaces, .ref a_p0_louds, .ref a_p0_ones, .ref a_p0_others, .ref a_p0_worths, .ref a_p0_hangs, .int (0 : Int32), .int (0 : Int32), .int (0 : Int32)]))]) rfl dX1_clear_12 (fun H locs hW => ?_)
  exact hE _ _ _ _ ((0 : Int32), (0 : Int32), (0 : Int32)) (sm hf) hW dX1_clear_15
def f_X5_letterAt (v1 : Int32) (p0_length : Int32) (p0_letters : Nat → Int32) : Option (Int32) := if v1 < (0 : Int32) then some (-1 : Int32) else if p0_length ≤ v1 then some (-1 : Int32) else if (60 : Int32) ≤ v1 then some (-1 : Int32) else (ald p0_letters 60 v1).bind fun r_4 => some r_4
set_option maxHeartbeats 4000000 in
set_option maxRecDepth 100000 in
theorem c_X5_letterAt (l : Launch) (D : va_G) (cI cZ : ClassId) (a_p0 a_p0_letters : Nat) (p0_length : Int32) (p0_letters : Nat → Int32) (v1 : Int32) (q : Int32) (hf : f_X5_letterAt v1 p0_length p0_letters = some q) : CtI l D cI cZ yX5_letterAt wsX5_letterAt 0 0 [.ref a_p0, .int v1] [(a_p0, .inr (5, [.ref a_p0_letters, .int p0_length])), (a_p0_letters, .inl (cI, 60, .inl p0_letters))] (fun q => [(a_p0, .inr (5, [.ref a_p0_letters, .int p0_length])), (a_p0_letters, .inl (cI, 60, .inl p0_letters))]) (fun q => q) q := by
  refine CtI.of (cc := cX5_letterAt) (maxL := 2) (plainFor_of_name (by decide)) rfl (Nat.le_of_ble_eq_true rfl) ?_
  intro p e s m args below meth c A Q H ls hB hE hW hl
  have hx := hB.1
  have hb := hB.2.1
  have hml := hB.2.2.2.1
  have hown : s.vm.findClass RX5 = some m.cls := hB.2.2.2.2.1
  have hts := hB.2.2.2.2.2.1
  have hK := hB.2.2.2.2.2.2.2.1.1
  have hl : lv_has ls 2 [(0, .ref a_p0), (1, .int v1)] := hl
  have in_X5 : ∀ w ∈ wsX50, w ∈ wsX5_letterAt := fun w h => List.mem_cons_of_mem _ (List.mem_append_right _ h)
  have fl_9 : (Cond.fieldLink RX5 9 (TX5 0).1 (TX5 0).2.1 (TX5 0).2.2.1).before args s = true := hts (.fieldLink RX5 9 "ClapOaths$Text" "letters" "[I") (by decide +kernel)
  have fl_15 : (Cond.fieldLink RX5 15 (TX5 1).1 (TX5 1).2.1 (TX5 1).2.2.1).before args s = true := hts (.fieldLink RX5 15 "ClapOaths$Text" "length" "I") (by decide +kernel)
  unfold f_X5_letterAt at hf
  refine lv_iload_n hx hb dX5_letterAt_0 rfl (lv_at hl 1 rfl) ?_
  refine lv_if_lt (tgt := 30) hx hb dX5_letterAt_1 (by decide) (fun c_1 => ?_) (fun c_1 => ?_)
  · have hf := it_t c_1 hf
    refine lv_iconst (v := -1) hx hb dX5_letterAt_30 (by decide) ?_
    exact hE _ _ _ _ _ (-1 : Int32) (sm hf) hW rfl dX5_letterAt_31
  · have hf := it_f c_1 hf
    refine lv_iload_n hx hb dX5_letterAt_4 rfl (lv_at hl 1 rfl) ?_
    refine lv_aload_n hx hb dX5_letterAt_5 rfl (lv_at hl 0 rfl) ?_
    refine q_get hB hW 5 in_X5 0 rfl rfl 1 (by decide) fl_15 (v := .int p0_length) rfl dX5_letterAt_6 ?_
    refine lv_icmp_ge (tgt := 30) hx hb dX5_letterAt_9 (by decide) (fun c_2 => ?_) (fun c_2 => ?_)
    · have hf := it_t c_2 hf
      refine lv_iconst (v := -1) hx hb dX5_letterAt_30 (by decide) ?_
      exact hE _ _ _ _ _ (-1 : Int32) (sm hf) hW rfl dX5_letterAt_31
    · have hf := it_f c_2 hf
      refine lv_iload_n hx hb dX5_letterAt_12 rfl (lv_at hl 1 rfl) ?_
      refine lv_aload_n hx hb dX5_letterAt_13 rfl (lv_at hl 0 rfl) ?_
      refine q_get hB hW 5 in_X5 0 rfl rfl 0 (by decide) fl_9 (v := .ref a_p0_letters) rfl dX5_letterAt_14 ?_
      refine q_alen hB hW 1 rfl (v := (60 : Int32)) rfl dX5_letterAt_17 ?_
      refine lv_icmp_ge (tgt := 30) hx hb dX5_letterAt_18 (by decide) (fun c_3 => ?_) (fun c_3 => ?_)
      · have hf := it_t c_3 hf
        refine lv_iconst (v := -1) hx hb dX5_letterAt_30 (by decide) ?_
        exact hE _ _ _ _ _ (-1 : Int32) (sm hf) hW rfl dX5_letterAt_31
      · have hf := it_f c_3 hf
        refine lv_aload_n hx hb dX5_letterAt_21 rfl (lv_at hl 0 rfl) ?_
        refine q_get hB hW 5 in_X5 0 rfl rfl 0 (by decide) fl_9 (v := .ref a_p0_letters) rfl dX5_letterAt_22 ?_
        refine lv_iload_n hx hb dX5_letterAt_25 rfl (lv_at hl 1 rfl) ?_
        obtain ⟨r_4, hr_4, hf⟩ := bnd hf
        refine q_iald hB hW 1 rfl hr_4 dX5_letterAt_26 ?_
        refine lv_goto (tgt := 31) hx hb dX5_letterAt_27 (by decide) ?_
        exact hE _ _ _ _ _ r_4 (sm hf) hW rfl dX5_letterAt_31
def f_X3_readLetter (v1 : Int32) (p0_place : Int32) (p0_stopped : Int32) (p0_text_length : Int32) (p0_text_letters : Nat → Int32) : Option (Int32 × Int32) := (f_X5_letterAt p0_place p0_text_length p0_text_letters).bind fun r_1 => if r_1 = v1 then (some (p0_place + (1 : Int32))).bind fun w_3 => some (w_3, p0_stopped) else some (p0_place, (1 : Int32))
set_option maxHeartbeats 4000000 in
set_option maxRecDepth 100000 in
theorem c_X3_readLetter (l : Launch) (D : va_G) (cI cZ : ClassId) (a_p0 a_p0_text a_p0_text_letters : Nat) (p0_place : Int32) (p0_stopped : Int32) (p0_text_length : Int32) (p0_text_letters : Nat → Int32) (v1 : Int32) (q : Int32 × Int32) (hf : f_X3_readLetter v1 p0_place p0_stopped p0_text_length p0_text_letters = some q) : CtV l D cI cZ yX3_readLetter wsX3_readLetter 1 21 [.ref a_p0, .int v1] [(a_p0, .inr (3, [.ref a_p0_text, .int p0_place, .int p0_stopped])), (a_p0_text, .inr (5, [.ref a_p0_text_letters, .int p0_text_length])), (a_p0_text_letters, .inl (cI, 60, .inl p0_text_letters))] (fun q => [(a_p0, .inr (3, [.ref a_p0_text, .int q.1, .int q.2])), (a_p0_text, .inr (5, [.ref a_p0_text_letters, .int p0_text_length])), (a_p0_text_letters, .inl (cI, 60, .inl p0_text_letters))]) q := by
  refine CtV.of (cc := cX3_readLetter) (maxL := 2) (plainFor_of_name (by decide)) rfl (Nat.le_of_ble_eq_true rfl) ?_
  intro p e s m args below meth c A Q H ls hB hE hW hl
  have hx := hB.1
  have hb := hB.2.1
  have hml := hB.2.2.2.1
  have hown : s.vm.findClass RX3 = some m.cls := hB.2.2.2.2.1
  have hts := hB.2.2.2.2.2.1
  have hK := hB.2.2.2.2.2.2.2.1.1
  have hl : lv_has ls 2 [(0, .ref a_p0), (1, .int v1)] := hl
  have in_X3 : ∀ w ∈ wsX30, w ∈ wsX3_readLetter := fun w h => List.mem_cons_of_mem _ (List.mem_append_left _ (List.mem_append_right _ h))
  have fl_9 : (Cond.fieldLink RX3 9 (TX3 0).1 (TX3 0).2.1 (TX3 0).2.2.1).before args s = true := hts (.fieldLink RX3 9 "ClapOaths$Reader" "text" "LClapOaths$Text;") (by decide +kernel)
  have fl_15 : (Cond.fieldLink RX3 15 (TX3 1).1 (TX3 1).2.1 (TX3 1).2.2.1).before args s = true := hts (.fieldLink RX3 15 "ClapOaths$Reader" "place" "I") (by decide +kernel)
  have fl_19 : (Cond.fieldLink RX3 19 (TX3 2).1 (TX3 2).2.1 (TX3 2).2.2.1).before args s = true := hts (.fieldLink RX3 19 "ClapOaths$Reader" "stopped" "Z") (by decide +kernel)
  unfold f_X3_readLetter at hf
  refine lv_aload_n hx hb dX3_readLetter_0 rfl (lv_at hl 0 rfl) ?_
  refine q_get hB hW 3 in_X3 0 rfl rfl 0 (by decide) fl_9 (v := .ref a_p0_text) rfl dX3_readLetter_1 ?_
  refine lv_aload_n hx hb dX3_readLetter_4 rfl (lv_at hl 0 rfl) ?_
  refine q_get hB hW 3 in_X3 0 rfl rfl 1 (by decide) fl_15 (v := .int p0_place) rfl dX3_readLetter_5 ?_
  obtain ⟨r_1, hr_1, hf⟩ := bnd hf
  refine q_callVI hB hW (ci := 5) (q0 := 0) rfl rfl rfl (As := [.int p0_place]) (rest := []) (ws' := [(a_p0, .inr (3, [.ref a_p0_text, .int p0_place, .int p0_stopped])), (a_p0_text, .inr (5, [.ref a_p0_text_letters, .int p0_text_length])), (a_p0_text_letters, .inl (cI, 60, .inl p0_text_letters))]) (c_X5_letterAt l D cI cZ a_p0_text a_p0_text_letters p0_text_length p0_text_letters p0_place r_1 hr_1) (cwV 1 hts gX3_readLetter_X5_letterAt rfl rfl rfl (by decide +kernel) ⟨Nat.le_of_ble_eq_true rfl, Nat.le_of_ble_eq_true rfl⟩) [1, 2] rfl rfl rfl rfl rfl hl.1 rfl (Nat.le_of_ble_eq_true rfl) ⟨Nat.le_of_ble_eq_true rfl, Nat.le_of_ble_eq_true rfl⟩ dX3_readLetter_8 (fun H locs hW => ?_)
  refine lv_iload_n hx hb dX3_readLetter_11 rfl (lv_at hl 1 rfl) ?_
  refine lv_icmp_ne (tgt := 28) hx hb dX3_readLetter_12 (by decide) (fun c_2 => ?_) (fun c_2 => ?_)
  · have hf := it_f c_2 hf
    refine lv_aload_n hx hb dX3_readLetter_28 rfl (lv_at hl 0 rfl) ?_
    refine lv_iconst (v := 1) hx hb dX3_readLetter_29 (by decide) ?_
    refine q_put hB hW 3 in_X3 tyX3 tyX3_ok nmX3 0 rfl rfl 2 (by decide) fl_19 rfl (by first | rfl | decide) (by first | rfl | decide) (Nat.le_of_ble_eq_true rfl) (ws' := [(a_p0, .inr (3, [.ref a_p0_text, .int p0_place, .int (1 : Int32)])), (a_p0_text, .inr (5, [.ref a_p0_text_letters, .int p0_text_length])), (a_p0_text_letters, .inl (cI, 60, .inl p0_text_letters))]) rfl dX3_readLetter_30 (fun H locs hW => ?_)
    exact hE _ _ _ _ (p0_place, (1 : Int32)) (sm hf) hW dX3_readLetter_33
  · have hf := it_t c_2 hf
    refine lv_aload_n hx hb dX3_readLetter_15 rfl (lv_at hl 0 rfl) ?_
    refine lv_dup hx hb dX3_readLetter_16 rfl ?_
    refine q_get hB hW 3 in_X3 0 rfl rfl 1 (by decide) fl_15 (v := .int p0_place) rfl dX3_readLetter_17 ?_
    refine lv_iconst (v := 1) hx hb dX3_readLetter_20 (by decide) ?_
    refine lv_iadd hx hb dX3_readLetter_21 ?_
    obtain ⟨w_3, hw_3, hf⟩ := bnd hf
    refine q_nmI hw_3 ?_
    refine q_put hB hW 3 in_X3 tyX3 tyX3_ok nmX3 0 rfl rfl 1 (by decide) fl_15 rfl (by first | rfl | decide) (by first | rfl | decide) (Nat.le_of_ble_eq_true rfl) (ws' := [(a_p0, .inr (3, [.ref a_p0_text, .int w_3, .int p0_stopped])), (a_p0_text, .inr (5, [.ref a_p0_text_letters, .int p0_text_length])), (a_p0_text_letters, .inl (cI, 60, .inl p0_text_letters))]) rfl dX3_readLetter_22 (fun H locs hW => ?_)
    refine lv_goto (tgt := 33) hx hb dX3_readLetter_25 (by decide) ?_
    exact hE _ _ _ _ (w_3, p0_stopped) (sm hf) hW dX3_readLetter_33
def f_X3_hasRoom (v1 : Int32) (p0_stopped : Int32) : Option (Int32 × Int32) := if v1 < (5 : Int32) then if p0_stopped = (0 : Int32) then some ((1 : Int32), p0_stopped) else some ((0 : Int32), p0_stopped) else some ((0 : Int32), (1 : Int32))
set_option maxHeartbeats 4000000 in
set_option maxRecDepth 100000 in
theorem c_X3_hasRoom (l : Launch) (D : va_G) (cI cZ : ClassId) (a_p0 a_p0_text : Nat) (p0_place : Int32) (p0_stopped : Int32) (v1 : Int32) (q : Int32 × Int32) (hf : f_X3_hasRoom v1 p0_stopped = some q) : CtZ l D cI cZ yX3_hasRoom wsX3_hasRoom 0 0 [.ref a_p0, .int v1] [(a_p0, .inr (3, [.ref a_p0_text, .int p0_place, .int p0_stopped]))] (fun q => [(a_p0, .inr (3, [.ref a_p0_text, .int p0_place, .int q.2]))]) (fun q => q.1) q := by
  refine CtZ.of (cc := cX3_hasRoom) (maxL := 2) (plainFor_of_name (by decide)) rfl (Nat.le_of_ble_eq_true rfl) ?_
  intro p e s m args below meth c A Q H ls hB hE hW hl
  have hx := hB.1
  have hb := hB.2.1
  have hml := hB.2.2.2.1
  have hown : s.vm.findClass RX3 = some m.cls := hB.2.2.2.2.1
  have hts := hB.2.2.2.2.2.1
  have hK := hB.2.2.2.2.2.2.2.1.1
  have hl : lv_has ls 2 [(0, .ref a_p0), (1, .int v1)] := hl
  have in_X3 : ∀ w ∈ wsX30, w ∈ wsX3_hasRoom := fun w h => List.mem_cons_of_mem _ (List.mem_append_right _ h)
  have fl_19 : (Cond.fieldLink RX3 19 (TX3 2).1 (TX3 2).2.1 (TX3 2).2.2.1).before args s = true := hts (.fieldLink RX3 19 "ClapOaths$Reader" "stopped" "Z") (by decide +kernel)
  unfold f_X3_hasRoom at hf
  refine lv_iload_n hx hb dX3_hasRoom_0 rfl (lv_at hl 1 rfl) ?_
  refine lv_iconst (v := 5) hx hb dX3_hasRoom_1 (by decide) ?_
  refine lv_icmp_lt (tgt := 10) hx hb dX3_hasRoom_2 (by decide) (fun c_1 => ?_) (fun c_1 => ?_)
  · have hf := it_t c_1 hf
    refine lv_aload_n hx hb dX3_hasRoom_10 rfl (lv_at hl 0 rfl) ?_
    refine q_get hB hW 3 in_X3 0 rfl rfl 2 (by decide) fl_19 (v := .int p0_stopped) rfl dX3_hasRoom_11 ?_
    refine lv_if_ne (tgt := 21) hx hb dX3_hasRoom_14 (by decide) (fun c_2 => ?_) (fun c_2 => ?_)
    · have hf := it_f c_2 hf
      refine lv_iconst (v := 0) hx hb dX3_hasRoom_21 (by decide) ?_
      exact hE _ _ _ _ _ ((0 : Int32), p0_stopped) (sm hf) hW rfl nz_0 dX3_hasRoom_22
    · have hf := it_t c_2 hf
      refine lv_iconst (v := 1) hx hb dX3_hasRoom_17 (by decide) ?_
      refine lv_goto (tgt := 22) hx hb dX3_hasRoom_18 (by decide) ?_
      exact hE _ _ _ _ _ ((1 : Int32), p0_stopped) (sm hf) hW rfl nz_1 dX3_hasRoom_22
  · have hf := it_f c_1 hf
    refine lv_aload_n hx hb dX3_hasRoom_5 rfl (lv_at hl 0 rfl) ?_
    refine lv_iconst (v := 1) hx hb dX3_hasRoom_6 (by decide) ?_
    refine q_put hB hW 3 in_X3 tyX3 tyX3_ok nmX3 0 rfl rfl 2 (by decide) fl_19 rfl (by first | rfl | decide) (by first | rfl | decide) (Nat.le_of_ble_eq_true rfl) (ws' := [(a_p0, .inr (3, [.ref a_p0_text, .int p0_place, .int (1 : Int32)]))]) rfl dX3_hasRoom_7 (fun H locs hW => ?_)
    refine lv_aload_n hx hb dX3_hasRoom_10 rfl (lv_at hl 0 rfl) ?_
    refine q_get hB hW 3 in_X3 0 rfl rfl 2 (by decide) fl_19 (v := .int (1 : Int32)) rfl dX3_hasRoom_11 ?_
    refine lv_if_ne (tgt := 21) hx hb dX3_hasRoom_14 (by decide) (fun _ => ?_) (fun c9 => absurd c9 (by decide))
    refine lv_iconst (v := 0) hx hb dX3_hasRoom_21 (by decide) ?_
    exact hE _ _ _ _ _ ((0 : Int32), (1 : Int32)) (sm hf) hW rfl nz_0 dX3_hasRoom_22
def f_X3_readFigure (v1 : Int32) (p0_place : Int32) (p0_stopped : Int32) (p0_text_length : Int32) (p0_text_letters : Nat → Int32) : Option (Int32 × Int32 × Int32) := (f_X5_letterAt p0_place p0_text_length p0_text_letters).bind fun r_1 => (some (r_1 - (48 : Int32))).bind fun w_2 => if p0_stopped = (0 : Int32) then (f_X6_within w_2 (0 : Int32) v1).bind fun r_4 => if r_4 = (0 : Int32) then some ((0 : Int32), p0_place, (1 : Int32)) else (some (p0_place + (1 : Int32))).bind fun w_6 => some (w_2, w_6, p0_stopped) else some ((0 : Int32), p0_place, (1 : Int32))
set_option maxHeartbeats 4000000 in
set_option maxRecDepth 100000 in
theorem c_X3_readFigure (l : Launch) (D : va_G) (cI cZ : ClassId) (a_p0 a_p0_text a_p0_text_letters : Nat) (p0_place : Int32) (p0_stopped : Int32) (p0_text_length : Int32) (p0_text_letters : Nat → Int32) (v1 : Int32) (q : Int32 × Int32 × Int32) (hf : f_X3_readFigure v1 p0_place p0_stopped p0_text_length p0_text_letters = some q) : CtI l D cI cZ yX3_readFigure wsX3_readFigure 1 22 [.ref a_p0, .int v1] [(a_p0, .inr (3, [.ref a_p0_text, .int p0_place, .int p0_stopped])), (a_p0_text, .inr (5, [.ref a_p0_text_letters, .int p0_text_length])), (a_p0_text_letters, .inl (cI, 60, .inl p0_text_letters))] (fun q => [(a_p0, .inr (3, [.ref a_p0_text, .int q.2.1, .int q.2.2])), (a_p0_text, .inr (5, [.ref a_p0_text_letters, .int p0_text_length])), (a_p0_text_letters, .inl (cI, 60, .inl p0_text_letters))]) (fun q => q.1) q := by
  refine CtI.of (cc := cX3_readFigure) (maxL := 3) (plainFor_of_name (by decide)) rfl (Nat.le_of_ble_eq_true rfl) ?_
  intro p e s m args below meth c A Q H ls hB hE hW hl
  have hx := hB.1
  have hb := hB.2.1
  have hml := hB.2.2.2.1
  have hown : s.vm.findClass RX3 = some m.cls := hB.2.2.2.2.1
  have hts := hB.2.2.2.2.2.1
  have hK := hB.2.2.2.2.2.2.2.1.1
  have hl : lv_has ls 3 [(0, .ref a_p0), (1, .int v1)] := hl
  have in_X3 : ∀ w ∈ wsX30, w ∈ wsX3_readFigure := fun w h => List.mem_cons_of_mem _ (List.mem_append_left _ (List.mem_append_right _ h))
  have fl_9 : (Cond.fieldLink RX3 9 (TX3 0).1 (TX3 0).2.1 (TX3 0).2.2.1).before args s = true := hts (.fieldLink RX3 9 "ClapOaths$Reader" "text" "LClapOaths$Text;") (by decide +kernel)
  have fl_15 : (Cond.fieldLink RX3 15 (TX3 1).1 (TX3 1).2.1 (TX3 1).2.2.1).before args s = true := hts (.fieldLink RX3 15 "ClapOaths$Reader" "place" "I") (by decide +kernel)
  have fl_19 : (Cond.fieldLink RX3 19 (TX3 2).1 (TX3 2).2.1 (TX3 2).2.2.1).before args s = true := hts (.fieldLink RX3 19 "ClapOaths$Reader" "stopped" "Z") (by decide +kernel)
  unfold f_X3_readFigure at hf
  refine lv_aload_n hx hb dX3_readFigure_0 rfl (lv_at hl 0 rfl) ?_
  refine q_get hB hW 3 in_X3 0 rfl rfl 0 (by decide) fl_9 (v := .ref a_p0_text) rfl dX3_readFigure_1 ?_
  refine lv_aload_n hx hb dX3_readFigure_4 rfl (lv_at hl 0 rfl) ?_
  refine q_get hB hW 3 in_X3 0 rfl rfl 1 (by decide) fl_15 (v := .int p0_place) rfl dX3_readFigure_5 ?_
  obtain ⟨r_1, hr_1, hf⟩ := bnd hf
  refine q_callVI hB hW (ci := 5) (q0 := 0) rfl rfl rfl (As := [.int p0_place]) (rest := []) (ws' := [(a_p0, .inr (3, [.ref a_p0_text, .int p0_place, .int p0_stopped])), (a_p0_text, .inr (5, [.ref a_p0_text_letters, .int p0_text_length])), (a_p0_text_letters, .inl (cI, 60, .inl p0_text_letters))]) (c_X5_letterAt l D cI cZ a_p0_text a_p0_text_letters p0_text_length p0_text_letters p0_place r_1 hr_1) (cwV 1 hts gX3_readFigure_X5_letterAt rfl rfl rfl (by decide +kernel) ⟨Nat.le_of_ble_eq_true rfl, Nat.le_of_ble_eq_true rfl⟩) [1, 2] rfl rfl rfl rfl rfl hl.1 rfl (Nat.le_of_ble_eq_true rfl) ⟨Nat.le_of_ble_eq_true rfl, Nat.le_of_ble_eq_true rfl⟩ dX3_readFigure_8 (fun H locs hW => ?_)
  refine lv_bipush (v := 48) hx hb dX3_readFigure_11 (by decide) ?_
  refine lv_isub hx hb dX3_readFigure_13 ?_
  obtain ⟨w_2, hw_2, hf⟩ := bnd hf
  refine q_nmI hw_2 ?_
  refine lv_istore_n (lv' := [(2, .int w_2), (0, .ref a_p0), (1, .int v1)]) hx hb dX3_readFigure_14 rfl hl (by decide) rfl (fun ls hl => ?_)
  refine lv_aload_n hx hb dX3_readFigure_15 rfl (lv_at hl 1 rfl) ?_
  refine q_get hB hW 3 in_X3 0 rfl rfl 2 (by decide) fl_19 (v := .int p0_stopped) rfl dX3_readFigure_16 ?_
  refine lv_if_ne (tgt := 31) hx hb dX3_readFigure_19 (by decide) (fun c_3 => ?_) (fun c_3 => ?_)
  · have hf := it_f c_3 hf
    refine lv_aload_n hx hb dX3_readFigure_31 rfl (lv_at hl 1 rfl) ?_
    refine lv_iconst (v := 1) hx hb dX3_readFigure_32 (by decide) ?_
    refine q_put hB hW 3 in_X3 tyX3 tyX3_ok nmX3 0 rfl rfl 2 (by decide) fl_19 rfl (by first | rfl | decide) (by first | rfl | decide) (Nat.le_of_ble_eq_true rfl) (ws' := [(a_p0, .inr (3, [.ref a_p0_text, .int p0_place, .int (1 : Int32)])), (a_p0_text, .inr (5, [.ref a_p0_text_letters, .int p0_text_length])), (a_p0_text_letters, .inl (cI, 60, .inl p0_text_letters))]) rfl dX3_readFigure_33 (fun H locs hW => ?_)
    refine lv_iconst (v := 0) hx hb dX3_readFigure_36 (by decide) ?_
    exact hE _ _ _ _ _ ((0 : Int32), p0_place, (1 : Int32)) (sm hf) hW rfl dX3_readFigure_37
  · have hf := it_t c_3 hf
    refine lv_iload_n hx hb dX3_readFigure_22 rfl (lv_at hl 0 rfl) ?_
    refine lv_iconst (v := 0) hx hb dX3_readFigure_23 (by decide) ?_
    refine lv_iload_n hx hb dX3_readFigure_24 rfl (lv_at hl 2 rfl) ?_
    obtain ⟨r_4, hr_4, hf⟩ := bnd hf
    refine q_callNZ hB hW (As := [.int w_2, .int (0 : Int32), .int v1]) (rest := []) (ws' := [(a_p0, .inr (3, [.ref a_p0_text, .int p0_place, .int p0_stopped])), (a_p0_text, .inr (5, [.ref a_p0_text_letters, .int p0_text_length])), (a_p0_text_letters, .inl (cI, 60, .inl p0_text_letters))]) (c_X6_within l D cI cZ w_2 (0 : Int32) v1 r_4 hr_4) ⟨va_cnB 3 hts gX3_readFigure_X6_within_n88 rfl rfl rfl (hB.2.2.2.2.2.2.2.1.2 (RX3, 88, yX6_within, RX6) (by decide +kernel)) (hts (.initialized RX6) (by decide +kernel)) (by decide +kernel) ⟨Nat.le_of_ble_eq_true rfl, Nat.le_of_ble_eq_true rfl⟩, hts (.static yX6_within) (by decide +kernel), trivial⟩ [] rfl rfl rfl rfl rfl hl.1 rfl (Nat.le_of_ble_eq_true rfl) ⟨Nat.le_of_ble_eq_true rfl, Nat.le_of_ble_eq_true rfl⟩ dX3_readFigure_25 (fun hzr_4 H locs hW => ?_)
    refine lv_if_ne (tgt := 38) hx hb dX3_readFigure_28 (by decide) (fun c_5 => ?_) (fun c_5 => ?_)
    · have hf := it_f c_5 hf
      refine lv_aload_n hx hb dX3_readFigure_38 rfl (lv_at hl 1 rfl) ?_
      refine lv_dup hx hb dX3_readFigure_39 rfl ?_
      refine q_get hB hW 3 in_X3 0 rfl rfl 1 (by decide) fl_15 (v := .int p0_place) rfl dX3_readFigure_40 ?_
      refine lv_iconst (v := 1) hx hb dX3_readFigure_43 (by decide) ?_
      refine lv_iadd hx hb dX3_readFigure_44 ?_
      obtain ⟨w_6, hw_6, hf⟩ := bnd hf
      refine q_nmI hw_6 ?_
      refine q_put hB hW 3 in_X3 tyX3 tyX3_ok nmX3 0 rfl rfl 1 (by decide) fl_15 rfl (by first | rfl | decide) (by first | rfl | decide) (Nat.le_of_ble_eq_true rfl) (ws' := [(a_p0, .inr (3, [.ref a_p0_text, .int w_6, .int p0_stopped])), (a_p0_text, .inr (5, [.ref a_p0_text_letters, .int p0_text_length])), (a_p0_text_letters, .inl (cI, 60, .inl p0_text_letters))]) rfl dX3_readFigure_45 (fun H locs hW => ?_)
      refine lv_iload_n hx hb dX3_readFigure_48 rfl (lv_at hl 0 rfl) ?_
      exact hE _ _ _ _ _ (w_2, w_6, p0_stopped) (sm hf) hW rfl dX3_readFigure_49
    · have hf := it_t c_5 hf
      refine lv_aload_n hx hb dX3_readFigure_31 rfl (lv_at hl 1 rfl) ?_
      refine lv_iconst (v := 1) hx hb dX3_readFigure_32 (by decide) ?_
      refine q_put hB hW 3 in_X3 tyX3 tyX3_ok nmX3 0 rfl rfl 2 (by decide) fl_19 rfl (by first | rfl | decide) (by first | rfl | decide) (Nat.le_of_ble_eq_true rfl) (ws' := [(a_p0, .inr (3, [.ref a_p0_text, .int p0_place, .int (1 : Int32)])), (a_p0_text, .inr (5, [.ref a_p0_text_letters, .int p0_text_length])), (a_p0_text_letters, .inl (cI, 60, .inl p0_text_letters))]) rfl dX3_readFigure_33 (fun H locs hW => ?_)
      refine lv_iconst (v := 0) hx hb dX3_readFigure_36 (by decide) ?_
      exact hE _ _ _ _ _ ((0 : Int32), p0_place, (1 : Int32)) (sm hf) hW rfl dX3_readFigure_37
def f_X1_addPerson (v1 : Int32) (v2 : Int32) (p0_persons : Int32) (p0_places : Nat → Int32) (p0_kinds : Nat → Int32) : Option (Int32 × (Nat → Int32) × (Nat → Int32)) := (f_X6_put 5 p0_persons v1 p0_places).bind fun r_1 => (f_X6_put 5 p0_persons v2 p0_kinds).bind fun r_2 => (some (p0_persons + (1 : Int32))).bind fun w_3 => some (w_3, r_1, r_2)
set_option maxHeartbeats 4000000 in
set_option maxRecDepth 100000 in
theorem c_X1_addPerson (l : Launch) (D : va_G) (cI cZ : ClassId) (a_p0 a_p0_places a_p0_kinds a_p0_clapPlaces a_p0_louds a_p0_ones a_p0_others a_p0_worths a_p0_hangs : Nat) (p0_persons : Int32) (p0_skies : Int32) (p0_oaths : Int32) (p0_places : Nat → Int32) (p0_kinds : Nat → Int32) (v1 : Int32) (v2 : Int32) (q : Int32 × (Nat → Int32) × (Nat → Int32)) (hf : f_X1_addPerson v1 v2 p0_persons p0_places p0_kinds = some q) : CtV l D cI cZ yX1_addPerson wsX1_addPerson 1 22 [.ref a_p0, .int v1, .int v2] [(a_p0, .inr (1, [.ref a_p0_places, .ref a_p0_kinds, .ref a_p0_clapPlaces, .ref a_p0_louds, .ref a_p0_ones, .ref a_p0_others, .ref a_p0_worths, .ref a_p0_hangs, .int p0_persons, .int p0_skies, .int p0_oaths])), (a_p0_places, .inl (cI, 5, .inl p0_places)), (a_p0_kinds, .inl (cI, 5, .inl p0_kinds))] (fun q => [(a_p0, .inr (1, [.ref a_p0_places, .ref a_p0_kinds, .ref a_p0_clapPlaces, .ref a_p0_louds, .ref a_p0_ones, .ref a_p0_others, .ref a_p0_worths, .ref a_p0_hangs, .int q.1, .int p0_skies, .int p0_oaths])), (a_p0_places, .inl (cI, 5, .inl q.2.1)), (a_p0_kinds, .inl (cI, 5, .inl q.2.2))]) q := by
  refine CtV.of (cc := cX1_addPerson) (maxL := 3) (plainFor_of_name (by decide)) rfl (Nat.le_of_ble_eq_true rfl) ?_
  intro p e s m args below meth c A Q H ls hB hE hW hl
  have hx := hB.1
  have hb := hB.2.1
  have hml := hB.2.2.2.1
  have hown : s.vm.findClass RX1 = some m.cls := hB.2.2.2.2.1
  have hts := hB.2.2.2.2.2.1
  have hK := hB.2.2.2.2.2.2.2.1.1
  have hl : lv_has ls 3 [(0, .ref a_p0), (1, .int v1), (2, .int v2)] := hl
  have in_X1 : ∀ w ∈ wsX10, w ∈ wsX1_addPerson := fun w h => List.mem_cons_of_mem _ (List.mem_append_right _ h)
  have fl_9 : (Cond.fieldLink RX1 9 (TX1 0).1 (TX1 0).2.1 (TX1 0).2.2.1).before args s = true := hts (.fieldLink RX1 9 "ClapOaths$County" "places" "[I") (by decide +kernel)
  have fl_15 : (Cond.fieldLink RX1 15 (TX1 1).1 (TX1 1).2.1 (TX1 1).2.2.1).before args s = true := hts (.fieldLink RX1 15 "ClapOaths$County" "kinds" "[I") (by decide +kernel)
  have fl_36 : (Cond.fieldLink RX1 36 (TX1 8).1 (TX1 8).2.1 (TX1 8).2.2.1).before args s = true := hts (.fieldLink RX1 36 "ClapOaths$County" "persons" "I") (by decide +kernel)
  unfold f_X1_addPerson at hf
  refine lv_aload_n hx hb dX1_addPerson_0 rfl (lv_at hl 0 rfl) ?_
  refine q_get hB hW 1 in_X1 0 rfl rfl 0 (by decide) fl_9 (v := .ref a_p0_places) rfl dX1_addPerson_1 ?_
  refine lv_aload_n hx hb dX1_addPerson_4 rfl (lv_at hl 0 rfl) ?_
  refine q_get hB hW 1 in_X1 0 rfl rfl 8 (by decide) fl_36 (v := .int p0_persons) rfl dX1_addPerson_5 ?_
  refine lv_iload_n hx hb dX1_addPerson_8 rfl (lv_at hl 1 rfl) ?_
  obtain ⟨r_1, hr_1, hf⟩ := bnd hf
  refine q_callNV hB hW (As := [.ref a_p0_places, .int p0_persons, .int v1]) (rest := []) (ws' := [(a_p0, .inr (1, [.ref a_p0_places, .ref a_p0_kinds, .ref a_p0_clapPlaces, .ref a_p0_louds, .ref a_p0_ones, .ref a_p0_others, .ref a_p0_worths, .ref a_p0_hangs, .int p0_persons, .int p0_skies, .int p0_oaths])), (a_p0_places, .inl (cI, 5, .inl r_1)), (a_p0_kinds, .inl (cI, 5, .inl p0_kinds))]) (c_X6_put l D cI cZ a_p0_places 5 p0_places p0_persons v1 r_1 hr_1) ⟨va_cnB 3 hts gX1_addPerson_X6_put_n46 rfl rfl rfl (hB.2.2.2.2.2.2.2.1.2 (RX1, 46, yX6_put, RX6) (by decide +kernel)) (hts (.initialized RX6) (by decide +kernel)) (by decide +kernel) ⟨Nat.le_of_ble_eq_true rfl, Nat.le_of_ble_eq_true rfl⟩, hts (.static yX6_put) (by decide +kernel), trivial⟩ [1] rfl rfl rfl rfl rfl hl.1 rfl (Nat.le_of_ble_eq_true rfl) ⟨Nat.le_of_ble_eq_true rfl, Nat.le_of_ble_eq_true rfl⟩ dX1_addPerson_9 (fun H locs hW => ?_)
  refine lv_aload_n hx hb dX1_addPerson_12 rfl (lv_at hl 0 rfl) ?_
  refine q_get hB hW 1 in_X1 0 rfl rfl 1 (by decide) fl_15 (v := .ref a_p0_kinds) rfl dX1_addPerson_13 ?_
  refine lv_aload_n hx hb dX1_addPerson_16 rfl (lv_at hl 0 rfl) ?_
  refine q_get hB hW 1 in_X1 0 rfl rfl 8 (by decide) fl_36 (v := .int p0_persons) rfl dX1_addPerson_17 ?_
  refine lv_iload_n hx hb dX1_addPerson_20 rfl (lv_at hl 2 rfl) ?_
  obtain ⟨r_2, hr_2, hf⟩ := bnd hf
  refine q_callNV hB hW (As := [.ref a_p0_kinds, .int p0_persons, .int v2]) (rest := []) (ws' := [(a_p0, .inr (1, [.ref a_p0_places, .ref a_p0_kinds, .ref a_p0_clapPlaces, .ref a_p0_louds, .ref a_p0_ones, .ref a_p0_others, .ref a_p0_worths, .ref a_p0_hangs, .int p0_persons, .int p0_skies, .int p0_oaths])), (a_p0_places, .inl (cI, 5, .inl r_1)), (a_p0_kinds, .inl (cI, 5, .inl r_2))]) (c_X6_put l D cI cZ a_p0_kinds 5 p0_kinds p0_persons v2 r_2 hr_2) ⟨va_cnB 3 hts gX1_addPerson_X6_put_n46 rfl rfl rfl (hB.2.2.2.2.2.2.2.1.2 (RX1, 46, yX6_put, RX6) (by decide +kernel)) (hts (.initialized RX6) (by decide +kernel)) (by decide +kernel) ⟨Nat.le_of_ble_eq_true rfl, Nat.le_of_ble_eq_true rfl⟩, hts (.static yX6_put) (by decide +kernel), trivial⟩ [2] rfl rfl rfl rfl rfl hl.1 rfl (Nat.le_of_ble_eq_true rfl) ⟨Nat.le_of_ble_eq_true rfl, Nat.le_of_ble_eq_true rfl⟩ dX1_addPerson_21 (fun H locs hW => ?_)
  refine lv_aload_n hx hb dX1_addPerson_24 rfl (lv_at hl 0 rfl) ?_
  refine lv_dup hx hb dX1_addPerson_25 rfl ?_
  refine q_get hB hW 1 in_X1 0 rfl rfl 8 (by decide) fl_36 (v := .int p0_persons) rfl dX1_addPerson_26 ?_
  refine lv_iconst (v := 1) hx hb dX1_addPerson_29 (by decide) ?_
  refine lv_iadd hx hb dX1_addPerson_30 ?_
  obtain ⟨w_3, hw_3, hf⟩ := bnd hf
  refine q_nmI hw_3 ?_
  refine q_put hB hW 1 in_X1 tyX1 tyX1_ok nmX1 0 rfl rfl 8 (by decide) fl_36 rfl (by first | rfl | decide) (by first | rfl | decide) (Nat.le_of_ble_eq_true rfl) (ws' := [(a_p0, .inr (1, [.ref a_p0_places, .ref a_p0_kinds, .ref a_p0_clapPlaces, .ref a_p0_louds, .ref a_p0_ones, .ref a_p0_others, .ref a_p0_worths, .ref a_p0_hangs, .int w_3, .int p0_skies, .int p0_oaths])), (a_p0_places, .inl (cI, 5, .inl r_1)), (a_p0_kinds, .inl (cI, 5, .inl r_2))]) rfl dX1_addPerson_31 (fun H locs hW => ?_)
  exact hE _ _ _ _ (w_3, r_1, r_2) (sm hf) hW dX1_addPerson_34
def f_X3_readPerson (p0_place : Int32) (p0_stopped : Int32) (p0_text_length : Int32) (p0_text_letters : Nat → Int32) (p1_persons : Int32) (p1_places : Nat → Int32) (p1_kinds : Nat → Int32) : Option (Int32 × Int32 × Int32 × (Nat → Int32) × (Nat → Int32)) := (f_X3_hasRoom p1_persons p0_stopped).bind fun r_1 => if r_1.1 = (0 : Int32) then some (p0_place, r_1.2, p1_persons, p1_places, p1_kinds) else (some (p0_place + (1 : Int32))).bind fun w_3 => (f_X3_readFigure (9 : Int32) w_3 r_1.2 p0_text_length p0_text_letters).bind fun r_4 => (f_X3_readFigure (3 : Int32) r_4.2.1 r_4.2.2 p0_text_length p0_text_letters).bind fun r_5 => if r_5.2.2 = (0 : Int32) then (f_X1_addPerson r_4.1 r_5.1 p1_persons p1_places p1_kinds).bind fun r_7 => some (r_5.2.1, r_5.2.2, r_7.1, r_7.2.1, r_7.2.2) else some (r_5.2.1, r_5.2.2, p1_persons, p1_places, p1_kinds)
set_option maxHeartbeats 4000000 in
set_option maxRecDepth 100000 in
theorem c_X3_readPerson (l : Launch) (D : va_G) (cI cZ : ClassId) (a_p0 a_p1 a_p0_text a_p0_text_letters a_p1_places a_p1_kinds a_p1_clapPlaces a_p1_louds a_p1_ones a_p1_others a_p1_worths a_p1_hangs : Nat) (p0_place : Int32) (p0_stopped : Int32) (p0_text_length : Int32) (p0_text_letters : Nat → Int32) (p1_persons : Int32) (p1_skies : Int32) (p1_oaths : Int32) (p1_places : Nat → Int32) (p1_kinds : Nat → Int32) (q : Int32 × Int32 × Int32 × (Nat → Int32) × (Nat → Int32)) (hf : f_X3_readPerson p0_place p0_stopped p0_text_length p0_text_letters p1_persons p1_places p1_kinds = some q) : CtV l D cI cZ yX3_readPerson wsX3_readPerson 2 44 [.ref a_p0, .ref a_p1] [(a_p0, .inr (3, [.ref a_p0_text, .int p0_place, .int p0_stopped])), (a_p0_text, .inr (5, [.ref a_p0_text_letters, .int p0_text_length])), (a_p0_text_letters, .inl (cI, 60, .inl p0_text_letters)), (a_p1, .inr (1, [.ref a_p1_places, .ref a_p1_kinds, .ref a_p1_clapPlaces, .ref a_p1_louds, .ref a_p1_ones, .ref a_p1_others, .ref a_p1_worths, .ref a_p1_hangs, .int p1_persons, .int p1_skies, .int p1_oaths])), (a_p1_places, .inl (cI, 5, .inl p1_places)), (a_p1_kinds, .inl (cI, 5, .inl p1_kinds))] (fun q => [(a_p0, .inr (3, [.ref a_p0_text, .int q.1, .int q.2.1])), (a_p0_text, .inr (5, [.ref a_p0_text_letters, .int p0_text_length])), (a_p0_text_letters, .inl (cI, 60, .inl p0_text_letters)), (a_p1, .inr (1, [.ref a_p1_places, .ref a_p1_kinds, .ref a_p1_clapPlaces, .ref a_p1_louds, .ref a_p1_ones, .ref a_p1_others, .ref a_p1_worths, .ref a_p1_hangs, .int q.2.2.1, .int p1_skies, .int p1_oaths])), (a_p1_places, .inl (cI, 5, .inl q.2.2.2.1)), (a_p1_kinds, .inl (cI, 5, .inl q.2.2.2.2))]) q := by
  refine CtV.of (cc := cX3_readPerson) (maxL := 4) (plainFor_of_name (by decide)) rfl (Nat.le_of_ble_eq_true rfl) ?_
  intro p e s m args below meth c A Q H ls hB hE hW hl
  have hx := hB.1
  have hb := hB.2.1
  have hml := hB.2.2.2.1
  have hown : s.vm.findClass RX3 = some m.cls := hB.2.2.2.2.1
  have hts := hB.2.2.2.2.2.1
  have hK := hB.2.2.2.2.2.2.2.1.1
  have hl : lv_has ls 4 [(0, .ref a_p0), (1, .ref a_p1)] := hl
  have in_X1 : ∀ w ∈ wsX10, w ∈ wsX3_readPerson := fun w h => List.mem_cons_of_mem _ (List.mem_append_left _ (List.mem_append_left _ (List.mem_append_right _ h)))
  have in_X3 : ∀ w ∈ wsX30, w ∈ wsX3_readPerson := fun w h => List.mem_cons_of_mem _ (List.mem_append_left _ (List.mem_append_right _ h))
  have fl_15 : (Cond.fieldLink RX3 15 (TX3 1).1 (TX3 1).2.1 (TX3 1).2.2.1).before args s = true := hts (.fieldLink RX3 15 "ClapOaths$Reader" "place" "I") (by decide +kernel)
  have fl_19 : (Cond.fieldLink RX3 19 (TX3 2).1 (TX3 2).2.1 (TX3 2).2.2.1).before args s = true := hts (.fieldLink RX3 19 "ClapOaths$Reader" "stopped" "Z") (by decide +kernel)
  have fl_65 : (Cond.fieldLink RX3 65 (TX1 8).1 (TX1 8).2.1 (TX1 8).2.2.1).before args s = true := hts (.fieldLink RX3 65 "ClapOaths$County" "persons" "I") (by decide +kernel)
  unfold f_X3_readPerson at hf
  refine lv_aload_n hx hb dX3_readPerson_0 rfl (lv_at hl 0 rfl) ?_
  refine lv_aload_n hx hb dX3_readPerson_1 rfl (lv_at hl 1 rfl) ?_
  refine q_get hB hW 1 in_X1 3 rfl rfl 8 (by decide) fl_65 (v := .int p1_persons) rfl dX3_readPerson_2 ?_
  obtain ⟨r_1, hr_1, hf⟩ := bnd hf
  refine q_callVZ hB hW (ci := 3) (q0 := 0) rfl rfl rfl (As := [.int p1_persons]) (rest := []) (ws' := [(a_p0, .inr (3, [.ref a_p0_text, .int p0_place, .int r_1.2])), (a_p0_text, .inr (5, [.ref a_p0_text_letters, .int p0_text_length])), (a_p0_text_letters, .inl (cI, 60, .inl p0_text_letters)), (a_p1, .inr (1, [.ref a_p1_places, .ref a_p1_kinds, .ref a_p1_clapPlaces, .ref a_p1_louds, .ref a_p1_ones, .ref a_p1_others, .ref a_p1_worths, .ref a_p1_hangs, .int p1_persons, .int p1_skies, .int p1_oaths])), (a_p1_places, .inl (cI, 5, .inl p1_places)), (a_p1_kinds, .inl (cI, 5, .inl p1_kinds))]) (c_X3_hasRoom l D cI cZ a_p0 a_p0_text p0_place p0_stopped p1_persons r_1 hr_1) (cwV 1 hts gX3_readPerson_X3_hasRoom rfl rfl rfl (by decide +kernel) ⟨Nat.le_of_ble_eq_true rfl, Nat.le_of_ble_eq_true rfl⟩) [0] rfl rfl rfl rfl rfl hl.1 rfl (Nat.le_of_ble_eq_true rfl) ⟨Nat.le_of_ble_eq_true rfl, Nat.le_of_ble_eq_true rfl⟩ dX3_readPerson_5 (fun hzr_1 H locs hW => ?_)
  refine lv_if_eq (tgt := 47) hx hb dX3_readPerson_8 (by decide) (fun c_2 => ?_) (fun c_2 => ?_)
  · have hf := it_t c_2 hf
    exact hE _ _ _ _ (p0_place, r_1.2, p1_persons, p1_places, p1_kinds) (sm hf) hW dX3_readPerson_47
  · have hf := it_f c_2 hf
    refine lv_aload_n hx hb dX3_readPerson_11 rfl (lv_at hl 0 rfl) ?_
    refine lv_dup hx hb dX3_readPerson_12 rfl ?_
    refine q_get hB hW 3 in_X3 0 rfl rfl 1 (by decide) fl_15 (v := .int p0_place) rfl dX3_readPerson_13 ?_
    refine lv_iconst (v := 1) hx hb dX3_readPerson_16 (by decide) ?_
    refine lv_iadd hx hb dX3_readPerson_17 ?_
    obtain ⟨w_3, hw_3, hf⟩ := bnd hf
    refine q_nmI hw_3 ?_
    refine q_put hB hW 3 in_X3 tyX3 tyX3_ok nmX3 0 rfl rfl 1 (by decide) fl_15 rfl (by first | rfl | decide) (by first | rfl | decide) (Nat.le_of_ble_eq_true rfl) (ws' := [(a_p0, .inr (3, [.ref a_p0_text, .int w_3, .int r_1.2])), (a_p0_text, .inr (5, [.ref a_p0_text_letters, .int p0_text_length])), (a_p0_text_letters, .inl (cI, 60, .inl p0_text_letters)), (a_p1, .inr (1, [.ref a_p1_places, .ref a_p1_kinds, .ref a_p1_clapPlaces, .ref a_p1_louds, .ref a_p1_ones, .ref a_p1_others, .ref a_p1_worths, .ref a_p1_hangs, .int p1_persons, .int p1_skies, .int p1_oaths])), (a_p1_places, .inl (cI, 5, .inl p1_places)), (a_p1_kinds, .inl (cI, 5, .inl p1_kinds))]) rfl dX3_readPerson_18 (fun H locs hW => ?_)
    refine lv_aload_n hx hb dX3_readPerson_21 rfl (lv_at hl 0 rfl) ?_
    refine lv_bipush (v := 9) hx hb dX3_readPerson_22 (by decide) ?_
    obtain ⟨r_4, hr_4, hf⟩ := bnd hf
    refine q_callVI hB hW (ci := 3) (q0 := 0) rfl rfl rfl (As := [.int (9 : Int32)]) (rest := []) (ws' := [(a_p0, .inr (3, [.ref a_p0_text, .int r_4.2.1, .int r_4.2.2])), (a_p0_text, .inr (5, [.ref a_p0_text_letters, .int p0_text_length])), (a_p0_text_letters, .inl (cI, 60, .inl p0_text_letters)), (a_p1, .inr (1, [.ref a_p1_places, .ref a_p1_kinds, .ref a_p1_clapPlaces, .ref a_p1_louds, .ref a_p1_ones, .ref a_p1_others, .ref a_p1_worths, .ref a_p1_hangs, .int p1_persons, .int p1_skies, .int p1_oaths])), (a_p1_places, .inl (cI, 5, .inl p1_places)), (a_p1_kinds, .inl (cI, 5, .inl p1_kinds))]) (c_X3_readFigure l D cI cZ a_p0 a_p0_text a_p0_text_letters w_3 r_1.2 p0_text_length p0_text_letters (9 : Int32) r_4 hr_4) (cwV 1 hts gX3_readPerson_X3_readFigure rfl rfl rfl (by decide +kernel) ⟨Nat.le_of_ble_eq_true rfl, Nat.le_of_ble_eq_true rfl⟩) [0, 1, 2] rfl rfl rfl rfl rfl hl.1 rfl (Nat.le_of_ble_eq_true rfl) ⟨Nat.le_of_ble_eq_true rfl, Nat.le_of_ble_eq_true rfl⟩ dX3_readPerson_24 (fun H locs hW => ?_)
    refine lv_istore_n (lv' := [(2, .int r_4.1), (0, .ref a_p0), (1, .ref a_p1)]) hx hb dX3_readPerson_27 rfl hl (by decide) rfl (fun ls hl => ?_)
    refine lv_aload_n hx hb dX3_readPerson_28 rfl (lv_at hl 1 rfl) ?_
    refine lv_iconst (v := 3) hx hb dX3_readPerson_29 (by decide) ?_
    obtain ⟨r_5, hr_5, hf⟩ := bnd hf
    refine q_callVI hB hW (ci := 3) (q0 := 0) rfl rfl rfl (As := [.int (3 : Int32)]) (rest := []) (ws' := [(a_p0, .inr (3, [.ref a_p0_text, .int r_5.2.1, .int r_5.2.2])), (a_p0_text, .inr (5, [.ref a_p0_text_letters, .int p0_text_length])), (a_p0_text_letters, .inl (cI, 60, .inl p0_text_letters)), (a_p1, .inr (1, [.ref a_p1_places, .ref a_p1_kinds, .ref a_p1_clapPlaces, .ref a_p1_louds, .ref a_p1_ones, .ref a_p1_others, .ref a_p1_worths, .ref a_p1_hangs, .int p1_persons, .int p1_skies, .int p1_oaths])), (a_p1_places, .inl (cI, 5, .inl p1_places)), (a_p1_kinds, .inl (cI, 5, .inl p1_kinds))]) (c_X3_readFigure l D cI cZ a_p0 a_p0_text a_p0_text_letters r_4.2.1 r_4.2.2 p0_text_length p0_text_letters (3 : Int32) r_5 hr_5) (cwV 1 hts gX3_readPerson_X3_readFigure rfl rfl rfl (by decide +kernel) ⟨Nat.le_of_ble_eq_true rfl, Nat.le_of_ble_eq_true rfl⟩) [0, 1, 2] rfl rfl rfl rfl rfl hl.1 rfl (Nat.le_of_ble_eq_true rfl) ⟨Nat.le_of_ble_eq_true rfl, Nat.le_of_ble_eq_true rfl⟩ dX3_readPerson_30 (fun H locs hW => ?_)
    refine lv_istore_n (lv' := [(3, .int r_5.1), (2, .int r_4.1), (0, .ref a_p0), (1, .ref a_p1)]) hx hb dX3_readPerson_33 rfl hl (by decide) rfl (fun ls hl => ?_)
    refine lv_aload_n hx hb dX3_readPerson_34 rfl (lv_at hl 2 rfl) ?_
    refine q_get hB hW 3 in_X3 0 rfl rfl 2 (by decide) fl_19 (v := .int r_5.2.2) rfl dX3_readPerson_35 ?_
    refine lv_if_ne (tgt := 47) hx hb dX3_readPerson_38 (by decide) (fun c_6 => ?_) (fun c_6 => ?_)
    · have hf := it_f c_6 hf
      exact hE _ _ _ _ (r_5.2.1, r_5.2.2, p1_persons, p1_places, p1_kinds) (sm hf) hW dX3_readPerson_47
    · have hf := it_t c_6 hf
      refine lv_aload_n hx hb dX3_readPerson_41 rfl (lv_at hl 3 rfl) ?_
      refine lv_iload_n hx hb dX3_readPerson_42 rfl (lv_at hl 1 rfl) ?_
      refine lv_iload_n hx hb dX3_readPerson_43 rfl (lv_at hl 0 rfl) ?_
      obtain ⟨r_7, hr_7, hf⟩ := bnd hf
      refine q_callVV hB hW (ci := 1) (q0 := 0) rfl rfl rfl (As := [.int r_4.1, .int r_5.1]) (rest := []) (ws' := [(a_p0, .inr (3, [.ref a_p0_text, .int r_5.2.1, .int r_5.2.2])), (a_p0_text, .inr (5, [.ref a_p0_text_letters, .int p0_text_length])), (a_p0_text_letters, .inl (cI, 60, .inl p0_text_letters)), (a_p1, .inr (1, [.ref a_p1_places, .ref a_p1_kinds, .ref a_p1_clapPlaces, .ref a_p1_louds, .ref a_p1_ones, .ref a_p1_others, .ref a_p1_worths, .ref a_p1_hangs, .int r_7.1, .int p1_skies, .int p1_oaths])), (a_p1_places, .inl (cI, 5, .inl r_7.2.1)), (a_p1_kinds, .inl (cI, 5, .inl r_7.2.2))]) (c_X1_addPerson l D cI cZ a_p1 a_p1_places a_p1_kinds a_p1_clapPlaces a_p1_louds a_p1_ones a_p1_others a_p1_worths a_p1_hangs p1_persons p1_skies p1_oaths p1_places p1_kinds r_4.1 r_5.1 r_7 hr_7) (cwV 2 hts gX3_readPerson_X1_addPerson rfl rfl rfl (by decide +kernel) ⟨Nat.le_of_ble_eq_true rfl, Nat.le_of_ble_eq_true rfl⟩) [3, 4, 5] rfl rfl rfl rfl rfl hl.1 rfl (Nat.le_of_ble_eq_true rfl) ⟨Nat.le_of_ble_eq_true rfl, Nat.le_of_ble_eq_true rfl⟩ dX3_readPerson_44 (fun H locs hW => ?_)
      exact hE _ _ _ _ (r_5.2.1, r_5.2.2, r_7.1, r_7.2.1, r_7.2.2) (sm hf) hW dX3_readPerson_47
def f_X1_addSky (v1 : Int32) (v2 : Int32) (p0_skies : Int32) (p0_clapPlaces : Nat → Int32) (p0_louds : Nat → Int32) : Option (Int32 × (Nat → Int32) × (Nat → Int32)) := (f_X6_put 5 p0_skies v1 p0_clapPlaces).bind fun r_1 => (f_X6_put 5 p0_skies v2 p0_louds).bind fun r_2 => (some (p0_skies + (1 : Int32))).bind fun w_3 => some (w_3, r_1, r_2)
set_option maxHeartbeats 4000000 in
set_option maxRecDepth 100000 in
theorem c_X1_addSky (l : Launch) (D : va_G) (cI cZ : ClassId) (a_p0 a_p0_places a_p0_kinds a_p0_clapPlaces a_p0_louds a_p0_ones a_p0_others a_p0_worths a_p0_hangs : Nat) (p0_persons : Int32) (p0_skies : Int32) (p0_oaths : Int32) (p0_clapPlaces : Nat → Int32) (p0_louds : Nat → Int32) (v1 : Int32) (v2 : Int32) (q : Int32 × (Nat → Int32) × (Nat → Int32)) (hf : f_X1_addSky v1 v2 p0_skies p0_clapPlaces p0_louds = some q) : CtV l D cI cZ yX1_addSky wsX1_addSky 1 22 [.ref a_p0, .int v1, .int v2] [(a_p0, .inr (1, [.ref a_p0_places, .ref a_p0_kinds, .ref a_p0_clapPlaces, .ref a_p0_louds, .ref a_p0_ones, .ref a_p0_others, .ref a_p0_worths, .ref a_p0_hangs, .int p0_persons, .int p0_skies, .int p0_oaths])), (a_p0_clapPlaces, .inl (cI, 5, .inl p0_clapPlaces)), (a_p0_louds, .inl (cI, 5, .inl p0_louds))] (fun q => [(a_p0, .inr (1, [.ref a_p0_places, .ref a_p0_kinds, .ref a_p0_clapPlaces, .ref a_p0_louds, .ref a_p0_ones, .ref a_p0_others, .ref a_p0_worths, .ref a_p0_hangs, .int p0_persons, .int q.1, .int p0_oaths])), (a_p0_clapPlaces, .inl (cI, 5, .inl q.2.1)), (a_p0_louds, .inl (cI, 5, .inl q.2.2))]) q := by
  refine CtV.of (cc := cX1_addSky) (maxL := 3) (plainFor_of_name (by decide)) rfl (Nat.le_of_ble_eq_true rfl) ?_
  intro p e s m args below meth c A Q H ls hB hE hW hl
  have hx := hB.1
  have hb := hB.2.1
  have hml := hB.2.2.2.1
  have hown : s.vm.findClass RX1 = some m.cls := hB.2.2.2.2.1
  have hts := hB.2.2.2.2.2.1
  have hK := hB.2.2.2.2.2.2.2.1.1
  have hl : lv_has ls 3 [(0, .ref a_p0), (1, .int v1), (2, .int v2)] := hl
  have in_X1 : ∀ w ∈ wsX10, w ∈ wsX1_addSky := fun w h => List.mem_cons_of_mem _ (List.mem_append_right _ h)
  have fl_18 : (Cond.fieldLink RX1 18 (TX1 2).1 (TX1 2).2.1 (TX1 2).2.2.1).before args s = true := hts (.fieldLink RX1 18 "ClapOaths$County" "clapPlaces" "[I") (by decide +kernel)
  have fl_21 : (Cond.fieldLink RX1 21 (TX1 3).1 (TX1 3).2.1 (TX1 3).2.2.1).before args s = true := hts (.fieldLink RX1 21 "ClapOaths$County" "louds" "[I") (by decide +kernel)
  have fl_40 : (Cond.fieldLink RX1 40 (TX1 9).1 (TX1 9).2.1 (TX1 9).2.2.1).before args s = true := hts (.fieldLink RX1 40 "ClapOaths$County" "skies" "I") (by decide +kernel)
  unfold f_X1_addSky at hf
  refine lv_aload_n hx hb dX1_addSky_0 rfl (lv_at hl 0 rfl) ?_
  refine q_get hB hW 1 in_X1 0 rfl rfl 2 (by decide) fl_18 (v := .ref a_p0_clapPlaces) rfl dX1_addSky_1 ?_
  refine lv_aload_n hx hb dX1_addSky_4 rfl (lv_at hl 0 rfl) ?_
  refine q_get hB hW 1 in_X1 0 rfl rfl 9 (by decide) fl_40 (v := .int p0_skies) rfl dX1_addSky_5 ?_
  refine lv_iload_n hx hb dX1_addSky_8 rfl (lv_at hl 1 rfl) ?_
  obtain ⟨r_1, hr_1, hf⟩ := bnd hf
  refine q_callNV hB hW (As := [.ref a_p0_clapPlaces, .int p0_skies, .int v1]) (rest := []) (ws' := [(a_p0, .inr (1, [.ref a_p0_places, .ref a_p0_kinds, .ref a_p0_clapPlaces, .ref a_p0_louds, .ref a_p0_ones, .ref a_p0_others, .ref a_p0_worths, .ref a_p0_hangs, .int p0_persons, .int p0_skies, .int p0_oaths])), (a_p0_clapPlaces, .inl (cI, 5, .inl r_1)), (a_p0_louds, .inl (cI, 5, .inl p0_louds))]) (c_X6_put l D cI cZ a_p0_clapPlaces 5 p0_clapPlaces p0_skies v1 r_1 hr_1) ⟨va_cnB 3 hts gX1_addSky_X6_put_n46 rfl rfl rfl (hB.2.2.2.2.2.2.2.1.2 (RX1, 46, yX6_put, RX6) (by decide +kernel)) (hts (.initialized RX6) (by decide +kernel)) (by decide +kernel) ⟨Nat.le_of_ble_eq_true rfl, Nat.le_of_ble_eq_true rfl⟩, hts (.static yX6_put) (by decide +kernel), trivial⟩ [1] rfl rfl rfl rfl rfl hl.1 rfl (Nat.le_of_ble_eq_true rfl) ⟨Nat.le_of_ble_eq_true rfl, Nat.le_of_ble_eq_true rfl⟩ dX1_addSky_9 (fun H locs hW => ?_)
  refine lv_aload_n hx hb dX1_addSky_12 rfl (lv_at hl 0 rfl) ?_
  refine q_get hB hW 1 in_X1 0 rfl rfl 3 (by decide) fl_21 (v := .ref a_p0_louds) rfl dX1_addSky_13 ?_
  refine lv_aload_n hx hb dX1_addSky_16 rfl (lv_at hl 0 rfl) ?_
  refine q_get hB hW 1 in_X1 0 rfl rfl 9 (by decide) fl_40 (v := .int p0_skies) rfl dX1_addSky_17 ?_
  refine lv_iload_n hx hb dX1_addSky_20 rfl (lv_at hl 2 rfl) ?_
  obtain ⟨r_2, hr_2, hf⟩ := bnd hf
  refine q_callNV hB hW (As := [.ref a_p0_louds, .int p0_skies, .int v2]) (rest := []) (ws' := [(a_p0, .inr (1, [.ref a_p0_places, .ref a_p0_kinds, .ref a_p0_clapPlaces, .ref a_p0_louds, .ref a_p0_ones, .ref a_p0_others, .ref a_p0_worths, .ref a_p0_hangs, .int p0_persons, .int p0_skies, .int p0_oaths])), (a_p0_clapPlaces, .inl (cI, 5, .inl r_1)), (a_p0_louds, .inl (cI, 5, .inl r_2))]) (c_X6_put l D cI cZ a_p0_louds 5 p0_louds p0_skies v2 r_2 hr_2) ⟨va_cnB 3 hts gX1_addSky_X6_put_n46 rfl rfl rfl (hB.2.2.2.2.2.2.2.1.2 (RX1, 46, yX6_put, RX6) (by decide +kernel)) (hts (.initialized RX6) (by decide +kernel)) (by decide +kernel) ⟨Nat.le_of_ble_eq_true rfl, Nat.le_of_ble_eq_true rfl⟩, hts (.static yX6_put) (by decide +kernel), trivial⟩ [2] rfl rfl rfl rfl rfl hl.1 rfl (Nat.le_of_ble_eq_true rfl) ⟨Nat.le_of_ble_eq_true rfl, Nat.le_of_ble_eq_true rfl⟩ dX1_addSky_21 (fun H locs hW => ?_)
  refine lv_aload_n hx hb dX1_addSky_24 rfl (lv_at hl 0 rfl) ?_
  refine lv_dup hx hb dX1_addSky_25 rfl ?_
  refine q_get hB hW 1 in_X1 0 rfl rfl 9 (by decide) fl_40 (v := .int p0_skies) rfl dX1_addSky_26 ?_
  refine lv_iconst (v := 1) hx hb dX1_addSky_29 (by decide) ?_
  refine lv_iadd hx hb dX1_addSky_30 ?_
  obtain ⟨w_3, hw_3, hf⟩ := bnd hf
  refine q_nmI hw_3 ?_
  refine q_put hB hW 1 in_X1 tyX1 tyX1_ok nmX1 0 rfl rfl 9 (by decide) fl_40 rfl (by first | rfl | decide) (by first | rfl | decide) (Nat.le_of_ble_eq_true rfl) (ws' := [(a_p0, .inr (1, [.ref a_p0_places, .ref a_p0_kinds, .ref a_p0_clapPlaces, .ref a_p0_louds, .ref a_p0_ones, .ref a_p0_others, .ref a_p0_worths, .ref a_p0_hangs, .int p0_persons, .int w_3, .int p0_oaths])), (a_p0_clapPlaces, .inl (cI, 5, .inl r_1)), (a_p0_louds, .inl (cI, 5, .inl r_2))]) rfl dX1_addSky_31 (fun H locs hW => ?_)
  exact hE _ _ _ _ (w_3, r_1, r_2) (sm hf) hW dX1_addSky_34
def f_X3_readClap (p0_place : Int32) (p0_stopped : Int32) (p0_text_length : Int32) (p0_text_letters : Nat → Int32) (p1_skies : Int32) (p1_clapPlaces : Nat → Int32) (p1_louds : Nat → Int32) : Option (Int32 × Int32 × Int32 × (Nat → Int32) × (Nat → Int32)) := (f_X3_hasRoom p1_skies p0_stopped).bind fun r_1 => if r_1.1 = (0 : Int32) then some (p0_place, r_1.2, p1_skies, p1_clapPlaces, p1_louds) else (some (p0_place + (1 : Int32))).bind fun w_3 => (f_X3_readFigure (9 : Int32) w_3 r_1.2 p0_text_length p0_text_letters).bind fun r_4 => (f_X3_readFigure (9 : Int32) r_4.2.1 r_4.2.2 p0_text_length p0_text_letters).bind fun r_5 => if r_5.2.2 = (0 : Int32) then (f_X1_addSky r_4.1 r_5.1 p1_skies p1_clapPlaces p1_louds).bind fun r_7 => some (r_5.2.1, r_5.2.2, r_7.1, r_7.2.1, r_7.2.2) else some (r_5.2.1, r_5.2.2, p1_skies, p1_clapPlaces, p1_louds)
set_option maxHeartbeats 4000000 in
set_option maxRecDepth 100000 in
theorem c_X3_readClap (l : Launch) (D : va_G) (cI cZ : ClassId) (a_p0 a_p1 a_p0_text a_p0_text_letters a_p1_places a_p1_kinds a_p1_clapPlaces a_p1_louds a_p1_ones a_p1_others a_p1_worths a_p1_hangs : Nat) (p0_place : Int32) (p0_stopped : Int32) (p0_text_length : Int32) (p0_text_letters : Nat → Int32) (p1_persons : Int32) (p1_skies : Int32) (p1_oaths : Int32) (p1_clapPlaces : Nat → Int32) (p1_louds : Nat → Int32) (q : Int32 × Int32 × Int32 × (Nat → Int32) × (Nat → Int32)) (hf : f_X3_readClap p0_place p0_stopped p0_text_length p0_text_letters p1_skies p1_clapPlaces p1_louds = some q) : CtV l D cI cZ yX3_readClap wsX3_readClap 2 44 [.ref a_p0, .ref a_p1] [(a_p0, .inr (3, [.ref a_p0_text, .int p0_place, .int p0_stopped])), (a_p0_text, .inr (5, [.ref a_p0_text_letters, .int p0_text_length])), (a_p0_text_letters, .inl (cI, 60, .inl p0_text_letters)), (a_p1, .inr (1, [.ref a_p1_places, .ref a_p1_kinds, .ref a_p1_clapPlaces, .ref a_p1_louds, .ref a_p1_ones, .ref a_p1_others, .ref a_p1_worths, .ref a_p1_hangs, .int p1_persons, .int p1_skies, .int p1_oaths])), (a_p1_clapPlaces, .inl (cI, 5, .inl p1_clapPlaces)), (a_p1_louds, .inl (cI, 5, .inl p1_louds))] (fun q => [(a_p0, .inr (3, [.ref a_p0_text, .int q.1, .int q.2.1])), (a_p0_text, .inr (5, [.ref a_p0_text_letters, .int p0_text_length])), (a_p0_text_letters, .inl (cI, 60, .inl p0_text_letters)), (a_p1, .inr (1, [.ref a_p1_places, .ref a_p1_kinds, .ref a_p1_clapPlaces, .ref a_p1_louds, .ref a_p1_ones, .ref a_p1_others, .ref a_p1_worths, .ref a_p1_hangs, .int p1_persons, .int q.2.2.1, .int p1_oaths])), (a_p1_clapPlaces, .inl (cI, 5, .inl q.2.2.2.1)), (a_p1_louds, .inl (cI, 5, .inl q.2.2.2.2))]) q := by
  refine CtV.of (cc := cX3_readClap) (maxL := 4) (plainFor_of_name (by decide)) rfl (Nat.le_of_ble_eq_true rfl) ?_
  intro p e s m args below meth c A Q H ls hB hE hW hl
  have hx := hB.1
  have hb := hB.2.1
  have hml := hB.2.2.2.1
  have hown : s.vm.findClass RX3 = some m.cls := hB.2.2.2.2.1
  have hts := hB.2.2.2.2.2.1
  have hK := hB.2.2.2.2.2.2.2.1.1
  have hl : lv_has ls 4 [(0, .ref a_p0), (1, .ref a_p1)] := hl
  have in_X1 : ∀ w ∈ wsX10, w ∈ wsX3_readClap := fun w h => List.mem_cons_of_mem _ (List.mem_append_left _ (List.mem_append_left _ (List.mem_append_right _ h)))
  have in_X3 : ∀ w ∈ wsX30, w ∈ wsX3_readClap := fun w h => List.mem_cons_of_mem _ (List.mem_append_left _ (List.mem_append_right _ h))
  have fl_15 : (Cond.fieldLink RX3 15 (TX3 1).1 (TX3 1).2.1 (TX3 1).2.2.1).before args s = true := hts (.fieldLink RX3 15 "ClapOaths$Reader" "place" "I") (by decide +kernel)
  have fl_19 : (Cond.fieldLink RX3 19 (TX3 2).1 (TX3 2).2.1 (TX3 2).2.2.1).before args s = true := hts (.fieldLink RX3 19 "ClapOaths$Reader" "stopped" "Z") (by decide +kernel)
  have fl_48 : (Cond.fieldLink RX3 48 (TX1 9).1 (TX1 9).2.1 (TX1 9).2.2.1).before args s = true := hts (.fieldLink RX3 48 "ClapOaths$County" "skies" "I") (by decide +kernel)
  unfold f_X3_readClap at hf
  refine lv_aload_n hx hb dX3_readClap_0 rfl (lv_at hl 0 rfl) ?_
  refine lv_aload_n hx hb dX3_readClap_1 rfl (lv_at hl 1 rfl) ?_
  refine q_get hB hW 1 in_X1 3 rfl rfl 9 (by decide) fl_48 (v := .int p1_skies) rfl dX3_readClap_2 ?_
  obtain ⟨r_1, hr_1, hf⟩ := bnd hf
  refine q_callVZ hB hW (ci := 3) (q0 := 0) rfl rfl rfl (As := [.int p1_skies]) (rest := []) (ws' := [(a_p0, .inr (3, [.ref a_p0_text, .int p0_place, .int r_1.2])), (a_p0_text, .inr (5, [.ref a_p0_text_letters, .int p0_text_length])), (a_p0_text_letters, .inl (cI, 60, .inl p0_text_letters)), (a_p1, .inr (1, [.ref a_p1_places, .ref a_p1_kinds, .ref a_p1_clapPlaces, .ref a_p1_louds, .ref a_p1_ones, .ref a_p1_others, .ref a_p1_worths, .ref a_p1_hangs, .int p1_persons, .int p1_skies, .int p1_oaths])), (a_p1_clapPlaces, .inl (cI, 5, .inl p1_clapPlaces)), (a_p1_louds, .inl (cI, 5, .inl p1_louds))]) (c_X3_hasRoom l D cI cZ a_p0 a_p0_text p0_place p0_stopped p1_skies r_1 hr_1) (cwV 1 hts gX3_readClap_X3_hasRoom rfl rfl rfl (by decide +kernel) ⟨Nat.le_of_ble_eq_true rfl, Nat.le_of_ble_eq_true rfl⟩) [0] rfl rfl rfl rfl rfl hl.1 rfl (Nat.le_of_ble_eq_true rfl) ⟨Nat.le_of_ble_eq_true rfl, Nat.le_of_ble_eq_true rfl⟩ dX3_readClap_5 (fun hzr_1 H locs hW => ?_)
  refine lv_if_eq (tgt := 48) hx hb dX3_readClap_8 (by decide) (fun c_2 => ?_) (fun c_2 => ?_)
  · have hf := it_t c_2 hf
    exact hE _ _ _ _ (p0_place, r_1.2, p1_skies, p1_clapPlaces, p1_louds) (sm hf) hW dX3_readClap_48
  · have hf := it_f c_2 hf
    refine lv_aload_n hx hb dX3_readClap_11 rfl (lv_at hl 0 rfl) ?_
    refine lv_dup hx hb dX3_readClap_12 rfl ?_
    refine q_get hB hW 3 in_X3 0 rfl rfl 1 (by decide) fl_15 (v := .int p0_place) rfl dX3_readClap_13 ?_
    refine lv_iconst (v := 1) hx hb dX3_readClap_16 (by decide) ?_
    refine lv_iadd hx hb dX3_readClap_17 ?_
    obtain ⟨w_3, hw_3, hf⟩ := bnd hf
    refine q_nmI hw_3 ?_
    refine q_put hB hW 3 in_X3 tyX3 tyX3_ok nmX3 0 rfl rfl 1 (by decide) fl_15 rfl (by first | rfl | decide) (by first | rfl | decide) (Nat.le_of_ble_eq_true rfl) (ws' := [(a_p0, .inr (3, [.ref a_p0_text, .int w_3, .int r_1.2])), (a_p0_text, .inr (5, [.ref a_p0_text_letters, .int p0_text_length])), (a_p0_text_letters, .inl (cI, 60, .inl p0_text_letters)), (a_p1, .inr (1, [.ref a_p1_places, .ref a_p1_kinds, .ref a_p1_clapPlaces, .ref a_p1_louds, .ref a_p1_ones, .ref a_p1_others, .ref a_p1_worths, .ref a_p1_hangs, .int p1_persons, .int p1_skies, .int p1_oaths])), (a_p1_clapPlaces, .inl (cI, 5, .inl p1_clapPlaces)), (a_p1_louds, .inl (cI, 5, .inl p1_louds))]) rfl dX3_readClap_18 (fun H locs hW => ?_)
    refine lv_aload_n hx hb dX3_readClap_21 rfl (lv_at hl 0 rfl) ?_
    refine lv_bipush (v := 9) hx hb dX3_readClap_22 (by decide) ?_
    obtain ⟨r_4, hr_4, hf⟩ := bnd hf
    refine q_callVI hB hW (ci := 3) (q0 := 0) rfl rfl rfl (As := [.int (9 : Int32)]) (rest := []) (ws' := [(a_p0, .inr (3, [.ref a_p0_text, .int r_4.2.1, .int r_4.2.2])), (a_p0_text, .inr (5, [.ref a_p0_text_letters, .int p0_text_length])), (a_p0_text_letters, .inl (cI, 60, .inl p0_text_letters)), (a_p1, .inr (1, [.ref a_p1_places, .ref a_p1_kinds, .ref a_p1_clapPlaces, .ref a_p1_louds, .ref a_p1_ones, .ref a_p1_others, .ref a_p1_worths, .ref a_p1_hangs, .int p1_persons, .int p1_skies, .int p1_oaths])), (a_p1_clapPlaces, .inl (cI, 5, .inl p1_clapPlaces)), (a_p1_louds, .inl (cI, 5, .inl p1_louds))]) (c_X3_readFigure l D cI cZ a_p0 a_p0_text a_p0_text_letters w_3 r_1.2 p0_text_length p0_text_letters (9 : Int32) r_4 hr_4) (cwV 1 hts gX3_readClap_X3_readFigure rfl rfl rfl (by decide +kernel) ⟨Nat.le_of_ble_eq_true rfl, Nat.le_of_ble_eq_true rfl⟩) [0, 1, 2] rfl rfl rfl rfl rfl hl.1 rfl (Nat.le_of_ble_eq_true rfl) ⟨Nat.le_of_ble_eq_true rfl, Nat.le_of_ble_eq_true rfl⟩ dX3_readClap_24 (fun H locs hW => ?_)
    refine lv_istore_n (lv' := [(2, .int r_4.1), (0, .ref a_p0), (1, .ref a_p1)]) hx hb dX3_readClap_27 rfl hl (by decide) rfl (fun ls hl => ?_)
    refine lv_aload_n hx hb dX3_readClap_28 rfl (lv_at hl 1 rfl) ?_
    refine lv_bipush (v := 9) hx hb dX3_readClap_29 (by decide) ?_
    obtain ⟨r_5, hr_5, hf⟩ := bnd hf
    refine q_callVI hB hW (ci := 3) (q0 := 0) rfl rfl rfl (As := [.int (9 : Int32)]) (rest := []) (ws' := [(a_p0, .inr (3, [.ref a_p0_text, .int r_5.2.1, .int r_5.2.2])), (a_p0_text, .inr (5, [.ref a_p0_text_letters, .int p0_text_length])), (a_p0_text_letters, .inl (cI, 60, .inl p0_text_letters)), (a_p1, .inr (1, [.ref a_p1_places, .ref a_p1_kinds, .ref a_p1_clapPlaces, .ref a_p1_louds, .ref a_p1_ones, .ref a_p1_others, .ref a_p1_worths, .ref a_p1_hangs, .int p1_persons, .int p1_skies, .int p1_oaths])), (a_p1_clapPlaces, .inl (cI, 5, .inl p1_clapPlaces)), (a_p1_louds, .inl (cI, 5, .inl p1_louds))]) (c_X3_readFigure l D cI cZ a_p0 a_p0_text a_p0_text_letters r_4.2.1 r_4.2.2 p0_text_length p0_text_letters (9 : Int32) r_5 hr_5) (cwV 1 hts gX3_readClap_X3_readFigure rfl rfl rfl (by decide +kernel) ⟨Nat.le_of_ble_eq_true rfl, Nat.le_of_ble_eq_true rfl⟩) [0, 1, 2] rfl rfl rfl rfl rfl hl.1 rfl (Nat.le_of_ble_eq_true rfl) ⟨Nat.le_of_ble_eq_true rfl, Nat.le_of_ble_eq_true rfl⟩ dX3_readClap_31 (fun H locs hW => ?_)
    refine lv_istore_n (lv' := [(3, .int r_5.1), (2, .int r_4.1), (0, .ref a_p0), (1, .ref a_p1)]) hx hb dX3_readClap_34 rfl hl (by decide) rfl (fun ls hl => ?_)
    refine lv_aload_n hx hb dX3_readClap_35 rfl (lv_at hl 2 rfl) ?_
    refine q_get hB hW 3 in_X3 0 rfl rfl 2 (by decide) fl_19 (v := .int r_5.2.2) rfl dX3_readClap_36 ?_
    refine lv_if_ne (tgt := 48) hx hb dX3_readClap_39 (by decide) (fun c_6 => ?_) (fun c_6 => ?_)
    · have hf := it_f c_6 hf
      exact hE _ _ _ _ (r_5.2.1, r_5.2.2, p1_skies, p1_clapPlaces, p1_louds) (sm hf) hW dX3_readClap_48
    · have hf := it_t c_6 hf
      refine lv_aload_n hx hb dX3_readClap_42 rfl (lv_at hl 3 rfl) ?_
      refine lv_iload_n hx hb dX3_readClap_43 rfl (lv_at hl 1 rfl) ?_
      refine lv_iload_n hx hb dX3_readClap_44 rfl (lv_at hl 0 rfl) ?_
      obtain ⟨r_7, hr_7, hf⟩ := bnd hf
      refine q_callVV hB hW (ci := 1) (q0 := 0) rfl rfl rfl (As := [.int r_4.1, .int r_5.1]) (rest := []) (ws' := [(a_p0, .inr (3, [.ref a_p0_text, .int r_5.2.1, .int r_5.2.2])), (a_p0_text, .inr (5, [.ref a_p0_text_letters, .int p0_text_length])), (a_p0_text_letters, .inl (cI, 60, .inl p0_text_letters)), (a_p1, .inr (1, [.ref a_p1_places, .ref a_p1_kinds, .ref a_p1_clapPlaces, .ref a_p1_louds, .ref a_p1_ones, .ref a_p1_others, .ref a_p1_worths, .ref a_p1_hangs, .int p1_persons, .int r_7.1, .int p1_oaths])), (a_p1_clapPlaces, .inl (cI, 5, .inl r_7.2.1)), (a_p1_louds, .inl (cI, 5, .inl r_7.2.2))]) (c_X1_addSky l D cI cZ a_p1 a_p1_places a_p1_kinds a_p1_clapPlaces a_p1_louds a_p1_ones a_p1_others a_p1_worths a_p1_hangs p1_persons p1_skies p1_oaths p1_clapPlaces p1_louds r_4.1 r_5.1 r_7 hr_7) (cwV 2 hts gX3_readClap_X1_addSky rfl rfl rfl (by decide +kernel) ⟨Nat.le_of_ble_eq_true rfl, Nat.le_of_ble_eq_true rfl⟩) [3, 4, 5] rfl rfl rfl rfl rfl hl.1 rfl (Nat.le_of_ble_eq_true rfl) ⟨Nat.le_of_ble_eq_true rfl, Nat.le_of_ble_eq_true rfl⟩ dX3_readClap_45 (fun H locs hW => ?_)
      exact hE _ _ _ _ (r_5.2.1, r_5.2.2, r_7.1, r_7.2.1, r_7.2.2) (sm hf) hW dX3_readClap_48
def f_X3_readOther (v1 : Int32) (v2 : Int32) (p0_place : Int32) (p0_stopped : Int32) (p0_text_length : Int32) (p0_text_letters : Nat → Int32) : Option (Int32 × Int32 × Int32) := if p0_stopped = (0 : Int32) then (f_X5_letterAt p0_place p0_text_length p0_text_letters).bind fun r_3 => if r_3 = ((48 : Int32) + v2) then (f_X3_readFigure v1 p0_place (1 : Int32) p0_text_length p0_text_letters).bind fun r_6 => some (r_6.1, r_6.2.1, r_6.2.2) else (f_X3_readFigure v1 p0_place p0_stopped p0_text_length p0_text_letters).bind fun r_5 => some (r_5.1, r_5.2.1, r_5.2.2) else (f_X3_readFigure v1 p0_place p0_stopped p0_text_length p0_text_letters).bind fun r_2 => some (r_2.1, r_2.2.1, r_2.2.2)
set_option maxHeartbeats 4000000 in
set_option maxRecDepth 100000 in
theorem c_X3_readOther (l : Launch) (D : va_G) (cI cZ : ClassId) (a_p0 a_p0_text a_p0_text_letters : Nat) (p0_place : Int32) (p0_stopped : Int32) (p0_text_length : Int32) (p0_text_letters : Nat → Int32) (v1 : Int32) (v2 : Int32) (q : Int32 × Int32 × Int32) (hf : f_X3_readOther v1 v2 p0_place p0_stopped p0_text_length p0_text_letters = some q) : CtI l D cI cZ yX3_readOther wsX3_readOther 2 44 [.ref a_p0, .int v1, .int v2] [(a_p0, .inr (3, [.ref a_p0_text, .int p0_place, .int p0_stopped])), (a_p0_text, .inr (5, [.ref a_p0_text_letters, .int p0_text_length])), (a_p0_text_letters, .inl (cI, 60, .inl p0_text_letters))] (fun q => [(a_p0, .inr (3, [.ref a_p0_text, .int q.2.1, .int q.2.2])), (a_p0_text, .inr (5, [.ref a_p0_text_letters, .int p0_text_length])), (a_p0_text_letters, .inl (cI, 60, .inl p0_text_letters))]) (fun q => q.1) q := by
  refine CtI.of (cc := cX3_readOther) (maxL := 3) (plainFor_of_name (by decide)) rfl (Nat.le_of_ble_eq_true rfl) ?_
  intro p e s m args below meth c A Q H ls hB hE hW hl
  have hx := hB.1
  have hb := hB.2.1
  have hml := hB.2.2.2.1
  have hown : s.vm.findClass RX3 = some m.cls := hB.2.2.2.2.1
  have hts := hB.2.2.2.2.2.1
  have hK := hB.2.2.2.2.2.2.2.1.1
  have hl : lv_has ls 3 [(0, .ref a_p0), (1, .int v1), (2, .int v2)] := hl
  have in_X3 : ∀ w ∈ wsX30, w ∈ wsX3_readOther := fun w h => List.mem_cons_of_mem _ (List.mem_append_left _ (List.mem_append_right _ h))
  have fl_9 : (Cond.fieldLink RX3 9 (TX3 0).1 (TX3 0).2.1 (TX3 0).2.2.1).before args s = true := hts (.fieldLink RX3 9 "ClapOaths$Reader" "text" "LClapOaths$Text;") (by decide +kernel)
  have fl_15 : (Cond.fieldLink RX3 15 (TX3 1).1 (TX3 1).2.1 (TX3 1).2.2.1).before args s = true := hts (.fieldLink RX3 15 "ClapOaths$Reader" "place" "I") (by decide +kernel)
  have fl_19 : (Cond.fieldLink RX3 19 (TX3 2).1 (TX3 2).2.1 (TX3 2).2.2.1).before args s = true := hts (.fieldLink RX3 19 "ClapOaths$Reader" "stopped" "Z") (by decide +kernel)
  unfold f_X3_readOther at hf
  refine lv_aload_n hx hb dX3_readOther_0 rfl (lv_at hl 0 rfl) ?_
  refine q_get hB hW 3 in_X3 0 rfl rfl 2 (by decide) fl_19 (v := .int p0_stopped) rfl dX3_readOther_1 ?_
  refine lv_if_ne (tgt := 30) hx hb dX3_readOther_4 (by decide) (fun c_1 => ?_) (fun c_1 => ?_)
  · have hf := it_f c_1 hf
    refine lv_aload_n hx hb dX3_readOther_30 rfl (lv_at hl 0 rfl) ?_
    refine lv_iload_n hx hb dX3_readOther_31 rfl (lv_at hl 1 rfl) ?_
    obtain ⟨r_2, hr_2, hf⟩ := bnd hf
    refine q_callVI hB hW (ci := 3) (q0 := 0) rfl rfl rfl (As := [.int v1]) (rest := []) (ws' := [(a_p0, .inr (3, [.ref a_p0_text, .int r_2.2.1, .int r_2.2.2])), (a_p0_text, .inr (5, [.ref a_p0_text_letters, .int p0_text_length])), (a_p0_text_letters, .inl (cI, 60, .inl p0_text_letters))]) (c_X3_readFigure l D cI cZ a_p0 a_p0_text a_p0_text_letters p0_place p0_stopped p0_text_length p0_text_letters v1 r_2 hr_2) (cwV 1 hts gX3_readOther_X3_readFigure rfl rfl rfl (by decide +kernel) ⟨Nat.le_of_ble_eq_true rfl, Nat.le_of_ble_eq_true rfl⟩) [0, 1, 2] rfl rfl rfl rfl rfl hl.1 rfl (Nat.le_of_ble_eq_true rfl) ⟨Nat.le_of_ble_eq_true rfl, Nat.le_of_ble_eq_true rfl⟩ dX3_readOther_32 (fun H locs hW => ?_)
    exact hE _ _ _ _ _ (r_2.1, r_2.2.1, r_2.2.2) (sm hf) hW rfl dX3_readOther_35
  · have hf := it_t c_1 hf
    refine lv_aload_n hx hb dX3_readOther_7 rfl (lv_at hl 0 rfl) ?_
    refine q_get hB hW 3 in_X3 0 rfl rfl 0 (by decide) fl_9 (v := .ref a_p0_text) rfl dX3_readOther_8 ?_
    refine lv_aload_n hx hb dX3_readOther_11 rfl (lv_at hl 0 rfl) ?_
    refine q_get hB hW 3 in_X3 0 rfl rfl 1 (by decide) fl_15 (v := .int p0_place) rfl dX3_readOther_12 ?_
    obtain ⟨r_3, hr_3, hf⟩ := bnd hf
    refine q_callVI hB hW (ci := 5) (q0 := 0) rfl rfl rfl (As := [.int p0_place]) (rest := []) (ws' := [(a_p0, .inr (3, [.ref a_p0_text, .int p0_place, .int p0_stopped])), (a_p0_text, .inr (5, [.ref a_p0_text_letters, .int p0_text_length])), (a_p0_text_letters, .inl (cI, 60, .inl p0_text_letters))]) (c_X5_letterAt l D cI cZ a_p0_text a_p0_text_letters p0_text_length p0_text_letters p0_place r_3 hr_3) (cwV 1 hts gX3_readOther_X5_letterAt rfl rfl rfl (by decide +kernel) ⟨Nat.le_of_ble_eq_true rfl, Nat.le_of_ble_eq_true rfl⟩) [1, 2] rfl rfl rfl rfl rfl hl.1 rfl (Nat.le_of_ble_eq_true rfl) ⟨Nat.le_of_ble_eq_true rfl, Nat.le_of_ble_eq_true rfl⟩ dX3_readOther_15 (fun H locs hW => ?_)
    refine lv_bipush (v := 48) hx hb dX3_readOther_18 (by decide) ?_
    refine lv_iload_n hx hb dX3_readOther_20 rfl (lv_at hl 2 rfl) ?_
    refine lv_iadd hx hb dX3_readOther_21 ?_
    refine lv_icmp_ne (tgt := 30) hx hb dX3_readOther_22 (by decide) (fun c_4 => ?_) (fun c_4 => ?_)
    · have hf := it_f c_4 hf
      refine lv_aload_n hx hb dX3_readOther_30 rfl (lv_at hl 0 rfl) ?_
      refine lv_iload_n hx hb dX3_readOther_31 rfl (lv_at hl 1 rfl) ?_
      obtain ⟨r_5, hr_5, hf⟩ := bnd hf
      refine q_callVI hB hW (ci := 3) (q0 := 0) rfl rfl rfl (As := [.int v1]) (rest := []) (ws' := [(a_p0, .inr (3, [.ref a_p0_text, .int r_5.2.1, .int r_5.2.2])), (a_p0_text, .inr (5, [.ref a_p0_text_letters, .int p0_text_length])), (a_p0_text_letters, .inl (cI, 60, .inl p0_text_letters))]) (c_X3_readFigure l D cI cZ a_p0 a_p0_text a_p0_text_letters p0_place p0_stopped p0_text_length p0_text_letters v1 r_5 hr_5) (cwV 1 hts gX3_readOther_X3_readFigure rfl rfl rfl (by decide +kernel) ⟨Nat.le_of_ble_eq_true rfl, Nat.le_of_ble_eq_true rfl⟩) [0, 1, 2] rfl rfl rfl rfl rfl hl.1 rfl (Nat.le_of_ble_eq_true rfl) ⟨Nat.le_of_ble_eq_true rfl, Nat.le_of_ble_eq_true rfl⟩ dX3_readOther_32 (fun H locs hW => ?_)
      exact hE _ _ _ _ _ (r_5.1, r_5.2.1, r_5.2.2) (sm hf) hW rfl dX3_readOther_35
    · have hf := it_t c_4 hf
      refine lv_aload_n hx hb dX3_readOther_25 rfl (lv_at hl 0 rfl) ?_
      refine lv_iconst (v := 1) hx hb dX3_readOther_26 (by decide) ?_
      refine q_put hB hW 3 in_X3 tyX3 tyX3_ok nmX3 0 rfl rfl 2 (by decide) fl_19 rfl (by first | rfl | decide) (by first | rfl | decide) (Nat.le_of_ble_eq_true rfl) (ws' := [(a_p0, .inr (3, [.ref a_p0_text, .int p0_place, .int (1 : Int32)])), (a_p0_text, .inr (5, [.ref a_p0_text_letters, .int p0_text_length])), (a_p0_text_letters, .inl (cI, 60, .inl p0_text_letters))]) rfl dX3_readOther_27 (fun H locs hW => ?_)
      refine lv_aload_n hx hb dX3_readOther_30 rfl (lv_at hl 0 rfl) ?_
      refine lv_iload_n hx hb dX3_readOther_31 rfl (lv_at hl 1 rfl) ?_
      obtain ⟨r_6, hr_6, hf⟩ := bnd hf
      refine q_callVI hB hW (ci := 3) (q0 := 0) rfl rfl rfl (As := [.int v1]) (rest := []) (ws' := [(a_p0, .inr (3, [.ref a_p0_text, .int r_6.2.1, .int r_6.2.2])), (a_p0_text, .inr (5, [.ref a_p0_text_letters, .int p0_text_length])), (a_p0_text_letters, .inl (cI, 60, .inl p0_text_letters))]) (c_X3_readFigure l D cI cZ a_p0 a_p0_text a_p0_text_letters p0_place (1 : Int32) p0_text_length p0_text_letters v1 r_6 hr_6) (cwV 1 hts gX3_readOther_X3_readFigure rfl rfl rfl (by decide +kernel) ⟨Nat.le_of_ble_eq_true rfl, Nat.le_of_ble_eq_true rfl⟩) [0, 1, 2] rfl rfl rfl rfl rfl hl.1 rfl (Nat.le_of_ble_eq_true rfl) ⟨Nat.le_of_ble_eq_true rfl, Nat.le_of_ble_eq_true rfl⟩ dX3_readOther_32 (fun H locs hW => ?_)
      exact hE _ _ _ _ _ (r_6.1, r_6.2.1, r_6.2.2) (sm hf) hW rfl dX3_readOther_35
def f_X3_readHang (v1 : Int32) (p0_place : Int32) (p0_stopped : Int32) (p0_text_length : Int32) (p0_text_letters : Nat → Int32) : Option (Int32 × Int32 × Int32) := if p0_stopped = (0 : Int32) then (f_X5_letterAt p0_place p0_text_length p0_text_letters).bind fun r_3 => if r_3 = (110 : Int32) then (some (p0_place + (1 : Int32))).bind fun w_6 => some ((-9 : Int32), w_6, p0_stopped) else (f_X3_readFigure v1 p0_place p0_stopped p0_text_length p0_text_letters).bind fun r_5 => some (r_5.1, r_5.2.1, r_5.2.2) else (f_X3_readFigure v1 p0_place p0_stopped p0_text_length p0_text_letters).bind fun r_2 => some (r_2.1, r_2.2.1, r_2.2.2)
set_option maxHeartbeats 4000000 in
set_option maxRecDepth 100000 in
theorem c_X3_readHang (l : Launch) (D : va_G) (cI cZ : ClassId) (a_p0 a_p0_text a_p0_text_letters : Nat) (p0_place : Int32) (p0_stopped : Int32) (p0_text_length : Int32) (p0_text_letters : Nat → Int32) (v1 : Int32) (q : Int32 × Int32 × Int32) (hf : f_X3_readHang v1 p0_place p0_stopped p0_text_length p0_text_letters = some q) : CtI l D cI cZ yX3_readHang wsX3_readHang 2 44 [.ref a_p0, .int v1] [(a_p0, .inr (3, [.ref a_p0_text, .int p0_place, .int p0_stopped])), (a_p0_text, .inr (5, [.ref a_p0_text_letters, .int p0_text_length])), (a_p0_text_letters, .inl (cI, 60, .inl p0_text_letters))] (fun q => [(a_p0, .inr (3, [.ref a_p0_text, .int q.2.1, .int q.2.2])), (a_p0_text, .inr (5, [.ref a_p0_text_letters, .int p0_text_length])), (a_p0_text_letters, .inl (cI, 60, .inl p0_text_letters))]) (fun q => q.1) q := by
  refine CtI.of (cc := cX3_readHang) (maxL := 2) (plainFor_of_name (by decide)) rfl (Nat.le_of_ble_eq_true rfl) ?_
  intro p e s m args below meth c A Q H ls hB hE hW hl
  have hx := hB.1
  have hb := hB.2.1
  have hml := hB.2.2.2.1
  have hown : s.vm.findClass RX3 = some m.cls := hB.2.2.2.2.1
  have hts := hB.2.2.2.2.2.1
  have hK := hB.2.2.2.2.2.2.2.1.1
  have hl : lv_has ls 2 [(0, .ref a_p0), (1, .int v1)] := hl
  have in_X3 : ∀ w ∈ wsX30, w ∈ wsX3_readHang := fun w h => List.mem_cons_of_mem _ (List.mem_append_left _ (List.mem_append_right _ h))
  have fl_9 : (Cond.fieldLink RX3 9 (TX3 0).1 (TX3 0).2.1 (TX3 0).2.2.1).before args s = true := hts (.fieldLink RX3 9 "ClapOaths$Reader" "text" "LClapOaths$Text;") (by decide +kernel)
  have fl_15 : (Cond.fieldLink RX3 15 (TX3 1).1 (TX3 1).2.1 (TX3 1).2.2.1).before args s = true := hts (.fieldLink RX3 15 "ClapOaths$Reader" "place" "I") (by decide +kernel)
  have fl_19 : (Cond.fieldLink RX3 19 (TX3 2).1 (TX3 2).2.1 (TX3 2).2.2.1).before args s = true := hts (.fieldLink RX3 19 "ClapOaths$Reader" "stopped" "Z") (by decide +kernel)
  unfold f_X3_readHang at hf
  refine lv_aload_n hx hb dX3_readHang_0 rfl (lv_at hl 0 rfl) ?_
  refine q_get hB hW 3 in_X3 0 rfl rfl 2 (by decide) fl_19 (v := .int p0_stopped) rfl dX3_readHang_1 ?_
  refine lv_if_ne (tgt := 36) hx hb dX3_readHang_4 (by decide) (fun c_1 => ?_) (fun c_1 => ?_)
  · have hf := it_f c_1 hf
    refine lv_aload_n hx hb dX3_readHang_36 rfl (lv_at hl 0 rfl) ?_
    refine lv_iload_n hx hb dX3_readHang_37 rfl (lv_at hl 1 rfl) ?_
    obtain ⟨r_2, hr_2, hf⟩ := bnd hf
    refine q_callVI hB hW (ci := 3) (q0 := 0) rfl rfl rfl (As := [.int v1]) (rest := []) (ws' := [(a_p0, .inr (3, [.ref a_p0_text, .int r_2.2.1, .int r_2.2.2])), (a_p0_text, .inr (5, [.ref a_p0_text_letters, .int p0_text_length])), (a_p0_text_letters, .inl (cI, 60, .inl p0_text_letters))]) (c_X3_readFigure l D cI cZ a_p0 a_p0_text a_p0_text_letters p0_place p0_stopped p0_text_length p0_text_letters v1 r_2 hr_2) (cwV 1 hts gX3_readHang_X3_readFigure rfl rfl rfl (by decide +kernel) ⟨Nat.le_of_ble_eq_true rfl, Nat.le_of_ble_eq_true rfl⟩) [0, 1, 2] rfl rfl rfl rfl rfl hl.1 rfl (Nat.le_of_ble_eq_true rfl) ⟨Nat.le_of_ble_eq_true rfl, Nat.le_of_ble_eq_true rfl⟩ dX3_readHang_38 (fun H locs hW => ?_)
    exact hE _ _ _ _ _ (r_2.1, r_2.2.1, r_2.2.2) (sm hf) hW rfl dX3_readHang_41
  · have hf := it_t c_1 hf
    refine lv_aload_n hx hb dX3_readHang_7 rfl (lv_at hl 0 rfl) ?_
    refine q_get hB hW 3 in_X3 0 rfl rfl 0 (by decide) fl_9 (v := .ref a_p0_text) rfl dX3_readHang_8 ?_
    refine lv_aload_n hx hb dX3_readHang_11 rfl (lv_at hl 0 rfl) ?_
    refine q_get hB hW 3 in_X3 0 rfl rfl 1 (by decide) fl_15 (v := .int p0_place) rfl dX3_readHang_12 ?_
    obtain ⟨r_3, hr_3, hf⟩ := bnd hf
    refine q_callVI hB hW (ci := 5) (q0 := 0) rfl rfl rfl (As := [.int p0_place]) (rest := []) (ws' := [(a_p0, .inr (3, [.ref a_p0_text, .int p0_place, .int p0_stopped])), (a_p0_text, .inr (5, [.ref a_p0_text_letters, .int p0_text_length])), (a_p0_text_letters, .inl (cI, 60, .inl p0_text_letters))]) (c_X5_letterAt l D cI cZ a_p0_text a_p0_text_letters p0_text_length p0_text_letters p0_place r_3 hr_3) (cwV 1 hts gX3_readHang_X5_letterAt rfl rfl rfl (by decide +kernel) ⟨Nat.le_of_ble_eq_true rfl, Nat.le_of_ble_eq_true rfl⟩) [1, 2] rfl rfl rfl rfl rfl hl.1 rfl (Nat.le_of_ble_eq_true rfl) ⟨Nat.le_of_ble_eq_true rfl, Nat.le_of_ble_eq_true rfl⟩ dX3_readHang_15 (fun H locs hW => ?_)
    refine lv_bipush (v := 110) hx hb dX3_readHang_18 (by decide) ?_
    refine lv_icmp_ne (tgt := 36) hx hb dX3_readHang_20 (by decide) (fun c_4 => ?_) (fun c_4 => ?_)
    · have hf := it_f c_4 hf
      refine lv_aload_n hx hb dX3_readHang_36 rfl (lv_at hl 0 rfl) ?_
      refine lv_iload_n hx hb dX3_readHang_37 rfl (lv_at hl 1 rfl) ?_
      obtain ⟨r_5, hr_5, hf⟩ := bnd hf
      refine q_callVI hB hW (ci := 3) (q0 := 0) rfl rfl rfl (As := [.int v1]) (rest := []) (ws' := [(a_p0, .inr (3, [.ref a_p0_text, .int r_5.2.1, .int r_5.2.2])), (a_p0_text, .inr (5, [.ref a_p0_text_letters, .int p0_text_length])), (a_p0_text_letters, .inl (cI, 60, .inl p0_text_letters))]) (c_X3_readFigure l D cI cZ a_p0 a_p0_text a_p0_text_letters p0_place p0_stopped p0_text_length p0_text_letters v1 r_5 hr_5) (cwV 1 hts gX3_readHang_X3_readFigure rfl rfl rfl (by decide +kernel) ⟨Nat.le_of_ble_eq_true rfl, Nat.le_of_ble_eq_true rfl⟩) [0, 1, 2] rfl rfl rfl rfl rfl hl.1 rfl (Nat.le_of_ble_eq_true rfl) ⟨Nat.le_of_ble_eq_true rfl, Nat.le_of_ble_eq_true rfl⟩ dX3_readHang_38 (fun H locs hW => ?_)
      exact hE _ _ _ _ _ (r_5.1, r_5.2.1, r_5.2.2) (sm hf) hW rfl dX3_readHang_41
    · have hf := it_t c_4 hf
      refine lv_aload_n hx hb dX3_readHang_23 rfl (lv_at hl 0 rfl) ?_
      refine lv_dup hx hb dX3_readHang_24 rfl ?_
      refine q_get hB hW 3 in_X3 0 rfl rfl 1 (by decide) fl_15 (v := .int p0_place) rfl dX3_readHang_25 ?_
      refine lv_iconst (v := 1) hx hb dX3_readHang_28 (by decide) ?_
      refine lv_iadd hx hb dX3_readHang_29 ?_
      obtain ⟨w_6, hw_6, hf⟩ := bnd hf
      refine q_nmI hw_6 ?_
      refine q_put hB hW 3 in_X3 tyX3 tyX3_ok nmX3 0 rfl rfl 1 (by decide) fl_15 rfl (by first | rfl | decide) (by first | rfl | decide) (Nat.le_of_ble_eq_true rfl) (ws' := [(a_p0, .inr (3, [.ref a_p0_text, .int w_6, .int p0_stopped])), (a_p0_text, .inr (5, [.ref a_p0_text_letters, .int p0_text_length])), (a_p0_text_letters, .inl (cI, 60, .inl p0_text_letters))]) rfl dX3_readHang_30 (fun H locs hW => ?_)
      refine lv_bipush (v := -9) hx hb dX3_readHang_33 (by decide) ?_
      exact hE _ _ _ _ _ ((-9 : Int32), w_6, p0_stopped) (sm hf) hW rfl dX3_readHang_35
def f_X1_addOath (v1 : Int32) (v2 : Int32) (v3 : Int32) (v4 : Int32) (p0_oaths : Int32) (p0_ones : Nat → Int32) (p0_others : Nat → Int32) (p0_worths : Nat → Int32) (p0_hangs : Nat → Int32) : Option (Int32 × (Nat → Int32) × (Nat → Int32) × (Nat → Int32) × (Nat → Int32)) := (f_X6_put 5 p0_oaths v1 p0_ones).bind fun r_1 => (f_X6_put 5 p0_oaths v2 p0_others).bind fun r_2 => (f_X6_put 5 p0_oaths v3 p0_worths).bind fun r_3 => (f_X6_put 5 p0_oaths v4 p0_hangs).bind fun r_4 => (some (p0_oaths + (1 : Int32))).bind fun w_5 => some (w_5, r_1, r_2, r_3, r_4)
set_option maxHeartbeats 4000000 in
set_option maxRecDepth 100000 in
theorem c_X1_addOath (l : Launch) (D : va_G) (cI cZ : ClassId) (a_p0 a_p0_places a_p0_kinds a_p0_clapPlaces a_p0_louds a_p0_ones a_p0_others a_p0_worths a_p0_hangs : Nat) (p0_persons : Int32) (p0_skies : Int32) (p0_oaths : Int32) (p0_ones : Nat → Int32) (p0_others : Nat → Int32) (p0_worths : Nat → Int32) (p0_hangs : Nat → Int32) (v1 : Int32) (v2 : Int32) (v3 : Int32) (v4 : Int32) (q : Int32 × (Nat → Int32) × (Nat → Int32) × (Nat → Int32) × (Nat → Int32)) (hf : f_X1_addOath v1 v2 v3 v4 p0_oaths p0_ones p0_others p0_worths p0_hangs = some q) : CtV l D cI cZ yX1_addOath wsX1_addOath 1 22 [.ref a_p0, .int v1, .int v2, .int v3, .int v4] [(a_p0, .inr (1, [.ref a_p0_places, .ref a_p0_kinds, .ref a_p0_clapPlaces, .ref a_p0_louds, .ref a_p0_ones, .ref a_p0_others, .ref a_p0_worths, .ref a_p0_hangs, .int p0_persons, .int p0_skies, .int p0_oaths])), (a_p0_ones, .inl (cI, 5, .inl p0_ones)), (a_p0_others, .inl (cI, 5, .inl p0_others)), (a_p0_worths, .inl (cI, 5, .inl p0_worths)), (a_p0_hangs, .inl (cI, 5, .inl p0_hangs))] (fun q => [(a_p0, .inr (1, [.ref a_p0_places, .ref a_p0_kinds, .ref a_p0_clapPlaces, .ref a_p0_louds, .ref a_p0_ones, .ref a_p0_others, .ref a_p0_worths, .ref a_p0_hangs, .int p0_persons, .int p0_skies, .int q.1])), (a_p0_ones, .inl (cI, 5, .inl q.2.1)), (a_p0_others, .inl (cI, 5, .inl q.2.2.1)), (a_p0_worths, .inl (cI, 5, .inl q.2.2.2.1)), (a_p0_hangs, .inl (cI, 5, .inl q.2.2.2.2))]) q := by
  refine CtV.of (cc := cX1_addOath) (maxL := 5) (plainFor_of_name (by decide)) rfl (Nat.le_of_ble_eq_true rfl) ?_
  intro p e s m args below meth c A Q H ls hB hE hW hl
  have hx := hB.1
  have hb := hB.2.1
  have hml := hB.2.2.2.1
  have hown : s.vm.findClass RX1 = some m.cls := hB.2.2.2.2.1
  have hts := hB.2.2.2.2.2.1
  have hK := hB.2.2.2.2.2.2.2.1.1
  have hl : lv_has ls 5 [(0, .ref a_p0), (1, .int v1), (2, .int v2), (3, .int v3), (4, .int v4)] := hl
  have in_X1 : ∀ w ∈ wsX10, w ∈ wsX1_addOath := fun w h => List.mem_cons_of_mem _ (List.mem_append_right _ h)
  have fl_24 : (Cond.fieldLink RX1 24 (TX1 4).1 (TX1 4).2.1 (TX1 4).2.2.1).before args s = true := hts (.fieldLink RX1 24 "ClapOaths$County" "ones" "[I") (by decide +kernel)
  have fl_27 : (Cond.fieldLink RX1 27 (TX1 5).1 (TX1 5).2.1 (TX1 5).2.2.1).before args s = true := hts (.fieldLink RX1 27 "ClapOaths$County" "others" "[I") (by decide +kernel)
  have fl_30 : (Cond.fieldLink RX1 30 (TX1 6).1 (TX1 6).2.1 (TX1 6).2.2.1).before args s = true := hts (.fieldLink RX1 30 "ClapOaths$County" "worths" "[I") (by decide +kernel)
  have fl_33 : (Cond.fieldLink RX1 33 (TX1 7).1 (TX1 7).2.1 (TX1 7).2.2.1).before args s = true := hts (.fieldLink RX1 33 "ClapOaths$County" "hangs" "[I") (by decide +kernel)
  have fl_43 : (Cond.fieldLink RX1 43 (TX1 10).1 (TX1 10).2.1 (TX1 10).2.2.1).before args s = true := hts (.fieldLink RX1 43 "ClapOaths$County" "oaths" "I") (by decide +kernel)
  unfold f_X1_addOath at hf
  refine lv_aload_n hx hb dX1_addOath_0 rfl (lv_at hl 0 rfl) ?_
  refine q_get hB hW 1 in_X1 0 rfl rfl 4 (by decide) fl_24 (v := .ref a_p0_ones) rfl dX1_addOath_1 ?_
  refine lv_aload_n hx hb dX1_addOath_4 rfl (lv_at hl 0 rfl) ?_
  refine q_get hB hW 1 in_X1 0 rfl rfl 10 (by decide) fl_43 (v := .int p0_oaths) rfl dX1_addOath_5 ?_
  refine lv_iload_n hx hb dX1_addOath_8 rfl (lv_at hl 1 rfl) ?_
  obtain ⟨r_1, hr_1, hf⟩ := bnd hf
  refine q_callNV hB hW (As := [.ref a_p0_ones, .int p0_oaths, .int v1]) (rest := []) (ws' := [(a_p0, .inr (1, [.ref a_p0_places, .ref a_p0_kinds, .ref a_p0_clapPlaces, .ref a_p0_louds, .ref a_p0_ones, .ref a_p0_others, .ref a_p0_worths, .ref a_p0_hangs, .int p0_persons, .int p0_skies, .int p0_oaths])), (a_p0_ones, .inl (cI, 5, .inl r_1)), (a_p0_others, .inl (cI, 5, .inl p0_others)), (a_p0_worths, .inl (cI, 5, .inl p0_worths)), (a_p0_hangs, .inl (cI, 5, .inl p0_hangs))]) (c_X6_put l D cI cZ a_p0_ones 5 p0_ones p0_oaths v1 r_1 hr_1) ⟨va_cnB 3 hts gX1_addOath_X6_put_n46 rfl rfl rfl (hB.2.2.2.2.2.2.2.1.2 (RX1, 46, yX6_put, RX6) (by decide +kernel)) (hts (.initialized RX6) (by decide +kernel)) (by decide +kernel) ⟨Nat.le_of_ble_eq_true rfl, Nat.le_of_ble_eq_true rfl⟩, hts (.static yX6_put) (by decide +kernel), trivial⟩ [1] rfl rfl rfl rfl rfl hl.1 rfl (Nat.le_of_ble_eq_true rfl) ⟨Nat.le_of_ble_eq_true rfl, Nat.le_of_ble_eq_true rfl⟩ dX1_addOath_9 (fun H locs hW => ?_)
  refine lv_aload_n hx hb dX1_addOath_12 rfl (lv_at hl 0 rfl) ?_
  refine q_get hB hW 1 in_X1 0 rfl rfl 5 (by decide) fl_27 (v := .ref a_p0_others) rfl dX1_addOath_13 ?_
  refine lv_aload_n hx hb dX1_addOath_16 rfl (lv_at hl 0 rfl) ?_
  refine q_get hB hW 1 in_X1 0 rfl rfl 10 (by decide) fl_43 (v := .int p0_oaths) rfl dX1_addOath_17 ?_
  refine lv_iload_n hx hb dX1_addOath_20 rfl (lv_at hl 2 rfl) ?_
  obtain ⟨r_2, hr_2, hf⟩ := bnd hf
  refine q_callNV hB hW (As := [.ref a_p0_others, .int p0_oaths, .int v2]) (rest := []) (ws' := [(a_p0, .inr (1, [.ref a_p0_places, .ref a_p0_kinds, .ref a_p0_clapPlaces, .ref a_p0_louds, .ref a_p0_ones, .ref a_p0_others, .ref a_p0_worths, .ref a_p0_hangs, .int p0_persons, .int p0_skies, .int p0_oaths])), (a_p0_ones, .inl (cI, 5, .inl r_1)), (a_p0_others, .inl (cI, 5, .inl r_2)), (a_p0_worths, .inl (cI, 5, .inl p0_worths)), (a_p0_hangs, .inl (cI, 5, .inl p0_hangs))]) (c_X6_put l D cI cZ a_p0_others 5 p0_others p0_oaths v2 r_2 hr_2) ⟨va_cnB 3 hts gX1_addOath_X6_put_n46 rfl rfl rfl (hB.2.2.2.2.2.2.2.1.2 (RX1, 46, yX6_put, RX6) (by decide +kernel)) (hts (.initialized RX6) (by decide +kernel)) (by decide +kernel) ⟨Nat.le_of_ble_eq_true rfl, Nat.le_of_ble_eq_true rfl⟩, hts (.static yX6_put) (by decide +kernel), trivial⟩ [2] rfl rfl rfl rfl rfl hl.1 rfl (Nat.le_of_ble_eq_true rfl) ⟨Nat.le_of_ble_eq_true rfl, Nat.le_of_ble_eq_true rfl⟩ dX1_addOath_21 (fun H locs hW => ?_)
  refine lv_aload_n hx hb dX1_addOath_24 rfl (lv_at hl 0 rfl) ?_
  refine q_get hB hW 1 in_X1 0 rfl rfl 6 (by decide) fl_30 (v := .ref a_p0_worths) rfl dX1_addOath_25 ?_
  refine lv_aload_n hx hb dX1_addOath_28 rfl (lv_at hl 0 rfl) ?_
  refine q_get hB hW 1 in_X1 0 rfl rfl 10 (by decide) fl_43 (v := .int p0_oaths) rfl dX1_addOath_29 ?_
  refine lv_iload_n hx hb dX1_addOath_32 rfl (lv_at hl 3 rfl) ?_
  obtain ⟨r_3, hr_3, hf⟩ := bnd hf
  refine q_callNV hB hW (As := [.ref a_p0_worths, .int p0_oaths, .int v3]) (rest := []) (ws' := [(a_p0, .inr (1, [.ref a_p0_places, .ref a_p0_kinds, .ref a_p0_clapPlaces, .ref a_p0_louds, .ref a_p0_ones, .ref a_p0_others, .ref a_p0_worths, .ref a_p0_hangs, .int p0_persons, .int p0_skies, .int p0_oaths])), (a_p0_ones, .inl (cI, 5, .inl r_1)), (a_p0_others, .inl (cI, 5, .inl r_2)), (a_p0_worths, .inl (cI, 5, .inl r_3)), (a_p0_hangs, .inl (cI, 5, .inl p0_hangs))]) (c_X6_put l D cI cZ a_p0_worths 5 p0_worths p0_oaths v3 r_3 hr_3) ⟨va_cnB 3 hts gX1_addOath_X6_put_n46 rfl rfl rfl (hB.2.2.2.2.2.2.2.1.2 (RX1, 46, yX6_put, RX6) (by decide +kernel)) (hts (.initialized RX6) (by decide +kernel)) (by decide +kernel) ⟨Nat.le_of_ble_eq_true rfl, Nat.le_of_ble_eq_true rfl⟩, hts (.static yX6_put) (by decide +kernel), trivial⟩ [3] rfl rfl rfl rfl rfl hl.1 rfl (Nat.le_of_ble_eq_true rfl) ⟨Nat.le_of_ble_eq_true rfl, Nat.le_of_ble_eq_true rfl⟩ dX1_addOath_33 (fun H locs hW => ?_)
  refine lv_aload_n hx hb dX1_addOath_36 rfl (lv_at hl 0 rfl) ?_
  refine q_get hB hW 1 in_X1 0 rfl rfl 7 (by decide) fl_33 (v := .ref a_p0_hangs) rfl dX1_addOath_37 ?_
  refine lv_aload_n hx hb dX1_addOath_40 rfl (lv_at hl 0 rfl) ?_
  refine q_get hB hW 1 in_X1 0 rfl rfl 10 (by decide) fl_43 (v := .int p0_oaths) rfl dX1_addOath_41 ?_
  refine lv_iload hx hb dX1_addOath_44 (lv_at hl 4 rfl) ?_
  obtain ⟨r_4, hr_4, hf⟩ := bnd hf
  refine q_callNV hB hW (As := [.ref a_p0_hangs, .int p0_oaths, .int v4]) (rest := []) (ws' := [(a_p0, .inr (1, [.ref a_p0_places, .ref a_p0_kinds, .ref a_p0_clapPlaces, .ref a_p0_louds, .ref a_p0_ones, .ref a_p0_others, .ref a_p0_worths, .ref a_p0_hangs, .int p0_persons, .int p0_skies, .int p0_oaths])), (a_p0_ones, .inl (cI, 5, .inl r_1)), (a_p0_others, .inl (cI, 5, .inl r_2)), (a_p0_worths, .inl (cI, 5, .inl r_3)), (a_p0_hangs, .inl (cI, 5, .inl r_4))]) (c_X6_put l D cI cZ a_p0_hangs 5 p0_hangs p0_oaths v4 r_4 hr_4) ⟨va_cnB 3 hts gX1_addOath_X6_put_n46 rfl rfl rfl (hB.2.2.2.2.2.2.2.1.2 (RX1, 46, yX6_put, RX6) (by decide +kernel)) (hts (.initialized RX6) (by decide +kernel)) (by decide +kernel) ⟨Nat.le_of_ble_eq_true rfl, Nat.le_of_ble_eq_true rfl⟩, hts (.static yX6_put) (by decide +kernel), trivial⟩ [4] rfl rfl rfl rfl rfl hl.1 rfl (Nat.le_of_ble_eq_true rfl) ⟨Nat.le_of_ble_eq_true rfl, Nat.le_of_ble_eq_true rfl⟩ dX1_addOath_46 (fun H locs hW => ?_)
  refine lv_aload_n hx hb dX1_addOath_49 rfl (lv_at hl 0 rfl) ?_
  refine lv_dup hx hb dX1_addOath_50 rfl ?_
  refine q_get hB hW 1 in_X1 0 rfl rfl 10 (by decide) fl_43 (v := .int p0_oaths) rfl dX1_addOath_51 ?_
  refine lv_iconst (v := 1) hx hb dX1_addOath_54 (by decide) ?_
  refine lv_iadd hx hb dX1_addOath_55 ?_
  obtain ⟨w_5, hw_5, hf⟩ := bnd hf
  refine q_nmI hw_5 ?_
  refine q_put hB hW 1 in_X1 tyX1 tyX1_ok nmX1 0 rfl rfl 10 (by decide) fl_43 rfl (by first | rfl | decide) (by first | rfl | decide) (Nat.le_of_ble_eq_true rfl) (ws' := [(a_p0, .inr (1, [.ref a_p0_places, .ref a_p0_kinds, .ref a_p0_clapPlaces, .ref a_p0_louds, .ref a_p0_ones, .ref a_p0_others, .ref a_p0_worths, .ref a_p0_hangs, .int p0_persons, .int p0_skies, .int w_5])), (a_p0_ones, .inl (cI, 5, .inl r_1)), (a_p0_others, .inl (cI, 5, .inl r_2)), (a_p0_worths, .inl (cI, 5, .inl r_3)), (a_p0_hangs, .inl (cI, 5, .inl r_4))]) rfl dX1_addOath_56 (fun H locs hW => ?_)
  exact hE _ _ _ _ (w_5, r_1, r_2, r_3, r_4) (sm hf) hW dX1_addOath_59
def f_X3_readOath (p0_place : Int32) (p0_stopped : Int32) (p0_text_length : Int32) (p0_text_letters : Nat → Int32) (p1_persons : Int32) (p1_oaths : Int32) (p1_ones : Nat → Int32) (p1_others : Nat → Int32) (p1_worths : Nat → Int32) (p1_hangs : Nat → Int32) : Option (Int32 × Int32 × Int32 × (Nat → Int32) × (Nat → Int32) × (Nat → Int32) × (Nat → Int32)) := if (2 : Int32) ≤ p1_persons then (f_X3_hasRoom p1_oaths p0_stopped).bind fun r_2 => if r_2.1 = (0 : Int32) then some (p0_place, r_2.2, p1_oaths, p1_ones, p1_others, p1_worths, p1_hangs) else (some (p0_place + (1 : Int32))).bind fun w_4 => (f_X3_readFigure (p1_persons - (1 : Int32)) w_4 r_2.2 p0_text_length p0_text_letters).bind fun r_5 => (f_X3_readOther (p1_persons - (1 : Int32)) r_5.1 r_5.2.1 r_5.2.2 p0_text_length p0_text_letters).bind fun r_6 => (f_X3_readFigure (9 : Int32) r_6.2.1 r_6.2.2 p0_text_length p0_text_letters).bind fun r_7 => (f_X3_readHang (p1_oaths - (1 : Int32)) r_7.2.1 r_7.2.2 p0_text_length p0_text_letters).bind fun r_8 => if r_8.2.2 = (0 : Int32) then (f_X1_addOath r_5.1 r_6.1 r_7.1 r_8.1 p1_oaths p1_ones p1_others p1_worths p1_hangs).bind fun r_10 => some (r_8.2.1, r_8.2.2, r_10.1, r_10.2.1, r_10.2.2.1, r_10.2.2.2.1, r_10.2.2.2.2) else some (r_8.2.1, r_8.2.2, p1_oaths, p1_ones, p1_others, p1_worths, p1_hangs) else some (p0_place, (1 : Int32), p1_oaths, p1_ones, p1_others, p1_worths, p1_hangs)
set_option maxHeartbeats 4000000 in
set_option maxRecDepth 100000 in
theorem c_X3_readOath (l : Launch) (D : va_G) (cI cZ : ClassId) (a_p0 a_p1 a_p0_text a_p0_text_letters a_p1_places a_p1_kinds a_p1_clapPlaces a_p1_louds a_p1_ones a_p1_others a_p1_worths a_p1_hangs : Nat) (p0_place : Int32) (p0_stopped : Int32) (p0_text_length : Int32) (p0_text_letters : Nat → Int32) (p1_persons : Int32) (p1_skies : Int32) (p1_oaths : Int32) (p1_ones : Nat → Int32) (p1_others : Nat → Int32) (p1_worths : Nat → Int32) (p1_hangs : Nat → Int32) (q : Int32 × Int32 × Int32 × (Nat → Int32) × (Nat → Int32) × (Nat → Int32) × (Nat → Int32)) (hf : f_X3_readOath p0_place p0_stopped p0_text_length p0_text_letters p1_persons p1_oaths p1_ones p1_others p1_worths p1_hangs = some q) : CtV l D cI cZ yX3_readOath wsX3_readOath 3 66 [.ref a_p0, .ref a_p1] [(a_p0, .inr (3, [.ref a_p0_text, .int p0_place, .int p0_stopped])), (a_p0_text, .inr (5, [.ref a_p0_text_letters, .int p0_text_length])), (a_p0_text_letters, .inl (cI, 60, .inl p0_text_letters)), (a_p1, .inr (1, [.ref a_p1_places, .ref a_p1_kinds, .ref a_p1_clapPlaces, .ref a_p1_louds, .ref a_p1_ones, .ref a_p1_others, .ref a_p1_worths, .ref a_p1_hangs, .int p1_persons, .int p1_skies, .int p1_oaths])), (a_p1_ones, .inl (cI, 5, .inl p1_ones)), (a_p1_others, .inl (cI, 5, .inl p1_others)), (a_p1_worths, .inl (cI, 5, .inl p1_worths)), (a_p1_hangs, .inl (cI, 5, .inl p1_hangs))] (fun q => [(a_p0, .inr (3, [.ref a_p0_text, .int q.1, .int q.2.1])), (a_p0_text, .inr (5, [.ref a_p0_text_letters, .int p0_text_length])), (a_p0_text_letters, .inl (cI, 60, .inl p0_text_letters)), (a_p1, .inr (1, [.ref a_p1_places, .ref a_p1_kinds, .ref a_p1_clapPlaces, .ref a_p1_louds, .ref a_p1_ones, .ref a_p1_others, .ref a_p1_worths, .ref a_p1_hangs, .int p1_persons, .int p1_skies, .int q.2.2.1])), (a_p1_ones, .inl (cI, 5, .inl q.2.2.2.1)), (a_p1_others, .inl (cI, 5, .inl q.2.2.2.2.1)), (a_p1_worths, .inl (cI, 5, .inl q.2.2.2.2.2.1)), (a_p1_hangs, .inl (cI, 5, .inl q.2.2.2.2.2.2))]) q := by
  refine CtV.of (cc := cX3_readOath) (maxL := 6) (plainFor_of_name (by decide)) rfl (Nat.le_of_ble_eq_true rfl) ?_
  intro p e s m args below meth c A Q H ls hB hE hW hl
  have hx := hB.1
  have hb := hB.2.1
  have hml := hB.2.2.2.1
  have hown : s.vm.findClass RX3 = some m.cls := hB.2.2.2.2.1
  have hts := hB.2.2.2.2.2.1
  have hK := hB.2.2.2.2.2.2.2.1.1
  have hl : lv_has ls 6 [(0, .ref a_p0), (1, .ref a_p1)] := hl
  have in_X1 : ∀ w ∈ wsX10, w ∈ wsX3_readOath := fun w h => List.mem_cons_of_mem _ (List.mem_append_left _ (List.mem_append_left _ (List.mem_append_right _ h)))
  have in_X3 : ∀ w ∈ wsX30, w ∈ wsX3_readOath := fun w h => List.mem_cons_of_mem _ (List.mem_append_left _ (List.mem_append_right _ h))
  have fl_15 : (Cond.fieldLink RX3 15 (TX3 1).1 (TX3 1).2.1 (TX3 1).2.2.1).before args s = true := hts (.fieldLink RX3 15 "ClapOaths$Reader" "place" "I") (by decide +kernel)
  have fl_19 : (Cond.fieldLink RX3 19 (TX3 2).1 (TX3 2).2.1 (TX3 2).2.2.1).before args s = true := hts (.fieldLink RX3 19 "ClapOaths$Reader" "stopped" "Z") (by decide +kernel)
  have fl_65 : (Cond.fieldLink RX3 65 (TX1 8).1 (TX1 8).2.1 (TX1 8).2.2.1).before args s = true := hts (.fieldLink RX3 65 "ClapOaths$County" "persons" "I") (by decide +kernel)
  have fl_74 : (Cond.fieldLink RX3 74 (TX1 10).1 (TX1 10).2.1 (TX1 10).2.2.1).before args s = true := hts (.fieldLink RX3 74 "ClapOaths$County" "oaths" "I") (by decide +kernel)
  unfold f_X3_readOath at hf
  refine lv_aload_n hx hb dX3_readOath_0 rfl (lv_at hl 1 rfl) ?_
  refine q_get hB hW 1 in_X1 3 rfl rfl 8 (by decide) fl_65 (v := .int p1_persons) rfl dX3_readOath_1 ?_
  refine lv_iconst (v := 2) hx hb dX3_readOath_4 (by decide) ?_
  refine lv_icmp_ge (tgt := 16) hx hb dX3_readOath_5 (by decide) (fun c_1 => ?_) (fun c_1 => ?_)
  · have hf := it_t c_1 hf
    refine lv_aload_n hx hb dX3_readOath_16 rfl (lv_at hl 0 rfl) ?_
    refine lv_aload_n hx hb dX3_readOath_17 rfl (lv_at hl 1 rfl) ?_
    refine q_get hB hW 1 in_X1 3 rfl rfl 10 (by decide) fl_74 (v := .int p1_oaths) rfl dX3_readOath_18 ?_
    obtain ⟨r_2, hr_2, hf⟩ := bnd hf
    refine q_callVZ hB hW (ci := 3) (q0 := 0) rfl rfl rfl (As := [.int p1_oaths]) (rest := []) (ws' := [(a_p0, .inr (3, [.ref a_p0_text, .int p0_place, .int r_2.2])), (a_p0_text, .inr (5, [.ref a_p0_text_letters, .int p0_text_length])), (a_p0_text_letters, .inl (cI, 60, .inl p0_text_letters)), (a_p1, .inr (1, [.ref a_p1_places, .ref a_p1_kinds, .ref a_p1_clapPlaces, .ref a_p1_louds, .ref a_p1_ones, .ref a_p1_others, .ref a_p1_worths, .ref a_p1_hangs, .int p1_persons, .int p1_skies, .int p1_oaths])), (a_p1_ones, .inl (cI, 5, .inl p1_ones)), (a_p1_others, .inl (cI, 5, .inl p1_others)), (a_p1_worths, .inl (cI, 5, .inl p1_worths)), (a_p1_hangs, .inl (cI, 5, .inl p1_hangs))]) (c_X3_hasRoom l D cI cZ a_p0 a_p0_text p0_place p0_stopped p1_oaths r_2 hr_2) (cwV 1 hts gX3_readOath_X3_hasRoom rfl rfl rfl (by decide +kernel) ⟨Nat.le_of_ble_eq_true rfl, Nat.le_of_ble_eq_true rfl⟩) [0] rfl rfl rfl rfl rfl hl.1 rfl (Nat.le_of_ble_eq_true rfl) ⟨Nat.le_of_ble_eq_true rfl, Nat.le_of_ble_eq_true rfl⟩ dX3_readOath_21 (fun hzr_2 H locs hW => ?_)
    refine lv_if_eq (tgt := 97) hx hb dX3_readOath_24 (by decide) (fun c_3 => ?_) (fun c_3 => ?_)
    · have hf := it_t c_3 hf
      exact hE _ _ _ _ (p0_place, r_2.2, p1_oaths, p1_ones, p1_others, p1_worths, p1_hangs) (sm hf) hW dX3_readOath_97
    · have hf := it_f c_3 hf
      refine lv_aload_n hx hb dX3_readOath_27 rfl (lv_at hl 0 rfl) ?_
      refine lv_dup hx hb dX3_readOath_28 rfl ?_
      refine q_get hB hW 3 in_X3 0 rfl rfl 1 (by decide) fl_15 (v := .int p0_place) rfl dX3_readOath_29 ?_
      refine lv_iconst (v := 1) hx hb dX3_readOath_32 (by decide) ?_
      refine lv_iadd hx hb dX3_readOath_33 ?_
      obtain ⟨w_4, hw_4, hf⟩ := bnd hf
      refine q_nmI hw_4 ?_
      refine q_put hB hW 3 in_X3 tyX3 tyX3_ok nmX3 0 rfl rfl 1 (by decide) fl_15 rfl (by first | rfl | decide) (by first | rfl | decide) (Nat.le_of_ble_eq_true rfl) (ws' := [(a_p0, .inr (3, [.ref a_p0_text, .int w_4, .int r_2.2])), (a_p0_text, .inr (5, [.ref a_p0_text_letters, .int p0_text_length])), (a_p0_text_letters, .inl (cI, 60, .inl p0_text_letters)), (a_p1, .inr (1, [.ref a_p1_places, .ref a_p1_kinds, .ref a_p1_clapPlaces, .ref a_p1_louds, .ref a_p1_ones, .ref a_p1_others, .ref a_p1_worths, .ref a_p1_hangs, .int p1_persons, .int p1_skies, .int p1_oaths])), (a_p1_ones, .inl (cI, 5, .inl p1_ones)), (a_p1_others, .inl (cI, 5, .inl p1_others)), (a_p1_worths, .inl (cI, 5, .inl p1_worths)), (a_p1_hangs, .inl (cI, 5, .inl p1_hangs))]) rfl dX3_readOath_34 (fun H locs hW => ?_)
      refine lv_aload_n hx hb dX3_readOath_37 rfl (lv_at hl 0 rfl) ?_
      refine lv_aload_n hx hb dX3_readOath_38 rfl (lv_at hl 1 rfl) ?_
      refine q_get hB hW 1 in_X1 3 rfl rfl 8 (by decide) fl_65 (v := .int p1_persons) rfl dX3_readOath_39 ?_
      refine lv_iconst (v := 1) hx hb dX3_readOath_42 (by decide) ?_
      refine lv_isub hx hb dX3_readOath_43 ?_
      obtain ⟨r_5, hr_5, hf⟩ := bnd hf
      refine q_callVI hB hW (ci := 3) (q0 := 0) rfl rfl rfl (As := [.int (p1_persons - (1 : Int32))]) (rest := []) (ws' := [(a_p0, .inr (3, [.ref a_p0_text, .int r_5.2.1, .int r_5.2.2])), (a_p0_text, .inr (5, [.ref a_p0_text_letters, .int p0_text_length])), (a_p0_text_letters, .inl (cI, 60, .inl p0_text_letters)), (a_p1, .inr (1, [.ref a_p1_places, .ref a_p1_kinds, .ref a_p1_clapPlaces, .ref a_p1_louds, .ref a_p1_ones, .ref a_p1_others, .ref a_p1_worths, .ref a_p1_hangs, .int p1_persons, .int p1_skies, .int p1_oaths])), (a_p1_ones, .inl (cI, 5, .inl p1_ones)), (a_p1_others, .inl (cI, 5, .inl p1_others)), (a_p1_worths, .inl (cI, 5, .inl p1_worths)), (a_p1_hangs, .inl (cI, 5, .inl p1_hangs))]) (c_X3_readFigure l D cI cZ a_p0 a_p0_text a_p0_text_letters w_4 r_2.2 p0_text_length p0_text_letters (p1_persons - (1 : Int32)) r_5 hr_5) (cwV 1 hts gX3_readOath_X3_readFigure rfl rfl rfl (by decide +kernel) ⟨Nat.le_of_ble_eq_true rfl, Nat.le_of_ble_eq_true rfl⟩) [0, 1, 2] rfl rfl rfl rfl rfl hl.1 rfl (Nat.le_of_ble_eq_true rfl) ⟨Nat.le_of_ble_eq_true rfl, Nat.le_of_ble_eq_true rfl⟩ dX3_readOath_44 (fun H locs hW => ?_)
      refine lv_istore_n (lv' := [(2, .int r_5.1), (0, .ref a_p0), (1, .ref a_p1)]) hx hb dX3_readOath_47 rfl hl (by decide) rfl (fun ls hl => ?_)
      refine lv_aload_n hx hb dX3_readOath_48 rfl (lv_at hl 1 rfl) ?_
      refine lv_aload_n hx hb dX3_readOath_49 rfl (lv_at hl 2 rfl) ?_
      refine q_get hB hW 1 in_X1 3 rfl rfl 8 (by decide) fl_65 (v := .int p1_persons) rfl dX3_readOath_50 ?_
      refine lv_iconst (v := 1) hx hb dX3_readOath_53 (by decide) ?_
      refine lv_isub hx hb dX3_readOath_54 ?_
      refine lv_iload_n hx hb dX3_readOath_55 rfl (lv_at hl 0 rfl) ?_
      obtain ⟨r_6, hr_6, hf⟩ := bnd hf
      refine q_callVI hB hW (ci := 3) (q0 := 0) rfl rfl rfl (As := [.int (p1_persons - (1 : Int32)), .int r_5.1]) (rest := []) (ws' := [(a_p0, .inr (3, [.ref a_p0_text, .int r_6.2.1, .int r_6.2.2])), (a_p0_text, .inr (5, [.ref a_p0_text_letters, .int p0_text_length])), (a_p0_text_letters, .inl (cI, 60, .inl p0_text_letters)), (a_p1, .inr (1, [.ref a_p1_places, .ref a_p1_kinds, .ref a_p1_clapPlaces, .ref a_p1_louds, .ref a_p1_ones, .ref a_p1_others, .ref a_p1_worths, .ref a_p1_hangs, .int p1_persons, .int p1_skies, .int p1_oaths])), (a_p1_ones, .inl (cI, 5, .inl p1_ones)), (a_p1_others, .inl (cI, 5, .inl p1_others)), (a_p1_worths, .inl (cI, 5, .inl p1_worths)), (a_p1_hangs, .inl (cI, 5, .inl p1_hangs))]) (c_X3_readOther l D cI cZ a_p0 a_p0_text a_p0_text_letters r_5.2.1 r_5.2.2 p0_text_length p0_text_letters (p1_persons - (1 : Int32)) r_5.1 r_6 hr_6) (cwV 2 hts gX3_readOath_X3_readOther rfl rfl rfl (by decide +kernel) ⟨Nat.le_of_ble_eq_true rfl, Nat.le_of_ble_eq_true rfl⟩) [0, 1, 2] rfl rfl rfl rfl rfl hl.1 rfl (Nat.le_of_ble_eq_true rfl) ⟨Nat.le_of_ble_eq_true rfl, Nat.le_of_ble_eq_true rfl⟩ dX3_readOath_56 (fun H locs hW => ?_)
      refine lv_istore_n (lv' := [(3, .int r_6.1), (2, .int r_5.1), (0, .ref a_p0), (1, .ref a_p1)]) hx hb dX3_readOath_59 rfl hl (by decide) rfl (fun ls hl => ?_)
      refine lv_aload_n hx hb dX3_readOath_60 rfl (lv_at hl 2 rfl) ?_
      refine lv_bipush (v := 9) hx hb dX3_readOath_61 (by decide) ?_
      obtain ⟨r_7, hr_7, hf⟩ := bnd hf
      refine q_callVI hB hW (ci := 3) (q0 := 0) rfl rfl rfl (As := [.int (9 : Int32)]) (rest := []) (ws' := [(a_p0, .inr (3, [.ref a_p0_text, .int r_7.2.1, .int r_7.2.2])), (a_p0_text, .inr (5, [.ref a_p0_text_letters, .int p0_text_length])), (a_p0_text_letters, .inl (cI, 60, .inl p0_text_letters)), (a_p1, .inr (1, [.ref a_p1_places, .ref a_p1_kinds, .ref a_p1_clapPlaces, .ref a_p1_louds, .ref a_p1_ones, .ref a_p1_others, .ref a_p1_worths, .ref a_p1_hangs, .int p1_persons, .int p1_skies, .int p1_oaths])), (a_p1_ones, .inl (cI, 5, .inl p1_ones)), (a_p1_others, .inl (cI, 5, .inl p1_others)), (a_p1_worths, .inl (cI, 5, .inl p1_worths)), (a_p1_hangs, .inl (cI, 5, .inl p1_hangs))]) (c_X3_readFigure l D cI cZ a_p0 a_p0_text a_p0_text_letters r_6.2.1 r_6.2.2 p0_text_length p0_text_letters (9 : Int32) r_7 hr_7) (cwV 1 hts gX3_readOath_X3_readFigure rfl rfl rfl (by decide +kernel) ⟨Nat.le_of_ble_eq_true rfl, Nat.le_of_ble_eq_true rfl⟩) [0, 1, 2] rfl rfl rfl rfl rfl hl.1 rfl (Nat.le_of_ble_eq_true rfl) ⟨Nat.le_of_ble_eq_true rfl, Nat.le_of_ble_eq_true rfl⟩ dX3_readOath_63 (fun H locs hW => ?_)
      refine lv_istore (lv' := [(4, .int r_7.1), (3, .int r_6.1), (2, .int r_5.1), (0, .ref a_p0), (1, .ref a_p1)]) hx hb dX3_readOath_66 hl (by decide) rfl (fun ls hl => ?_)
      refine lv_aload_n hx hb dX3_readOath_68 rfl (lv_at hl 3 rfl) ?_
      refine lv_aload_n hx hb dX3_readOath_69 rfl (lv_at hl 4 rfl) ?_
      refine q_get hB hW 1 in_X1 3 rfl rfl 10 (by decide) fl_74 (v := .int p1_oaths) rfl dX3_readOath_70 ?_
      refine lv_iconst (v := 1) hx hb dX3_readOath_73 (by decide) ?_
      refine lv_isub hx hb dX3_readOath_74 ?_
      obtain ⟨r_8, hr_8, hf⟩ := bnd hf
      refine q_callVI hB hW (ci := 3) (q0 := 0) rfl rfl rfl (As := [.int (p1_oaths - (1 : Int32))]) (rest := []) (ws' := [(a_p0, .inr (3, [.ref a_p0_text, .int r_8.2.1, .int r_8.2.2])), (a_p0_text, .inr (5, [.ref a_p0_text_letters, .int p0_text_length])), (a_p0_text_letters, .inl (cI, 60, .inl p0_text_letters)), (a_p1, .inr (1, [.ref a_p1_places, .ref a_p1_kinds, .ref a_p1_clapPlaces, .ref a_p1_louds, .ref a_p1_ones, .ref a_p1_others, .ref a_p1_worths, .ref a_p1_hangs, .int p1_persons, .int p1_skies, .int p1_oaths])), (a_p1_ones, .inl (cI, 5, .inl p1_ones)), (a_p1_others, .inl (cI, 5, .inl p1_others)), (a_p1_worths, .inl (cI, 5, .inl p1_worths)), (a_p1_hangs, .inl (cI, 5, .inl p1_hangs))]) (c_X3_readHang l D cI cZ a_p0 a_p0_text a_p0_text_letters r_7.2.1 r_7.2.2 p0_text_length p0_text_letters (p1_oaths - (1 : Int32)) r_8 hr_8) (cwV 1 hts gX3_readOath_X3_readHang rfl rfl rfl (by decide +kernel) ⟨Nat.le_of_ble_eq_true rfl, Nat.le_of_ble_eq_true rfl⟩) [0, 1, 2] rfl rfl rfl rfl rfl hl.1 rfl (Nat.le_of_ble_eq_true rfl) ⟨Nat.le_of_ble_eq_true rfl, Nat.le_of_ble_eq_true rfl⟩ dX3_readOath_75 (fun H locs hW => ?_)
      refine lv_istore (lv' := [(5, .int r_8.1), (4, .int r_7.1), (3, .int r_6.1), (2, .int r_5.1), (0, .ref a_p0), (1, .ref a_p1)]) hx hb dX3_readOath_78 hl (by decide) rfl (fun ls hl => ?_)
      refine lv_aload_n hx hb dX3_readOath_80 rfl (lv_at hl 4 rfl) ?_
      refine q_get hB hW 3 in_X3 0 rfl rfl 2 (by decide) fl_19 (v := .int r_8.2.2) rfl dX3_readOath_81 ?_
      refine lv_if_ne (tgt := 97) hx hb dX3_readOath_84 (by decide) (fun c_9 => ?_) (fun c_9 => ?_)
      · have hf := it_f c_9 hf
        exact hE _ _ _ _ (r_8.2.1, r_8.2.2, p1_oaths, p1_ones, p1_others, p1_worths, p1_hangs) (sm hf) hW dX3_readOath_97
      · have hf := it_t c_9 hf
        refine lv_aload_n hx hb dX3_readOath_87 rfl (lv_at hl 5 rfl) ?_
        refine lv_iload_n hx hb dX3_readOath_88 rfl (lv_at hl 3 rfl) ?_
        refine lv_iload_n hx hb dX3_readOath_89 rfl (lv_at hl 2 rfl) ?_
        refine lv_iload hx hb dX3_readOath_90 (lv_at hl 1 rfl) ?_
        refine lv_iload hx hb dX3_readOath_92 (lv_at hl 0 rfl) ?_
        obtain ⟨r_10, hr_10, hf⟩ := bnd hf
        refine q_callVV hB hW (ci := 1) (q0 := 0) rfl rfl rfl (As := [.int r_5.1, .int r_6.1, .int r_7.1, .int r_8.1]) (rest := []) (ws' := [(a_p0, .inr (3, [.ref a_p0_text, .int r_8.2.1, .int r_8.2.2])), (a_p0_text, .inr (5, [.ref a_p0_text_letters, .int p0_text_length])), (a_p0_text_letters, .inl (cI, 60, .inl p0_text_letters)), (a_p1, .inr (1, [.ref a_p1_places, .ref a_p1_kinds, .ref a_p1_clapPlaces, .ref a_p1_louds, .ref a_p1_ones, .ref a_p1_others, .ref a_p1_worths, .ref a_p1_hangs, .int p1_persons, .int p1_skies, .int r_10.1])), (a_p1_ones, .inl (cI, 5, .inl r_10.2.1)), (a_p1_others, .inl (cI, 5, .inl r_10.2.2.1)), (a_p1_worths, .inl (cI, 5, .inl r_10.2.2.2.1)), (a_p1_hangs, .inl (cI, 5, .inl r_10.2.2.2.2))]) (c_X1_addOath l D cI cZ a_p1 a_p1_places a_p1_kinds a_p1_clapPlaces a_p1_louds a_p1_ones a_p1_others a_p1_worths a_p1_hangs p1_persons p1_skies p1_oaths p1_ones p1_others p1_worths p1_hangs r_5.1 r_6.1 r_7.1 r_8.1 r_10 hr_10) (cwV 4 hts gX3_readOath_X1_addOath rfl rfl rfl (by decide +kernel) ⟨Nat.le_of_ble_eq_true rfl, Nat.le_of_ble_eq_true rfl⟩) [3, 4, 5, 6, 7] rfl rfl rfl rfl rfl hl.1 rfl (Nat.le_of_ble_eq_true rfl) ⟨Nat.le_of_ble_eq_true rfl, Nat.le_of_ble_eq_true rfl⟩ dX3_readOath_94 (fun H locs hW => ?_)
        exact hE _ _ _ _ (r_8.2.1, r_8.2.2, r_10.1, r_10.2.1, r_10.2.2.1, r_10.2.2.2.1, r_10.2.2.2.2) (sm hf) hW dX3_readOath_97
  · have hf := it_f c_1 hf
    refine lv_aload_n hx hb dX3_readOath_8 rfl (lv_at hl 0 rfl) ?_
    refine lv_iconst (v := 1) hx hb dX3_readOath_9 (by decide) ?_
    refine q_put hB hW 3 in_X3 tyX3 tyX3_ok nmX3 0 rfl rfl 2 (by decide) fl_19 rfl (by first | rfl | decide) (by first | rfl | decide) (Nat.le_of_ble_eq_true rfl) (ws' := [(a_p0, .inr (3, [.ref a_p0_text, .int p0_place, .int (1 : Int32)])), (a_p0_text, .inr (5, [.ref a_p0_text_letters, .int p0_text_length])), (a_p0_text_letters, .inl (cI, 60, .inl p0_text_letters)), (a_p1, .inr (1, [.ref a_p1_places, .ref a_p1_kinds, .ref a_p1_clapPlaces, .ref a_p1_louds, .ref a_p1_ones, .ref a_p1_others, .ref a_p1_worths, .ref a_p1_hangs, .int p1_persons, .int p1_skies, .int p1_oaths])), (a_p1_ones, .inl (cI, 5, .inl p1_ones)), (a_p1_others, .inl (cI, 5, .inl p1_others)), (a_p1_worths, .inl (cI, 5, .inl p1_worths)), (a_p1_hangs, .inl (cI, 5, .inl p1_hangs))]) rfl dX3_readOath_10 (fun H locs hW => ?_)
    refine lv_goto (tgt := 97) hx hb dX3_readOath_13 (by decide) ?_
    exact hE _ _ _ _ (p0_place, (1 : Int32), p1_oaths, p1_ones, p1_others, p1_worths, p1_hangs) (sm hf) hW dX3_readOath_97
