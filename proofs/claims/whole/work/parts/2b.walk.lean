def f_X3_readPart (p0_place : Int32) (p0_stopped : Int32) (p0_text_length : Int32) (p0_text_letters : Nat → Int32) (p1_persons : Int32) (p1_skies : Int32) (p1_oaths : Int32) (p1_places : Nat → Int32) (p1_kinds : Nat → Int32) (p1_clapPlaces : Nat → Int32) (p1_louds : Nat → Int32) (p1_ones : Nat → Int32) (p1_others : Nat → Int32) (p1_worths : Nat → Int32) (p1_hangs : Nat → Int32) : Option (Int32 × Int32 × Int32 × Int32 × Int32 × (Nat → Int32) × (Nat → Int32) × (Nat → Int32) × (Nat → Int32) × (Nat → Int32) × (Nat → Int32) × (Nat → Int32) × (Nat → Int32)) := (f_X5_letterAt p0_place p0_text_length p0_text_letters).bind fun r_1 => if r_1 = (67 : Int32) then (f_X3_readClap p0_place p0_stopped p0_text_length p0_text_letters p1_skies p1_clapPlaces p1_louds).bind fun r_3 => some (r_3.1, r_3.2.1, p1_persons, r_3.2.2.1, p1_oaths, p1_places, p1_kinds, r_3.2.2.2.1, r_3.2.2.2.2, p1_ones, p1_others, p1_worths, p1_hangs) else if r_1 = (79 : Int32) then (f_X3_readOath p0_place p0_stopped p0_text_length p0_text_letters p1_persons p1_oaths p1_ones p1_others p1_worths p1_hangs).bind fun r_5 => some (r_5.1, r_5.2.1, p1_persons, p1_skies, r_5.2.2.1, p1_places, p1_kinds, p1_clapPlaces, p1_louds, r_5.2.2.2.1, r_5.2.2.2.2.1, r_5.2.2.2.2.2.1, r_5.2.2.2.2.2.2) else if r_1 = (80 : Int32) then (f_X3_readPerson p0_place p0_stopped p0_text_length p0_text_letters p1_persons p1_places p1_kinds).bind fun r_7 => some (r_7.1, r_7.2.1, r_7.2.2.1, p1_skies, p1_oaths, r_7.2.2.2.1, r_7.2.2.2.2, p1_clapPlaces, p1_louds, p1_ones, p1_others, p1_worths, p1_hangs) else if r_1 = (81 : Int32) then (f_X3_hasRoom p1_skies p0_stopped).bind fun r_9 => if r_9.1 = (0 : Int32) then some (p0_place, r_9.2, p1_persons, p1_skies, p1_oaths, p1_places, p1_kinds, p1_clapPlaces, p1_louds, p1_ones, p1_others, p1_worths, p1_hangs) else (some (p0_place + (1 : Int32))).bind fun w_11 => (f_X1_addSky (0 : Int32) (-1 : Int32) p1_skies p1_clapPlaces p1_louds).bind fun r_12 => some (w_11, r_9.2, p1_persons, r_12.1, p1_oaths, p1_places, p1_kinds, r_12.2.1, r_12.2.2, p1_ones, p1_others, p1_worths, p1_hangs) else some (p0_place, (1 : Int32), p1_persons, p1_skies, p1_oaths, p1_places, p1_kinds, p1_clapPlaces, p1_louds, p1_ones, p1_others, p1_worths, p1_hangs)
set_option maxHeartbeats 4000000 in
set_option maxRecDepth 100000 in
theorem c_X3_readPart (l : Launch) (D : va_G) (cI cZ : ClassId) (a_p0 a_p1 a_p0_text a_p0_text_letters a_p1_places a_p1_kinds a_p1_clapPlaces a_p1_louds a_p1_ones a_p1_others a_p1_worths a_p1_hangs : Nat) (p0_place : Int32) (p0_stopped : Int32) (p0_text_length : Int32) (p0_text_letters : Nat → Int32) (p1_persons : Int32) (p1_skies : Int32) (p1_oaths : Int32) (p1_places : Nat → Int32) (p1_kinds : Nat → Int32) (p1_clapPlaces : Nat → Int32) (p1_louds : Nat → Int32) (p1_ones : Nat → Int32) (p1_others : Nat → Int32) (p1_worths : Nat → Int32) (p1_hangs : Nat → Int32) (q : Int32 × Int32 × Int32 × Int32 × Int32 × (Nat → Int32) × (Nat → Int32) × (Nat → Int32) × (Nat → Int32) × (Nat → Int32) × (Nat → Int32) × (Nat → Int32) × (Nat → Int32)) (hf : f_X3_readPart p0_place p0_stopped p0_text_length p0_text_letters p1_persons p1_skies p1_oaths p1_places p1_kinds p1_clapPlaces p1_louds p1_ones p1_others p1_worths p1_hangs = some q) : CtV l D cI cZ yX3_readPart wsX3_readPart 4 91 [.ref a_p0, .ref a_p1] [(a_p0, .inr (3, [.ref a_p0_text, .int p0_place, .int p0_stopped])), (a_p0_text, .inr (5, [.ref a_p0_text_letters, .int p0_text_length])), (a_p0_text_letters, .inl (cI, 60, .inl p0_text_letters)), (a_p1, .inr (1, [.ref a_p1_places, .ref a_p1_kinds, .ref a_p1_clapPlaces, .ref a_p1_louds, .ref a_p1_ones, .ref a_p1_others, .ref a_p1_worths, .ref a_p1_hangs, .int p1_persons, .int p1_skies, .int p1_oaths])), (a_p1_places, .inl (cI, 5, .inl p1_places)), (a_p1_kinds, .inl (cI, 5, .inl p1_kinds)), (a_p1_clapPlaces, .inl (cI, 5, .inl p1_clapPlaces)), (a_p1_louds, .inl (cI, 5, .inl p1_louds)), (a_p1_ones, .inl (cI, 5, .inl p1_ones)), (a_p1_others, .inl (cI, 5, .inl p1_others)), (a_p1_worths, .inl (cI, 5, .inl p1_worths)), (a_p1_hangs, .inl (cI, 5, .inl p1_hangs))] (fun q => [(a_p0, .inr (3, [.ref a_p0_text, .int q.1, .int q.2.1])), (a_p0_text, .inr (5, [.ref a_p0_text_letters, .int p0_text_length])), (a_p0_text_letters, .inl (cI, 60, .inl p0_text_letters)), (a_p1, .inr (1, [.ref a_p1_places, .ref a_p1_kinds, .ref a_p1_clapPlaces, .ref a_p1_louds, .ref a_p1_ones, .ref a_p1_others, .ref a_p1_worths, .ref a_p1_hangs, .int q.2.2.1, .int q.2.2.2.1, .int q.2.2.2.2.1])), (a_p1_places, .inl (cI, 5, .inl q.2.2.2.2.2.1)), (a_p1_kinds, .inl (cI, 5, .inl q.2.2.2.2.2.2.1)), (a_p1_clapPlaces, .inl (cI, 5, .inl q.2.2.2.2.2.2.2.1)), (a_p1_louds, .inl (cI, 5, .inl q.2.2.2.2.2.2.2.2.1)), (a_p1_ones, .inl (cI, 5, .inl q.2.2.2.2.2.2.2.2.2.1)), (a_p1_others, .inl (cI, 5, .inl q.2.2.2.2.2.2.2.2.2.2.1)), (a_p1_worths, .inl (cI, 5, .inl q.2.2.2.2.2.2.2.2.2.2.2.1)), (a_p1_hangs, .inl (cI, 5, .inl q.2.2.2.2.2.2.2.2.2.2.2.2))]) q := by
  refine CtV.of (cc := cX3_readPart) (maxL := 2) (plainFor_of_name (by decide)) rfl (Nat.le_of_ble_eq_true rfl) ?_
  intro p e s m args below meth c A Q H ls hB hE hW hl
  have hx := hB.1
  have hb := hB.2.1
  have hml := hB.2.2.2.1
  have hown : s.vm.findClass RX3 = some m.cls := hB.2.2.2.2.1
  have hts := hB.2.2.2.2.2.1
  have hK := hB.2.2.2.2.2.2.2.1.1
  have hl : lv_has ls 2 [(0, .ref a_p0), (1, .ref a_p1)] := hl
  have in_X1 : ∀ w ∈ wsX10, w ∈ wsX3_readPart := fun w h => List.mem_cons_of_mem _ (List.mem_append_left _ (List.mem_append_right _ h))
  have in_X3 : ∀ w ∈ wsX30, w ∈ wsX3_readPart := fun w h => List.mem_cons_of_mem _ (List.mem_append_left _ (List.mem_append_left _ (List.mem_append_right _ h)))
  have fl_9 : (Cond.fieldLink RX3 9 (TX3 0).1 (TX3 0).2.1 (TX3 0).2.2.1).before args s = true := hts (.fieldLink RX3 9 "ClapOaths$Reader" "text" "LClapOaths$Text;") (by decide +kernel)
  have fl_15 : (Cond.fieldLink RX3 15 (TX3 1).1 (TX3 1).2.1 (TX3 1).2.2.1).before args s = true := hts (.fieldLink RX3 15 "ClapOaths$Reader" "place" "I") (by decide +kernel)
  have fl_19 : (Cond.fieldLink RX3 19 (TX3 2).1 (TX3 2).2.1 (TX3 2).2.2.1).before args s = true := hts (.fieldLink RX3 19 "ClapOaths$Reader" "stopped" "Z") (by decide +kernel)
  have fl_48 : (Cond.fieldLink RX3 48 (TX1 9).1 (TX1 9).2.1 (TX1 9).2.2.1).before args s = true := hts (.fieldLink RX3 48 "ClapOaths$County" "skies" "I") (by decide +kernel)
  unfold f_X3_readPart at hf
  refine lv_aload_n hx hb dX3_readPart_0 rfl (lv_at hl 0 rfl) ?_
  refine q_get hB hW 3 in_X3 0 rfl rfl 0 (by decide) fl_9 (v := .ref a_p0_text) rfl dX3_readPart_1 ?_
  refine lv_aload_n hx hb dX3_readPart_4 rfl (lv_at hl 0 rfl) ?_
  refine q_get hB hW 3 in_X3 0 rfl rfl 1 (by decide) fl_15 (v := .int p0_place) rfl dX3_readPart_5 ?_
  obtain ⟨r_1, hr_1, hf⟩ := bnd hf
  refine q_callVI hB hW (ci := 5) (q0 := 0) rfl rfl rfl (As := [.int p0_place]) (rest := []) (ws' := [(a_p0, .inr (3, [.ref a_p0_text, .int p0_place, .int p0_stopped])), (a_p0_text, .inr (5, [.ref a_p0_text_letters, .int p0_text_length])), (a_p0_text_letters, .inl (cI, 60, .inl p0_text_letters)), (a_p1, .inr (1, [.ref a_p1_places, .ref a_p1_kinds, .ref a_p1_clapPlaces, .ref a_p1_louds, .ref a_p1_ones, .ref a_p1_others, .ref a_p1_worths, .ref a_p1_hangs, .int p1_persons, .int p1_skies, .int p1_oaths])), (a_p1_places, .inl (cI, 5, .inl p1_places)), (a_p1_kinds, .inl (cI, 5, .inl p1_kinds)), (a_p1_clapPlaces, .inl (cI, 5, .inl p1_clapPlaces)), (a_p1_louds, .inl (cI, 5, .inl p1_louds)), (a_p1_ones, .inl (cI, 5, .inl p1_ones)), (a_p1_others, .inl (cI, 5, .inl p1_others)), (a_p1_worths, .inl (cI, 5, .inl p1_worths)), (a_p1_hangs, .inl (cI, 5, .inl p1_hangs))]) (c_X5_letterAt l D cI cZ a_p0_text a_p0_text_letters p0_text_length p0_text_letters p0_place r_1 hr_1) (cwV 1 hts gX3_readPart_X5_letterAt rfl rfl rfl (by decide +kernel) ⟨Nat.le_of_ble_eq_true rfl, Nat.le_of_ble_eq_true rfl⟩) [1, 2] rfl rfl rfl rfl rfl hl.1 rfl (Nat.le_of_ble_eq_true rfl) ⟨Nat.le_of_ble_eq_true rfl, Nat.le_of_ble_eq_true rfl⟩ dX3_readPart_8 (fun H locs hW => ?_)
  by_cases c_2 : r_1 = (67 : Int32)
  · have hf := it_t c_2 hf
    refine lv_lookup (tgt := 90) (off := 79) hx hb dX3_readPart_11 (by decide) (by rw [c_2]; decide) (by decide) ?_
    refine lv_aload_n hx hb dX3_readPart_90 rfl (lv_at hl 0 rfl) ?_
    refine lv_aload_n hx hb dX3_readPart_91 rfl (lv_at hl 1 rfl) ?_
    obtain ⟨r_3, hr_3, hf⟩ := bnd hf
    refine q_callVV hB hW (ci := 3) (q0 := 0) rfl rfl rfl (As := [.ref a_p1]) (rest := []) (ws' := [(a_p0, .inr (3, [.ref a_p0_text, .int r_3.1, .int r_3.2.1])), (a_p0_text, .inr (5, [.ref a_p0_text_letters, .int p0_text_length])), (a_p0_text_letters, .inl (cI, 60, .inl p0_text_letters)), (a_p1, .inr (1, [.ref a_p1_places, .ref a_p1_kinds, .ref a_p1_clapPlaces, .ref a_p1_louds, .ref a_p1_ones, .ref a_p1_others, .ref a_p1_worths, .ref a_p1_hangs, .int p1_persons, .int r_3.2.2.1, .int p1_oaths])), (a_p1_places, .inl (cI, 5, .inl p1_places)), (a_p1_kinds, .inl (cI, 5, .inl p1_kinds)), (a_p1_clapPlaces, .inl (cI, 5, .inl r_3.2.2.2.1)), (a_p1_louds, .inl (cI, 5, .inl r_3.2.2.2.2)), (a_p1_ones, .inl (cI, 5, .inl p1_ones)), (a_p1_others, .inl (cI, 5, .inl p1_others)), (a_p1_worths, .inl (cI, 5, .inl p1_worths)), (a_p1_hangs, .inl (cI, 5, .inl p1_hangs))]) (c_X3_readClap l D cI cZ a_p0 a_p1 a_p0_text a_p0_text_letters a_p1_places a_p1_kinds a_p1_clapPlaces a_p1_louds a_p1_ones a_p1_others a_p1_worths a_p1_hangs p0_place p0_stopped p0_text_length p0_text_letters p1_persons p1_skies p1_oaths p1_clapPlaces p1_louds r_3 hr_3) (cwV 1 hts gX3_readPart_X3_readClap rfl rfl rfl (by decide +kernel) ⟨Nat.le_of_ble_eq_true rfl, Nat.le_of_ble_eq_true rfl⟩) [0, 1, 2, 3, 6, 7] rfl rfl rfl rfl rfl hl.1 rfl (Nat.le_of_ble_eq_true rfl) ⟨Nat.le_of_ble_eq_true rfl, Nat.le_of_ble_eq_true rfl⟩ dX3_readPart_92 (fun H locs hW => ?_)
    refine lv_goto (tgt := 111) hx hb dX3_readPart_95 (by decide) ?_
    exact hE _ _ _ _ (r_3.1, r_3.2.1, p1_persons, r_3.2.2.1, p1_oaths, p1_places, p1_kinds, r_3.2.2.2.1, r_3.2.2.2.2, p1_ones, p1_others, p1_worths, p1_hangs) (sm hf) hW dX3_readPart_111
  have hf := it_f c_2 hf
  by_cases c_4 : r_1 = (79 : Int32)
  · have hf := it_t c_4 hf
    refine lv_lookup (tgt := 98) (off := 87) hx hb dX3_readPart_11 (by decide) (by rw [c_4]; decide) (by decide) ?_
    refine lv_aload_n hx hb dX3_readPart_98 rfl (lv_at hl 0 rfl) ?_
    refine lv_aload_n hx hb dX3_readPart_99 rfl (lv_at hl 1 rfl) ?_
    obtain ⟨r_5, hr_5, hf⟩ := bnd hf
    refine q_callVV hB hW (ci := 3) (q0 := 0) rfl rfl rfl (As := [.ref a_p1]) (rest := []) (ws' := [(a_p0, .inr (3, [.ref a_p0_text, .int r_5.1, .int r_5.2.1])), (a_p0_text, .inr (5, [.ref a_p0_text_letters, .int p0_text_length])), (a_p0_text_letters, .inl (cI, 60, .inl p0_text_letters)), (a_p1, .inr (1, [.ref a_p1_places, .ref a_p1_kinds, .ref a_p1_clapPlaces, .ref a_p1_louds, .ref a_p1_ones, .ref a_p1_others, .ref a_p1_worths, .ref a_p1_hangs, .int p1_persons, .int p1_skies, .int r_5.2.2.1])), (a_p1_places, .inl (cI, 5, .inl p1_places)), (a_p1_kinds, .inl (cI, 5, .inl p1_kinds)), (a_p1_clapPlaces, .inl (cI, 5, .inl p1_clapPlaces)), (a_p1_louds, .inl (cI, 5, .inl p1_louds)), (a_p1_ones, .inl (cI, 5, .inl r_5.2.2.2.1)), (a_p1_others, .inl (cI, 5, .inl r_5.2.2.2.2.1)), (a_p1_worths, .inl (cI, 5, .inl r_5.2.2.2.2.2.1)), (a_p1_hangs, .inl (cI, 5, .inl r_5.2.2.2.2.2.2))]) (c_X3_readOath l D cI cZ a_p0 a_p1 a_p0_text a_p0_text_letters a_p1_places a_p1_kinds a_p1_clapPlaces a_p1_louds a_p1_ones a_p1_others a_p1_worths a_p1_hangs p0_place p0_stopped p0_text_length p0_text_letters p1_persons p1_skies p1_oaths p1_ones p1_others p1_worths p1_hangs r_5 hr_5) (cwV 1 hts gX3_readPart_X3_readOath rfl rfl rfl (by decide +kernel) ⟨Nat.le_of_ble_eq_true rfl, Nat.le_of_ble_eq_true rfl⟩) [0, 1, 2, 3, 8, 9, 10, 11] rfl rfl rfl rfl rfl hl.1 rfl (Nat.le_of_ble_eq_true rfl) ⟨Nat.le_of_ble_eq_true rfl, Nat.le_of_ble_eq_true rfl⟩ dX3_readPart_100 (fun H locs hW => ?_)
    refine lv_goto (tgt := 111) hx hb dX3_readPart_103 (by decide) ?_
    exact hE _ _ _ _ (r_5.1, r_5.2.1, p1_persons, p1_skies, r_5.2.2.1, p1_places, p1_kinds, p1_clapPlaces, p1_louds, r_5.2.2.2.1, r_5.2.2.2.2.1, r_5.2.2.2.2.2.1, r_5.2.2.2.2.2.2) (sm hf) hW dX3_readPart_111
  have hf := it_f c_4 hf
  by_cases c_6 : r_1 = (80 : Int32)
  · have hf := it_t c_6 hf
    refine lv_lookup (tgt := 52) (off := 41) hx hb dX3_readPart_11 (by decide) (by rw [c_6]; decide) (by decide) ?_
    refine lv_aload_n hx hb dX3_readPart_52 rfl (lv_at hl 0 rfl) ?_
    refine lv_aload_n hx hb dX3_readPart_53 rfl (lv_at hl 1 rfl) ?_
    obtain ⟨r_7, hr_7, hf⟩ := bnd hf
    refine q_callVV hB hW (ci := 3) (q0 := 0) rfl rfl rfl (As := [.ref a_p1]) (rest := []) (ws' := [(a_p0, .inr (3, [.ref a_p0_text, .int r_7.1, .int r_7.2.1])), (a_p0_text, .inr (5, [.ref a_p0_text_letters, .int p0_text_length])), (a_p0_text_letters, .inl (cI, 60, .inl p0_text_letters)), (a_p1, .inr (1, [.ref a_p1_places, .ref a_p1_kinds, .ref a_p1_clapPlaces, .ref a_p1_louds, .ref a_p1_ones, .ref a_p1_others, .ref a_p1_worths, .ref a_p1_hangs, .int r_7.2.2.1, .int p1_skies, .int p1_oaths])), (a_p1_places, .inl (cI, 5, .inl r_7.2.2.2.1)), (a_p1_kinds, .inl (cI, 5, .inl r_7.2.2.2.2)), (a_p1_clapPlaces, .inl (cI, 5, .inl p1_clapPlaces)), (a_p1_louds, .inl (cI, 5, .inl p1_louds)), (a_p1_ones, .inl (cI, 5, .inl p1_ones)), (a_p1_others, .inl (cI, 5, .inl p1_others)), (a_p1_worths, .inl (cI, 5, .inl p1_worths)), (a_p1_hangs, .inl (cI, 5, .inl p1_hangs))]) (c_X3_readPerson l D cI cZ a_p0 a_p1 a_p0_text a_p0_text_letters a_p1_places a_p1_kinds a_p1_clapPlaces a_p1_louds a_p1_ones a_p1_others a_p1_worths a_p1_hangs p0_place p0_stopped p0_text_length p0_text_letters p1_persons p1_skies p1_oaths p1_places p1_kinds r_7 hr_7) (cwV 1 hts gX3_readPart_X3_readPerson rfl rfl rfl (by decide +kernel) ⟨Nat.le_of_ble_eq_true rfl, Nat.le_of_ble_eq_true rfl⟩) [0, 1, 2, 3, 4, 5] rfl rfl rfl rfl rfl hl.1 rfl (Nat.le_of_ble_eq_true rfl) ⟨Nat.le_of_ble_eq_true rfl, Nat.le_of_ble_eq_true rfl⟩ dX3_readPart_54 (fun H locs hW => ?_)
    refine lv_goto (tgt := 111) hx hb dX3_readPart_57 (by decide) ?_
    exact hE _ _ _ _ (r_7.1, r_7.2.1, r_7.2.2.1, p1_skies, p1_oaths, r_7.2.2.2.1, r_7.2.2.2.2, p1_clapPlaces, p1_louds, p1_ones, p1_others, p1_worths, p1_hangs) (sm hf) hW dX3_readPart_111
  have hf := it_f c_6 hf
  by_cases c_8 : r_1 = (81 : Int32)
  · have hf := it_t c_8 hf
    refine lv_lookup (tgt := 60) (off := 49) hx hb dX3_readPart_11 (by decide) (by rw [c_8]; decide) (by decide) ?_
    refine lv_aload_n hx hb dX3_readPart_60 rfl (lv_at hl 0 rfl) ?_
    refine lv_aload_n hx hb dX3_readPart_61 rfl (lv_at hl 1 rfl) ?_
    refine q_get hB hW 1 in_X1 3 rfl rfl 9 (by decide) fl_48 (v := .int p1_skies) rfl dX3_readPart_62 ?_
    obtain ⟨r_9, hr_9, hf⟩ := bnd hf
    refine q_callVZ hB hW (ci := 3) (q0 := 0) rfl rfl rfl (As := [.int p1_skies]) (rest := []) (ws' := [(a_p0, .inr (3, [.ref a_p0_text, .int p0_place, .int r_9.2])), (a_p0_text, .inr (5, [.ref a_p0_text_letters, .int p0_text_length])), (a_p0_text_letters, .inl (cI, 60, .inl p0_text_letters)), (a_p1, .inr (1, [.ref a_p1_places, .ref a_p1_kinds, .ref a_p1_clapPlaces, .ref a_p1_louds, .ref a_p1_ones, .ref a_p1_others, .ref a_p1_worths, .ref a_p1_hangs, .int p1_persons, .int p1_skies, .int p1_oaths])), (a_p1_places, .inl (cI, 5, .inl p1_places)), (a_p1_kinds, .inl (cI, 5, .inl p1_kinds)), (a_p1_clapPlaces, .inl (cI, 5, .inl p1_clapPlaces)), (a_p1_louds, .inl (cI, 5, .inl p1_louds)), (a_p1_ones, .inl (cI, 5, .inl p1_ones)), (a_p1_others, .inl (cI, 5, .inl p1_others)), (a_p1_worths, .inl (cI, 5, .inl p1_worths)), (a_p1_hangs, .inl (cI, 5, .inl p1_hangs))]) (c_X3_hasRoom l D cI cZ a_p0 a_p0_text p0_place p0_stopped p1_skies r_9 hr_9) (cwV 1 hts gX3_readPart_X3_hasRoom rfl rfl rfl (by decide +kernel) ⟨Nat.le_of_ble_eq_true rfl, Nat.le_of_ble_eq_true rfl⟩) [0] rfl rfl rfl rfl rfl hl.1 rfl (Nat.le_of_ble_eq_true rfl) ⟨Nat.le_of_ble_eq_true rfl, Nat.le_of_ble_eq_true rfl⟩ dX3_readPart_65 (fun hzr_9 H locs hW => ?_)
    refine lv_if_eq (tgt := 111) hx hb dX3_readPart_68 (by decide) (fun c_10 => ?_) (fun c_10 => ?_)
    · have hf := it_t c_10 hf
      exact hE _ _ _ _ (p0_place, r_9.2, p1_persons, p1_skies, p1_oaths, p1_places, p1_kinds, p1_clapPlaces, p1_louds, p1_ones, p1_others, p1_worths, p1_hangs) (sm hf) hW dX3_readPart_111
    · have hf := it_f c_10 hf
      refine lv_aload_n hx hb dX3_readPart_71 rfl (lv_at hl 0 rfl) ?_
      refine lv_dup hx hb dX3_readPart_72 rfl ?_
      refine q_get hB hW 3 in_X3 0 rfl rfl 1 (by decide) fl_15 (v := .int p0_place) rfl dX3_readPart_73 ?_
      refine lv_iconst (v := 1) hx hb dX3_readPart_76 (by decide) ?_
      refine lv_iadd hx hb dX3_readPart_77 ?_
      obtain ⟨w_11, hw_11, hf⟩ := bnd hf
      refine q_nmI hw_11 ?_
      refine q_put hB hW 3 in_X3 tyX3 tyX3_ok nmX3 0 rfl rfl 1 (by decide) fl_15 rfl (by first | rfl | decide) (by first | rfl | decide) (Nat.le_of_ble_eq_true rfl) (ws' := [(a_p0, .inr (3, [.ref a_p0_text, .int w_11, .int r_9.2])), (a_p0_text, .inr (5, [.ref a_p0_text_letters, .int p0_text_length])), (a_p0_text_letters, .inl (cI, 60, .inl p0_text_letters)), (a_p1, .inr (1, [.ref a_p1_places, .ref a_p1_kinds, .ref a_p1_clapPlaces, .ref a_p1_louds, .ref a_p1_ones, .ref a_p1_others, .ref a_p1_worths, .ref a_p1_hangs, .int p1_persons, .int p1_skies, .int p1_oaths])), (a_p1_places, .inl (cI, 5, .inl p1_places)), (a_p1_kinds, .inl (cI, 5, .inl p1_kinds)), (a_p1_clapPlaces, .inl (cI, 5, .inl p1_clapPlaces)), (a_p1_louds, .inl (cI, 5, .inl p1_louds)), (a_p1_ones, .inl (cI, 5, .inl p1_ones)), (a_p1_others, .inl (cI, 5, .inl p1_others)), (a_p1_worths, .inl (cI, 5, .inl p1_worths)), (a_p1_hangs, .inl (cI, 5, .inl p1_hangs))]) rfl dX3_readPart_78 (fun H locs hW => ?_)
      refine lv_aload_n hx hb dX3_readPart_81 rfl (lv_at hl 1 rfl) ?_
      refine lv_iconst (v := 0) hx hb dX3_readPart_82 (by decide) ?_
      refine lv_iconst (v := -1) hx hb dX3_readPart_83 (by decide) ?_
      obtain ⟨r_12, hr_12, hf⟩ := bnd hf
      refine q_callVV hB hW (ci := 1) (q0 := 0) rfl rfl rfl (As := [.int (0 : Int32), .int (-1 : Int32)]) (rest := []) (ws' := [(a_p0, .inr (3, [.ref a_p0_text, .int w_11, .int r_9.2])), (a_p0_text, .inr (5, [.ref a_p0_text_letters, .int p0_text_length])), (a_p0_text_letters, .inl (cI, 60, .inl p0_text_letters)), (a_p1, .inr (1, [.ref a_p1_places, .ref a_p1_kinds, .ref a_p1_clapPlaces, .ref a_p1_louds, .ref a_p1_ones, .ref a_p1_others, .ref a_p1_worths, .ref a_p1_hangs, .int p1_persons, .int r_12.1, .int p1_oaths])), (a_p1_places, .inl (cI, 5, .inl p1_places)), (a_p1_kinds, .inl (cI, 5, .inl p1_kinds)), (a_p1_clapPlaces, .inl (cI, 5, .inl r_12.2.1)), (a_p1_louds, .inl (cI, 5, .inl r_12.2.2)), (a_p1_ones, .inl (cI, 5, .inl p1_ones)), (a_p1_others, .inl (cI, 5, .inl p1_others)), (a_p1_worths, .inl (cI, 5, .inl p1_worths)), (a_p1_hangs, .inl (cI, 5, .inl p1_hangs))]) (c_X1_addSky l D cI cZ a_p1 a_p1_places a_p1_kinds a_p1_clapPlaces a_p1_louds a_p1_ones a_p1_others a_p1_worths a_p1_hangs p1_persons p1_skies p1_oaths p1_clapPlaces p1_louds (0 : Int32) (-1 : Int32) r_12 hr_12) (cwV 2 hts gX3_readPart_X1_addSky rfl rfl rfl (by decide +kernel) ⟨Nat.le_of_ble_eq_true rfl, Nat.le_of_ble_eq_true rfl⟩) [3, 6, 7] rfl rfl rfl rfl rfl hl.1 rfl (Nat.le_of_ble_eq_true rfl) ⟨Nat.le_of_ble_eq_true rfl, Nat.le_of_ble_eq_true rfl⟩ dX3_readPart_84 (fun H locs hW => ?_)
      refine lv_goto (tgt := 111) hx hb dX3_readPart_87 (by decide) ?_
      exact hE _ _ _ _ (w_11, r_9.2, p1_persons, r_12.1, p1_oaths, p1_places, p1_kinds, r_12.2.1, r_12.2.2, p1_ones, p1_others, p1_worths, p1_hangs) (sm hf) hW dX3_readPart_111
  have hf := it_f c_8 hf
  refine lv_lookup (tgt := 106) (off := 95) hx hb dX3_readPart_11 (by decide) (lk_out c_2 c_4 c_6 c_8) (by decide) ?_
  refine lv_aload_n hx hb dX3_readPart_106 rfl (lv_at hl 0 rfl) ?_
  refine lv_iconst (v := 1) hx hb dX3_readPart_107 (by decide) ?_
  refine q_put hB hW 3 in_X3 tyX3 tyX3_ok nmX3 0 rfl rfl 2 (by decide) fl_19 rfl (by first | rfl | decide) (by first | rfl | decide) (Nat.le_of_ble_eq_true rfl) (ws' := [(a_p0, .inr (3, [.ref a_p0_text, .int p0_place, .int (1 : Int32)])), (a_p0_text, .inr (5, [.ref a_p0_text_letters, .int p0_text_length])), (a_p0_text_letters, .inl (cI, 60, .inl p0_text_letters)), (a_p1, .inr (1, [.ref a_p1_places, .ref a_p1_kinds, .ref a_p1_clapPlaces, .ref a_p1_louds, .ref a_p1_ones, .ref a_p1_others, .ref a_p1_worths, .ref a_p1_hangs, .int p1_persons, .int p1_skies, .int p1_oaths])), (a_p1_places, .inl (cI, 5, .inl p1_places)), (a_p1_kinds, .inl (cI, 5, .inl p1_kinds)), (a_p1_clapPlaces, .inl (cI, 5, .inl p1_clapPlaces)), (a_p1_louds, .inl (cI, 5, .inl p1_louds)), (a_p1_ones, .inl (cI, 5, .inl p1_ones)), (a_p1_others, .inl (cI, 5, .inl p1_others)), (a_p1_worths, .inl (cI, 5, .inl p1_worths)), (a_p1_hangs, .inl (cI, 5, .inl p1_hangs))]) rfl dX3_readPart_108 (fun H locs hW => ?_)
  exact hE _ _ _ _ (p0_place, (1 : Int32), p1_persons, p1_skies, p1_oaths, p1_places, p1_kinds, p1_clapPlaces, p1_louds, p1_ones, p1_others, p1_worths, p1_hangs) (sm hf) hW dX3_readPart_111
def b_X3_readInto_22 (p0_text_length : Int32) (p0_text_letters : Nat → Int32) (v2 : Int32) (p0_place : Int32) (p0_stopped : Int32) (p1_persons : Int32) (p1_skies : Int32) (p1_oaths : Int32) (p1_places : Nat → Int32) (p1_kinds : Nat → Int32) (p1_clapPlaces : Nat → Int32) (p1_louds : Nat → Int32) (p1_ones : Nat → Int32) (p1_others : Nat → Int32) (p1_worths : Nat → Int32) (p1_hangs : Nat → Int32) : Option ((Int32 × Int32 × Int32 × Int32 × Int32 × Int32 × (Nat → Int32) × (Nat → Int32) × (Nat → Int32) × (Nat → Int32) × (Nat → Int32) × (Nat → Int32) × (Nat → Int32) × (Nat → Int32)) ⊕ (Int32 × Int32 × Int32 × Int32 × Int32 × (Nat → Int32) × (Nat → Int32) × (Nat → Int32) × (Nat → Int32) × (Nat → Int32) × (Nat → Int32) × (Nat → Int32) × (Nat → Int32))) := if (60 : Int32) ≤ v2 then some (.inr (p0_place, p0_stopped, p1_persons, p1_skies, p1_oaths, p1_places, p1_kinds, p1_clapPlaces, p1_louds, p1_ones, p1_others, p1_worths, p1_hangs)) else if p0_stopped = (0 : Int32) then if p0_text_length ≤ p0_place then some (.inr (p0_place, p0_stopped, p1_persons, p1_skies, p1_oaths, p1_places, p1_kinds, p1_clapPlaces, p1_louds, p1_ones, p1_others, p1_worths, p1_hangs)) else (f_X3_readPart p0_place p0_stopped p0_text_length p0_text_letters p1_persons p1_skies p1_oaths p1_places p1_kinds p1_clapPlaces p1_louds p1_ones p1_others p1_worths p1_hangs).bind fun r_526 => some (.inl ((v2 + (1 : Int32)), r_526.1, r_526.2.1, r_526.2.2.1, r_526.2.2.2.1, r_526.2.2.2.2.1, r_526.2.2.2.2.2.1, r_526.2.2.2.2.2.2.1, r_526.2.2.2.2.2.2.2.1, r_526.2.2.2.2.2.2.2.2.1, r_526.2.2.2.2.2.2.2.2.2.1, r_526.2.2.2.2.2.2.2.2.2.2.1, r_526.2.2.2.2.2.2.2.2.2.2.2.1, r_526.2.2.2.2.2.2.2.2.2.2.2.2)) else some (.inr (p0_place, p0_stopped, p1_persons, p1_skies, p1_oaths, p1_places, p1_kinds, p1_clapPlaces, p1_louds, p1_ones, p1_others, p1_worths, p1_hangs))
def f_X3_readInto (p0_place : Int32) (p0_stopped : Int32) (p0_text_length : Int32) (p0_text_letters : Nat → Int32) (p1_persons : Int32) (p1_skies : Int32) (p1_oaths : Int32) (p1_places : Nat → Int32) (p1_kinds : Nat → Int32) (p1_clapPlaces : Nat → Int32) (p1_louds : Nat → Int32) (p1_ones : Nat → Int32) (p1_others : Nat → Int32) (p1_worths : Nat → Int32) (p1_hangs : Nat → Int32) : Option (Int32 × Int32 × Int32 × Int32 × Int32 × Int32 × (Nat → Int32) × (Nat → Int32) × (Nat → Int32) × (Nat → Int32) × (Nat → Int32) × (Nat → Int32) × (Nat → Int32) × (Nat → Int32)) := (f_X1_clear p1_persons p1_skies p1_oaths).bind fun r_1 => (f_X3_readLetter (76 : Int32) (0 : Int32) (0 : Int32) p0_text_length p0_text_letters).bind fun r_2 => (itr (fun s => b_X3_readInto_22 p0_text_length p0_text_letters s.1 s.2.1 s.2.2.1 s.2.2.2.1 s.2.2.2.2.1 s.2.2.2.2.2.1 s.2.2.2.2.2.2.1 s.2.2.2.2.2.2.2.1 s.2.2.2.2.2.2.2.2.1 s.2.2.2.2.2.2.2.2.2.1 s.2.2.2.2.2.2.2.2.2.2.1 s.2.2.2.2.2.2.2.2.2.2.2.1 s.2.2.2.2.2.2.2.2.2.2.2.2.1 s.2.2.2.2.2.2.2.2.2.2.2.2.2) FU ((0 : Int32), r_2.1, r_2.2, r_1.1, r_1.2.1, r_1.2.2, p1_places, p1_kinds, p1_clapPlaces, p1_louds, p1_ones, p1_others, p1_worths, p1_hangs)).bind fun x_22 => if x_22.2.1 = (0 : Int32) then some ((-9 : Int32), x_22.1, x_22.2.1, x_22.2.2.1, x_22.2.2.2.1, x_22.2.2.2.2.1, x_22.2.2.2.2.2.1, x_22.2.2.2.2.2.2.1, x_22.2.2.2.2.2.2.2.1, x_22.2.2.2.2.2.2.2.2.1, x_22.2.2.2.2.2.2.2.2.2.1, x_22.2.2.2.2.2.2.2.2.2.2.1, x_22.2.2.2.2.2.2.2.2.2.2.2.1, x_22.2.2.2.2.2.2.2.2.2.2.2.2) else some (x_22.1, x_22.1, x_22.2.1, x_22.2.2.1, x_22.2.2.2.1, x_22.2.2.2.2.1, x_22.2.2.2.2.2.1, x_22.2.2.2.2.2.2.1, x_22.2.2.2.2.2.2.2.1, x_22.2.2.2.2.2.2.2.2.1, x_22.2.2.2.2.2.2.2.2.2.1, x_22.2.2.2.2.2.2.2.2.2.2.1, x_22.2.2.2.2.2.2.2.2.2.2.2.1, x_22.2.2.2.2.2.2.2.2.2.2.2.2)
set_option maxHeartbeats 4000000 in
set_option maxRecDepth 100000 in
theorem c_X3_readInto (l : Launch) (D : va_G) (cI cZ : ClassId) (a_p0 a_p1 a_p0_text a_p0_text_letters a_p1_places a_p1_kinds a_p1_clapPlaces a_p1_louds a_p1_ones a_p1_others a_p1_worths a_p1_hangs : Nat) (p0_place : Int32) (p0_stopped : Int32) (p0_text_length : Int32) (p0_text_letters : Nat → Int32) (p1_persons : Int32) (p1_skies : Int32) (p1_oaths : Int32) (p1_places : Nat → Int32) (p1_kinds : Nat → Int32) (p1_clapPlaces : Nat → Int32) (p1_louds : Nat → Int32) (p1_ones : Nat → Int32) (p1_others : Nat → Int32) (p1_worths : Nat → Int32) (p1_hangs : Nat → Int32) (q : Int32 × Int32 × Int32 × Int32 × Int32 × Int32 × (Nat → Int32) × (Nat → Int32) × (Nat → Int32) × (Nat → Int32) × (Nat → Int32) × (Nat → Int32) × (Nat → Int32) × (Nat → Int32)) (hf : f_X3_readInto p0_place p0_stopped p0_text_length p0_text_letters p1_persons p1_skies p1_oaths p1_places p1_kinds p1_clapPlaces p1_louds p1_ones p1_others p1_worths p1_hangs = some q) : CtI l D cI cZ yX3_readInto wsX3_readInto 5 112 [.ref a_p0, .ref a_p1] [(a_p0, .inr (3, [.ref a_p0_text, .int p0_place, .int p0_stopped])), (a_p0_text, .inr (5, [.ref a_p0_text_letters, .int p0_text_length])), (a_p0_text_letters, .inl (cI, 60, .inl p0_text_letters)), (a_p1, .inr (1, [.ref a_p1_places, .ref a_p1_kinds, .ref a_p1_clapPlaces, .ref a_p1_louds, .ref a_p1_ones, .ref a_p1_others, .ref a_p1_worths, .ref a_p1_hangs, .int p1_persons, .int p1_skies, .int p1_oaths])), (a_p1_places, .inl (cI, 5, .inl p1_places)), (a_p1_kinds, .inl (cI, 5, .inl p1_kinds)), (a_p1_clapPlaces, .inl (cI, 5, .inl p1_clapPlaces)), (a_p1_louds, .inl (cI, 5, .inl p1_louds)), (a_p1_ones, .inl (cI, 5, .inl p1_ones)), (a_p1_others, .inl (cI, 5, .inl p1_others)), (a_p1_worths, .inl (cI, 5, .inl p1_worths)), (a_p1_hangs, .inl (cI, 5, .inl p1_hangs))] (fun q => [(a_p0, .inr (3, [.ref a_p0_text, .int q.2.1, .int q.2.2.1])), (a_p0_text, .inr (5, [.ref a_p0_text_letters, .int p0_text_length])), (a_p0_text_letters, .inl (cI, 60, .inl p0_text_letters)), (a_p1, .inr (1, [.ref a_p1_places, .ref a_p1_kinds, .ref a_p1_clapPlaces, .ref a_p1_louds, .ref a_p1_ones, .ref a_p1_others, .ref a_p1_worths, .ref a_p1_hangs, .int q.2.2.2.1, .int q.2.2.2.2.1, .int q.2.2.2.2.2.1])), (a_p1_places, .inl (cI, 5, .inl q.2.2.2.2.2.2.1)), (a_p1_kinds, .inl (cI, 5, .inl q.2.2.2.2.2.2.2.1)), (a_p1_clapPlaces, .inl (cI, 5, .inl q.2.2.2.2.2.2.2.2.1)), (a_p1_louds, .inl (cI, 5, .inl q.2.2.2.2.2.2.2.2.2.1)), (a_p1_ones, .inl (cI, 5, .inl q.2.2.2.2.2.2.2.2.2.2.1)), (a_p1_others, .inl (cI, 5, .inl q.2.2.2.2.2.2.2.2.2.2.2.1)), (a_p1_worths, .inl (cI, 5, .inl q.2.2.2.2.2.2.2.2.2.2.2.2.1)), (a_p1_hangs, .inl (cI, 5, .inl q.2.2.2.2.2.2.2.2.2.2.2.2.2))]) (fun q => q.1) q := by
  refine CtI.of (cc := cX3_readInto) (maxL := 3) (plainFor_of_name (by decide)) rfl (Nat.le_of_ble_eq_true rfl) ?_
  intro p e s m args below meth c A Q H ls hB hE hW hl
  have hx := hB.1
  have hb := hB.2.1
  have hml := hB.2.2.2.1
  have hown : s.vm.findClass RX3 = some m.cls := hB.2.2.2.2.1
  have hts := hB.2.2.2.2.2.1
  have hK := hB.2.2.2.2.2.2.2.1.1
  have hl : lv_has ls 3 [(0, .ref a_p0), (1, .ref a_p1)] := hl
  have in_X3 : ∀ w ∈ wsX30, w ∈ wsX3_readInto := fun w h => List.mem_cons_of_mem _ (List.mem_append_left _ (List.mem_append_left _ (List.mem_append_right _ h)))
  have in_X5 : ∀ w ∈ wsX50, w ∈ wsX3_readInto := fun w h => List.mem_cons_of_mem _ (List.mem_append_left _ (List.mem_append_right _ h))
  have fl_9 : (Cond.fieldLink RX3 9 (TX3 0).1 (TX3 0).2.1 (TX3 0).2.2.1).before args s = true := hts (.fieldLink RX3 9 "ClapOaths$Reader" "text" "LClapOaths$Text;") (by decide +kernel)
  have fl_15 : (Cond.fieldLink RX3 15 (TX3 1).1 (TX3 1).2.1 (TX3 1).2.2.1).before args s = true := hts (.fieldLink RX3 15 "ClapOaths$Reader" "place" "I") (by decide +kernel)
  have fl_19 : (Cond.fieldLink RX3 19 (TX3 2).1 (TX3 2).2.1 (TX3 2).2.2.1).before args s = true := hts (.fieldLink RX3 19 "ClapOaths$Reader" "stopped" "Z") (by decide +kernel)
  have fl_32 : (Cond.fieldLink RX3 32 (TX5 1).1 (TX5 1).2.1 (TX5 1).2.2.1).before args s = true := hts (.fieldLink RX3 32 "ClapOaths$Text" "length" "I") (by decide +kernel)
  unfold f_X3_readInto at hf
  refine lv_aload_n hx hb dX3_readInto_0 rfl (lv_at hl 1 rfl) ?_
  obtain ⟨r_1, hr_1, hf⟩ := bnd hf
  refine q_callVV hB hW (ci := 1) (q0 := 0) rfl rfl rfl (As := []) (rest := []) (ws' := [(a_p0, .inr (3, [.ref a_p0_text, .int p0_place, .int p0_stopped])), (a_p0_text, .inr (5, [.ref a_p0_text_letters, .int p0_text_length])), (a_p0_text_letters, .inl (cI, 60, .inl p0_text_letters)), (a_p1, .inr (1, [.ref a_p1_places, .ref a_p1_kinds, .ref a_p1_clapPlaces, .ref a_p1_louds, .ref a_p1_ones, .ref a_p1_others, .ref a_p1_worths, .ref a_p1_hangs, .int r_1.1, .int r_1.2.1, .int r_1.2.2])), (a_p1_places, .inl (cI, 5, .inl p1_places)), (a_p1_kinds, .inl (cI, 5, .inl p1_kinds)), (a_p1_clapPlaces, .inl (cI, 5, .inl p1_clapPlaces)), (a_p1_louds, .inl (cI, 5, .inl p1_louds)), (a_p1_ones, .inl (cI, 5, .inl p1_ones)), (a_p1_others, .inl (cI, 5, .inl p1_others)), (a_p1_worths, .inl (cI, 5, .inl p1_worths)), (a_p1_hangs, .inl (cI, 5, .inl p1_hangs))]) (c_X1_clear l D cI cZ a_p1 a_p1_places a_p1_kinds a_p1_clapPlaces a_p1_louds a_p1_ones a_p1_others a_p1_worths a_p1_hangs p1_persons p1_skies p1_oaths r_1 hr_1) (cwV 0 hts gX3_readInto_X1_clear rfl rfl rfl (by decide +kernel) ⟨Nat.le_of_ble_eq_true rfl, Nat.le_of_ble_eq_true rfl⟩) [3] rfl rfl rfl rfl rfl hl.1 rfl (Nat.le_of_ble_eq_true rfl) ⟨Nat.le_of_ble_eq_true rfl, Nat.le_of_ble_eq_true rfl⟩ dX3_readInto_1 (fun H locs hW => ?_)
  refine lv_aload_n hx hb dX3_readInto_4 rfl (lv_at hl 0 rfl) ?_
  refine lv_iconst (v := 0) hx hb dX3_readInto_5 (by decide) ?_
  refine q_put hB hW 3 in_X3 tyX3 tyX3_ok nmX3 0 rfl rfl 1 (by decide) fl_15 rfl (by first | rfl | decide) (by first | rfl | decide) (Nat.le_of_ble_eq_true rfl) (ws' := [(a_p0, .inr (3, [.ref a_p0_text, .int (0 : Int32), .int p0_stopped])), (a_p0_text, .inr (5, [.ref a_p0_text_letters, .int p0_text_length])), (a_p0_text_letters, .inl (cI, 60, .inl p0_text_letters)), (a_p1, .inr (1, [.ref a_p1_places, .ref a_p1_kinds, .ref a_p1_clapPlaces, .ref a_p1_louds, .ref a_p1_ones, .ref a_p1_others, .ref a_p1_worths, .ref a_p1_hangs, .int r_1.1, .int r_1.2.1, .int r_1.2.2])), (a_p1_places, .inl (cI, 5, .inl p1_places)), (a_p1_kinds, .inl (cI, 5, .inl p1_kinds)), (a_p1_clapPlaces, .inl (cI, 5, .inl p1_clapPlaces)), (a_p1_louds, .inl (cI, 5, .inl p1_louds)), (a_p1_ones, .inl (cI, 5, .inl p1_ones)), (a_p1_others, .inl (cI, 5, .inl p1_others)), (a_p1_worths, .inl (cI, 5, .inl p1_worths)), (a_p1_hangs, .inl (cI, 5, .inl p1_hangs))]) rfl dX3_readInto_6 (fun H locs hW => ?_)
  refine lv_aload_n hx hb dX3_readInto_9 rfl (lv_at hl 0 rfl) ?_
  refine lv_iconst (v := 0) hx hb dX3_readInto_10 (by decide) ?_
  refine q_put hB hW 3 in_X3 tyX3 tyX3_ok nmX3 0 rfl rfl 2 (by decide) fl_19 rfl (by first | rfl | decide) (by first | rfl | decide) (Nat.le_of_ble_eq_true rfl) (ws' := [(a_p0, .inr (3, [.ref a_p0_text, .int (0 : Int32), .int (0 : Int32)])), (a_p0_text, .inr (5, [.ref a_p0_text_letters, .int p0_text_length])), (a_p0_text_letters, .inl (cI, 60, .inl p0_text_letters)), (a_p1, .inr (1, [.ref a_p1_places, .ref a_p1_kinds, .ref a_p1_clapPlaces, .ref a_p1_louds, .ref a_p1_ones, .ref a_p1_others, .ref a_p1_worths, .ref a_p1_hangs, .int r_1.1, .int r_1.2.1, .int r_1.2.2])), (a_p1_places, .inl (cI, 5, .inl p1_places)), (a_p1_kinds, .inl (cI, 5, .inl p1_kinds)), (a_p1_clapPlaces, .inl (cI, 5, .inl p1_clapPlaces)), (a_p1_louds, .inl (cI, 5, .inl p1_louds)), (a_p1_ones, .inl (cI, 5, .inl p1_ones)), (a_p1_others, .inl (cI, 5, .inl p1_others)), (a_p1_worths, .inl (cI, 5, .inl p1_worths)), (a_p1_hangs, .inl (cI, 5, .inl p1_hangs))]) rfl dX3_readInto_11 (fun H locs hW => ?_)
  refine lv_aload_n hx hb dX3_readInto_14 rfl (lv_at hl 0 rfl) ?_
  refine lv_bipush (v := 76) hx hb dX3_readInto_15 (by decide) ?_
  obtain ⟨r_2, hr_2, hf⟩ := bnd hf
  refine q_callVV hB hW (ci := 3) (q0 := 0) rfl rfl rfl (As := [.int (76 : Int32)]) (rest := []) (ws' := [(a_p0, .inr (3, [.ref a_p0_text, .int r_2.1, .int r_2.2])), (a_p0_text, .inr (5, [.ref a_p0_text_letters, .int p0_text_length])), (a_p0_text_letters, .inl (cI, 60, .inl p0_text_letters)), (a_p1, .inr (1, [.ref a_p1_places, .ref a_p1_kinds, .ref a_p1_clapPlaces, .ref a_p1_louds, .ref a_p1_ones, .ref a_p1_others, .ref a_p1_worths, .ref a_p1_hangs, .int r_1.1, .int r_1.2.1, .int r_1.2.2])), (a_p1_places, .inl (cI, 5, .inl p1_places)), (a_p1_kinds, .inl (cI, 5, .inl p1_kinds)), (a_p1_clapPlaces, .inl (cI, 5, .inl p1_clapPlaces)), (a_p1_louds, .inl (cI, 5, .inl p1_louds)), (a_p1_ones, .inl (cI, 5, .inl p1_ones)), (a_p1_others, .inl (cI, 5, .inl p1_others)), (a_p1_worths, .inl (cI, 5, .inl p1_worths)), (a_p1_hangs, .inl (cI, 5, .inl p1_hangs))]) (c_X3_readLetter l D cI cZ a_p0 a_p0_text a_p0_text_letters (0 : Int32) (0 : Int32) p0_text_length p0_text_letters (76 : Int32) r_2 hr_2) (cwV 1 hts gX3_readInto_X3_readLetter rfl rfl rfl (by decide +kernel) ⟨Nat.le_of_ble_eq_true rfl, Nat.le_of_ble_eq_true rfl⟩) [0, 1, 2] rfl rfl rfl rfl rfl hl.1 rfl (Nat.le_of_ble_eq_true rfl) ⟨Nat.le_of_ble_eq_true rfl, Nat.le_of_ble_eq_true rfl⟩ dX3_readInto_17 (fun H locs hW => ?_)
  refine lv_iconst (v := 0) hx hb dX3_readInto_20 (by decide) ?_
  refine lv_istore_n (lv' := [(2, .int (0 : Int32)), (0, .ref a_p0), (1, .ref a_p1)]) hx hb dX3_readInto_21 rfl hl (by decide) rfl (fun ls hl => ?_)
  obtain ⟨e_22, hl_22, hk_22⟩ := bnd hf
  have K_22 : ∀ x_22 : Int32 × Int32 × Int32 × Int32 × Int32 × (Nat → Int32) × (Nat → Int32) × (Nat → Int32) × (Nat → Int32) × (Nat → Int32) × (Nat → Int32) × (Nat → Int32) × (Nat → Int32), x_22 = e_22 → ∀ (H : Heap) (locs : List Loc) (ls : Array Slot), Wl D A s.heap [(a_p0, .inr (3, [.ref a_p0_text, .int x_22.1, .int x_22.2.1])), (a_p0_text, .inr (5, [.ref a_p0_text_letters, .int p0_text_length])), (a_p0_text_letters, .inl (cI, 60, .inl p0_text_letters)), (a_p1, .inr (1, [.ref a_p1_places, .ref a_p1_kinds, .ref a_p1_clapPlaces, .ref a_p1_louds, .ref a_p1_ones, .ref a_p1_others, .ref a_p1_worths, .ref a_p1_hangs, .int x_22.2.2.1, .int x_22.2.2.2.1, .int x_22.2.2.2.2.1])), (a_p1_places, .inl (cI, 5, .inl x_22.2.2.2.2.2.1)), (a_p1_kinds, .inl (cI, 5, .inl x_22.2.2.2.2.2.2.1)), (a_p1_clapPlaces, .inl (cI, 5, .inl x_22.2.2.2.2.2.2.2.1)), (a_p1_louds, .inl (cI, 5, .inl x_22.2.2.2.2.2.2.2.2.1)), (a_p1_ones, .inl (cI, 5, .inl x_22.2.2.2.2.2.2.2.2.2.1)), (a_p1_others, .inl (cI, 5, .inl x_22.2.2.2.2.2.2.2.2.2.2.1)), (a_p1_worths, .inl (cI, 5, .inl x_22.2.2.2.2.2.2.2.2.2.2.2.1)), (a_p1_hangs, .inl (cI, 5, .inl x_22.2.2.2.2.2.2.2.2.2.2.2.2))] H locs → lv_has ls 3 [(0, .ref a_p0)] → W p l e (Rm 5 112) s m args below meth c H locs 0 0 Q (F0 m 60 ls []) := by
    intro x_22 hx_22 H locs ls hW hl
    have hf := hk_22
    rw [← hx_22] at hf
    refine lv_aload_n hx hb dX3_readInto_60 rfl (lv_at hl 0 rfl) ?_
    refine q_get hB hW 3 in_X3 0 rfl rfl 2 (by decide) fl_19 (v := .int x_22.2.1) rfl dX3_readInto_61 ?_
    refine lv_if_eq (tgt := 74) hx hb dX3_readInto_64 (by decide) (fun c_3 => ?_) (fun c_3 => ?_)
    · have hf := it_t c_3 hf
      refine lv_bipush (v := -9) hx hb dX3_readInto_74 (by decide) ?_
      exact hE _ _ _ _ _ ((-9 : Int32), x_22.1, x_22.2.1, x_22.2.2.1, x_22.2.2.2.1, x_22.2.2.2.2.1, x_22.2.2.2.2.2.1, x_22.2.2.2.2.2.2.1, x_22.2.2.2.2.2.2.2.1, x_22.2.2.2.2.2.2.2.2.1, x_22.2.2.2.2.2.2.2.2.2.1, x_22.2.2.2.2.2.2.2.2.2.2.1, x_22.2.2.2.2.2.2.2.2.2.2.2.1, x_22.2.2.2.2.2.2.2.2.2.2.2.2) (sm hf) hW rfl dX3_readInto_76
    · have hf := it_f c_3 hf
      refine lv_aload_n hx hb dX3_readInto_67 rfl (lv_at hl 0 rfl) ?_
      refine q_get hB hW 3 in_X3 0 rfl rfl 1 (by decide) fl_15 (v := .int x_22.1) rfl dX3_readInto_68 ?_
      refine lv_goto (tgt := 76) hx hb dX3_readInto_71 (by decide) ?_
      exact hE _ _ _ _ _ (x_22.1, x_22.1, x_22.2.1, x_22.2.2.1, x_22.2.2.2.1, x_22.2.2.2.2.1, x_22.2.2.2.2.2.1, x_22.2.2.2.2.2.2.1, x_22.2.2.2.2.2.2.2.1, x_22.2.2.2.2.2.2.2.2.1, x_22.2.2.2.2.2.2.2.2.2.1, x_22.2.2.2.2.2.2.2.2.2.2.1, x_22.2.2.2.2.2.2.2.2.2.2.2.1, x_22.2.2.2.2.2.2.2.2.2.2.2.2) (sm hf) hW rfl dX3_readInto_76
  have L_22 : ∀ (n : Nat) (y22_2 : Int32) (y22_p0_place : Int32) (y22_p0_stopped : Int32) (y22_p1_persons : Int32) (y22_p1_skies : Int32) (y22_p1_oaths : Int32) (y22_p1_places : Nat → Int32) (y22_p1_kinds : Nat → Int32) (y22_p1_clapPlaces : Nat → Int32) (y22_p1_louds : Nat → Int32) (y22_p1_ones : Nat → Int32) (y22_p1_others : Nat → Int32) (y22_p1_worths : Nat → Int32) (y22_p1_hangs : Nat → Int32) (H : Heap) (locs : List Loc) (ls : Array Slot), itr (fun s => b_X3_readInto_22 p0_text_length p0_text_letters s.1 s.2.1 s.2.2.1 s.2.2.2.1 s.2.2.2.2.1 s.2.2.2.2.2.1 s.2.2.2.2.2.2.1 s.2.2.2.2.2.2.2.1 s.2.2.2.2.2.2.2.2.1 s.2.2.2.2.2.2.2.2.2.1 s.2.2.2.2.2.2.2.2.2.2.1 s.2.2.2.2.2.2.2.2.2.2.2.1 s.2.2.2.2.2.2.2.2.2.2.2.2.1 s.2.2.2.2.2.2.2.2.2.2.2.2.2) n (y22_2, y22_p0_place, y22_p0_stopped, y22_p1_persons, y22_p1_skies, y22_p1_oaths, y22_p1_places, y22_p1_kinds, y22_p1_clapPlaces, y22_p1_louds, y22_p1_ones, y22_p1_others, y22_p1_worths, y22_p1_hangs) = some e_22 → Wl D A s.heap [(a_p0, .inr (3, [.ref a_p0_text, .int y22_p0_place, .int y22_p0_stopped])), (a_p0_text, .inr (5, [.ref a_p0_text_letters, .int p0_text_length])), (a_p0_text_letters, .inl (cI, 60, .inl p0_text_letters)), (a_p1, .inr (1, [.ref a_p1_places, .ref a_p1_kinds, .ref a_p1_clapPlaces, .ref a_p1_louds, .ref a_p1_ones, .ref a_p1_others, .ref a_p1_worths, .ref a_p1_hangs, .int y22_p1_persons, .int y22_p1_skies, .int y22_p1_oaths])), (a_p1_places, .inl (cI, 5, .inl y22_p1_places)), (a_p1_kinds, .inl (cI, 5, .inl y22_p1_kinds)), (a_p1_clapPlaces, .inl (cI, 5, .inl y22_p1_clapPlaces)), (a_p1_louds, .inl (cI, 5, .inl y22_p1_louds)), (a_p1_ones, .inl (cI, 5, .inl y22_p1_ones)), (a_p1_others, .inl (cI, 5, .inl y22_p1_others)), (a_p1_worths, .inl (cI, 5, .inl y22_p1_worths)), (a_p1_hangs, .inl (cI, 5, .inl y22_p1_hangs))] H locs → lv_has ls 3 [(0, .ref a_p0), (1, .ref a_p1), (2, .int y22_2)] → W p l e (Rm 5 112) s m args below meth c H locs 0 0 Q (F0 m 22 ls []) := by
    intro n
    induction n with
    | zero => intro y22_2 y22_p0_place y22_p0_stopped y22_p1_persons y22_p1_skies y22_p1_oaths y22_p1_places y22_p1_kinds y22_p1_clapPlaces y22_p1_louds y22_p1_ones y22_p1_others y22_p1_worths y22_p1_hangs H locs ls h9; exact itr_0 h9
    | succ n ih =>
      intro y22_2 y22_p0_place y22_p0_stopped y22_p1_persons y22_p1_skies y22_p1_oaths y22_p1_places y22_p1_kinds y22_p1_clapPlaces y22_p1_louds y22_p1_ones y22_p1_others y22_p1_worths y22_p1_hangs H locs ls hf hW hl
      obtain ⟨o_22, hf, ho_22⟩ := itr_inv hf
      have hf : b_X3_readInto_22 p0_text_length p0_text_letters y22_2 y22_p0_place y22_p0_stopped y22_p1_persons y22_p1_skies y22_p1_oaths y22_p1_places y22_p1_kinds y22_p1_clapPlaces y22_p1_louds y22_p1_ones y22_p1_others y22_p1_worths y22_p1_hangs = some o_22 := hf
      unfold b_X3_readInto_22 at hf
      refine lv_iload_n hx hb dX3_readInto_22 rfl (lv_at hl 2 rfl) ?_
      refine lv_bipush (v := 60) hx hb dX3_readInto_23 (by decide) ?_
      refine lv_icmp_ge (tgt := 60) hx hb dX3_readInto_25 (by decide) (fun c_4 => ?_) (fun c_4 => ?_)
      · have hf := it_t c_4 hf
        have h9 := o_inr hf ho_22
        exact K_22 (y22_p0_place, y22_p0_stopped, y22_p1_persons, y22_p1_skies, y22_p1_oaths, y22_p1_places, y22_p1_kinds, y22_p1_clapPlaces, y22_p1_louds, y22_p1_ones, y22_p1_others, y22_p1_worths, y22_p1_hangs) h9 _ _ _ hW (lv_sub hl [0] rfl)
      · have hf := it_f c_4 hf
        refine lv_aload_n hx hb dX3_readInto_28 rfl (lv_at hl 0 rfl) ?_
        refine q_get hB hW 3 in_X3 0 rfl rfl 2 (by decide) fl_19 (v := .int y22_p0_stopped) rfl dX3_readInto_29 ?_
        refine lv_if_ne (tgt := 60) hx hb dX3_readInto_32 (by decide) (fun c_5 => ?_) (fun c_5 => ?_)
        · have hf := it_f c_5 hf
          have h9 := o_inr hf ho_22
          exact K_22 (y22_p0_place, y22_p0_stopped, y22_p1_persons, y22_p1_skies, y22_p1_oaths, y22_p1_places, y22_p1_kinds, y22_p1_clapPlaces, y22_p1_louds, y22_p1_ones, y22_p1_others, y22_p1_worths, y22_p1_hangs) h9 _ _ _ hW (lv_sub hl [0] rfl)
        · have hf := it_t c_5 hf
          refine lv_aload_n hx hb dX3_readInto_35 rfl (lv_at hl 0 rfl) ?_
          refine q_get hB hW 3 in_X3 0 rfl rfl 1 (by decide) fl_15 (v := .int y22_p0_place) rfl dX3_readInto_36 ?_
          refine lv_aload_n hx hb dX3_readInto_39 rfl (lv_at hl 0 rfl) ?_
          refine q_get hB hW 3 in_X3 0 rfl rfl 0 (by decide) fl_9 (v := .ref a_p0_text) rfl dX3_readInto_40 ?_
          refine q_get hB hW 5 in_X5 1 rfl rfl 1 (by decide) fl_32 (v := .int p0_text_length) rfl dX3_readInto_43 ?_
          refine lv_icmp_ge (tgt := 60) hx hb dX3_readInto_46 (by decide) (fun c_6 => ?_) (fun c_6 => ?_)
          · have hf := it_t c_6 hf
            have h9 := o_inr hf ho_22
            exact K_22 (y22_p0_place, y22_p0_stopped, y22_p1_persons, y22_p1_skies, y22_p1_oaths, y22_p1_places, y22_p1_kinds, y22_p1_clapPlaces, y22_p1_louds, y22_p1_ones, y22_p1_others, y22_p1_worths, y22_p1_hangs) h9 _ _ _ hW (lv_sub hl [0] rfl)
          · have hf := it_f c_6 hf
            refine lv_aload_n hx hb dX3_readInto_49 rfl (lv_at hl 0 rfl) ?_
            refine lv_aload_n hx hb dX3_readInto_50 rfl (lv_at hl 1 rfl) ?_
            obtain ⟨r_7, hr_7, hf⟩ := bnd hf
            refine q_callVV hB hW (ci := 3) (q0 := 0) rfl rfl rfl (As := [.ref a_p1]) (rest := []) (ws' := [(a_p0, .inr (3, [.ref a_p0_text, .int r_7.1, .int r_7.2.1])), (a_p0_text, .inr (5, [.ref a_p0_text_letters, .int p0_text_length])), (a_p0_text_letters, .inl (cI, 60, .inl p0_text_letters)), (a_p1, .inr (1, [.ref a_p1_places, .ref a_p1_kinds, .ref a_p1_clapPlaces, .ref a_p1_louds, .ref a_p1_ones, .ref a_p1_others, .ref a_p1_worths, .ref a_p1_hangs, .int r_7.2.2.1, .int r_7.2.2.2.1, .int r_7.2.2.2.2.1])), (a_p1_places, .inl (cI, 5, .inl r_7.2.2.2.2.2.1)), (a_p1_kinds, .inl (cI, 5, .inl r_7.2.2.2.2.2.2.1)), (a_p1_clapPlaces, .inl (cI, 5, .inl r_7.2.2.2.2.2.2.2.1)), (a_p1_louds, .inl (cI, 5, .inl r_7.2.2.2.2.2.2.2.2.1)), (a_p1_ones, .inl (cI, 5, .inl r_7.2.2.2.2.2.2.2.2.2.1)), (a_p1_others, .inl (cI, 5, .inl r_7.2.2.2.2.2.2.2.2.2.2.1)), (a_p1_worths, .inl (cI, 5, .inl r_7.2.2.2.2.2.2.2.2.2.2.2.1)), (a_p1_hangs, .inl (cI, 5, .inl r_7.2.2.2.2.2.2.2.2.2.2.2.2))]) (c_X3_readPart l D cI cZ a_p0 a_p1 a_p0_text a_p0_text_letters a_p1_places a_p1_kinds a_p1_clapPlaces a_p1_louds a_p1_ones a_p1_others a_p1_worths a_p1_hangs y22_p0_place y22_p0_stopped p0_text_length p0_text_letters y22_p1_persons y22_p1_skies y22_p1_oaths y22_p1_places y22_p1_kinds y22_p1_clapPlaces y22_p1_louds y22_p1_ones y22_p1_others y22_p1_worths y22_p1_hangs r_7 hr_7) (cwV 1 hts gX3_readInto_X3_readPart rfl rfl rfl (by decide +kernel) ⟨Nat.le_of_ble_eq_true rfl, Nat.le_of_ble_eq_true rfl⟩) [0, 1, 2, 3, 4, 5, 6, 7, 8, 9, 10, 11] rfl rfl rfl rfl rfl hl.1 rfl (Nat.le_of_ble_eq_true rfl) ⟨Nat.le_of_ble_eq_true rfl, Nat.le_of_ble_eq_true rfl⟩ dX3_readInto_51 (fun H locs hW => ?_)
            refine lv_iinc (v := (y22_2 + (1 : Int32))) (lv' := [(2, .int (y22_2 + (1 : Int32))), (0, .ref a_p0), (1, .ref a_p1)]) hx hb dX3_readInto_54 hl (k := 2) rfl rfl (by decide) rfl (fun ls hl => ?_)
            refine lv_goto (tgt := 22) hx hb dX3_readInto_57 (by decide) ?_
            have h9 := o_inl hf ho_22
            exact ih (y22_2 + (1 : Int32)) r_7.1 r_7.2.1 r_7.2.2.1 r_7.2.2.2.1 r_7.2.2.2.2.1 r_7.2.2.2.2.2.1 r_7.2.2.2.2.2.2.1 r_7.2.2.2.2.2.2.2.1 r_7.2.2.2.2.2.2.2.2.1 r_7.2.2.2.2.2.2.2.2.2.1 r_7.2.2.2.2.2.2.2.2.2.2.1 r_7.2.2.2.2.2.2.2.2.2.2.2.1 r_7.2.2.2.2.2.2.2.2.2.2.2.2 _ _ _ h9 hW (lv_sub hl [1, 2, 0] rfl)
  exact L_22 FU (0 : Int32) r_2.1 r_2.2 r_1.1 r_1.2.1 r_1.2.2 p1_places p1_kinds p1_clapPlaces p1_louds p1_ones p1_others p1_worths p1_hangs _ _ _ hl_22 hW (lv_sub hl [1, 2, 0] rfl)
def f_X6_fault (p0_text_length : Int32) (p0_reader_place : Int32) (p0_reader_stopped : Int32) (p0_draft_persons : Int32) (p0_draft_skies : Int32) (p0_draft_oaths : Int32) (p0_text_letters : Nat → Int32) (p0_draft_places : Nat → Int32) (p0_draft_kinds : Nat → Int32) (p0_draft_clapPlaces : Nat → Int32) (p0_draft_louds : Nat → Int32) (p0_draft_ones : Nat → Int32) (p0_draft_others : Nat → Int32) (p0_draft_worths : Nat → Int32) (p0_draft_hangs : Nat → Int32) : Option (Int32 × Int32 × Int32 × Int32 × Int32 × Int32 × (Nat → Int32) × (Nat → Int32) × (Nat → Int32) × (Nat → Int32) × (Nat → Int32) × (Nat → Int32) × (Nat → Int32) × (Nat → Int32)) := (f_X3_readInto p0_reader_place p0_reader_stopped p0_text_length p0_text_letters p0_draft_persons p0_draft_skies p0_draft_oaths p0_draft_places p0_draft_kinds p0_draft_clapPlaces p0_draft_louds p0_draft_ones p0_draft_others p0_draft_worths p0_draft_hangs).bind fun r_1 => some (r_1.1, r_1.2.1, r_1.2.2.1, r_1.2.2.2.1, r_1.2.2.2.2.1, r_1.2.2.2.2.2.1, r_1.2.2.2.2.2.2.1, r_1.2.2.2.2.2.2.2.1, r_1.2.2.2.2.2.2.2.2.1, r_1.2.2.2.2.2.2.2.2.2.1, r_1.2.2.2.2.2.2.2.2.2.2.1, r_1.2.2.2.2.2.2.2.2.2.2.2.1, r_1.2.2.2.2.2.2.2.2.2.2.2.2.1, r_1.2.2.2.2.2.2.2.2.2.2.2.2.2)
set_option maxHeartbeats 4000000 in
set_option maxRecDepth 100000 in
theorem c_X6_fault (l : Launch) (D : va_G) (cI cZ : ClassId) (a_p0 a_p0_text a_p0_reader a_p0_draft a_p0_land a_p0_now a_p0_trial a_p0_acts a_p0_hearings a_p0_kept a_p0_text_letters a_p0_draft_places a_p0_draft_kinds a_p0_draft_clapPlaces a_p0_draft_louds a_p0_draft_ones a_p0_draft_others a_p0_draft_worths a_p0_draft_hangs : Nat) (p0_keptSlots : Int32) (p0_seedNow : Int64) (p0_text_length : Int32) (p0_reader_place : Int32) (p0_reader_stopped : Int32) (p0_draft_persons : Int32) (p0_draft_skies : Int32) (p0_draft_oaths : Int32) (p0_text_letters : Nat → Int32) (p0_draft_places : Nat → Int32) (p0_draft_kinds : Nat → Int32) (p0_draft_clapPlaces : Nat → Int32) (p0_draft_louds : Nat → Int32) (p0_draft_ones : Nat → Int32) (p0_draft_others : Nat → Int32) (p0_draft_worths : Nat → Int32) (p0_draft_hangs : Nat → Int32) (q : Int32 × Int32 × Int32 × Int32 × Int32 × Int32 × (Nat → Int32) × (Nat → Int32) × (Nat → Int32) × (Nat → Int32) × (Nat → Int32) × (Nat → Int32) × (Nat → Int32) × (Nat → Int32)) (hf : f_X6_fault p0_text_length p0_reader_place p0_reader_stopped p0_draft_persons p0_draft_skies p0_draft_oaths p0_text_letters p0_draft_places p0_draft_kinds p0_draft_clapPlaces p0_draft_louds p0_draft_ones p0_draft_others p0_draft_worths p0_draft_hangs = some q) : CtI l D cI cZ yX6_fault wsX6_fault 6 134 [.ref a_p0] [(a_p0, .inr (6, [.ref a_p0_text, .ref a_p0_reader, .ref a_p0_draft, .ref a_p0_land, .ref a_p0_now, .ref a_p0_trial, .ref a_p0_acts, .ref a_p0_hearings, .ref a_p0_kept, .int p0_keptSlots, .long p0_seedNow])), (a_p0_text, .inr (5, [.ref a_p0_text_letters, .int p0_text_length])), (a_p0_reader, .inr (3, [.ref a_p0_text, .int p0_reader_place, .int p0_reader_stopped])), (a_p0_draft, .inr (1, [.ref a_p0_draft_places, .ref a_p0_draft_kinds, .ref a_p0_draft_clapPlaces, .ref a_p0_draft_louds, .ref a_p0_draft_ones, .ref a_p0_draft_others, .ref a_p0_draft_worths, .ref a_p0_draft_hangs, .int p0_draft_persons, .int p0_draft_skies, .int p0_draft_oaths])), (a_p0_text_letters, .inl (cI, 60, .inl p0_text_letters)), (a_p0_draft_places, .inl (cI, 5, .inl p0_draft_places)), (a_p0_draft_kinds, .inl (cI, 5, .inl p0_draft_kinds)), (a_p0_draft_clapPlaces, .inl (cI, 5, .inl p0_draft_clapPlaces)), (a_p0_draft_louds, .inl (cI, 5, .inl p0_draft_louds)), (a_p0_draft_ones, .inl (cI, 5, .inl p0_draft_ones)), (a_p0_draft_others, .inl (cI, 5, .inl p0_draft_others)), (a_p0_draft_worths, .inl (cI, 5, .inl p0_draft_worths)), (a_p0_draft_hangs, .inl (cI, 5, .inl p0_draft_hangs))] (fun q => [(a_p0, .inr (6, [.ref a_p0_text, .ref a_p0_reader, .ref a_p0_draft, .ref a_p0_land, .ref a_p0_now, .ref a_p0_trial, .ref a_p0_acts, .ref a_p0_hearings, .ref a_p0_kept, .int p0_keptSlots, .long p0_seedNow])), (a_p0_text, .inr (5, [.ref a_p0_text_letters, .int p0_text_length])), (a_p0_reader, .inr (3, [.ref a_p0_text, .int q.2.1, .int q.2.2.1])), (a_p0_draft, .inr (1, [.ref a_p0_draft_places, .ref a_p0_draft_kinds, .ref a_p0_draft_clapPlaces, .ref a_p0_draft_louds, .ref a_p0_draft_ones, .ref a_p0_draft_others, .ref a_p0_draft_worths, .ref a_p0_draft_hangs, .int q.2.2.2.1, .int q.2.2.2.2.1, .int q.2.2.2.2.2.1])), (a_p0_text_letters, .inl (cI, 60, .inl p0_text_letters)), (a_p0_draft_places, .inl (cI, 5, .inl q.2.2.2.2.2.2.1)), (a_p0_draft_kinds, .inl (cI, 5, .inl q.2.2.2.2.2.2.2.1)), (a_p0_draft_clapPlaces, .inl (cI, 5, .inl q.2.2.2.2.2.2.2.2.1)), (a_p0_draft_louds, .inl (cI, 5, .inl q.2.2.2.2.2.2.2.2.2.1)), (a_p0_draft_ones, .inl (cI, 5, .inl q.2.2.2.2.2.2.2.2.2.2.1)), (a_p0_draft_others, .inl (cI, 5, .inl q.2.2.2.2.2.2.2.2.2.2.2.1)), (a_p0_draft_worths, .inl (cI, 5, .inl q.2.2.2.2.2.2.2.2.2.2.2.2.1)), (a_p0_draft_hangs, .inl (cI, 5, .inl q.2.2.2.2.2.2.2.2.2.2.2.2.2))]) (fun q => q.1) q := by
  refine CtI.of (cc := cX6_fault) (maxL := 1) (plainFor_of_name (by decide)) rfl (Nat.le_of_ble_eq_true rfl) ?_
  intro p e s m args below meth c A Q H ls hB hE hW hl
  have hx := hB.1
  have hb := hB.2.1
  have hml := hB.2.2.2.1
  have hown : s.vm.findClass RX6 = some m.cls := hB.2.2.2.2.1
  have hts := hB.2.2.2.2.2.1
  have hK := hB.2.2.2.2.2.2.2.1.1
  have hl : lv_has ls 1 [(0, .ref a_p0)] := hl
  have in_X6 : ∀ w ∈ wsX60, w ∈ wsX6_fault := fun w h => List.mem_cons_of_mem _ (List.mem_append_left _ (List.mem_append_left _ (List.mem_append_left _ (List.mem_append_right _ h))))
  have fl_21 : (Cond.fieldLink RX6 21 (TX6 1).1 (TX6 1).2.1 (TX6 1).2.2.1).before args s = true := hts (.fieldLink RX6 21 "ClapOaths" "reader" "LClapOaths$Reader;") (by decide +kernel)
  have fl_28 : (Cond.fieldLink RX6 28 (TX6 2).1 (TX6 2).2.1 (TX6 2).2.2.1).before args s = true := hts (.fieldLink RX6 28 "ClapOaths" "draft" "LClapOaths$County;") (by decide +kernel)
  unfold f_X6_fault at hf
  refine lv_aload_n hx hb dX6_fault_0 rfl (lv_at hl 0 rfl) ?_
  refine q_get hB hW 6 in_X6 0 rfl rfl 1 (by decide) fl_21 (v := .ref a_p0_reader) rfl dX6_fault_1 ?_
  refine lv_aload_n hx hb dX6_fault_4 rfl (lv_at hl 0 rfl) ?_
  refine q_get hB hW 6 in_X6 0 rfl rfl 2 (by decide) fl_28 (v := .ref a_p0_draft) rfl dX6_fault_5 ?_
  obtain ⟨r_1, hr_1, hf⟩ := bnd hf
  refine q_callVI hB hW (ci := 3) (q0 := 0) rfl rfl rfl (As := [.ref a_p0_draft]) (rest := []) (ws' := [(a_p0, .inr (6, [.ref a_p0_text, .ref a_p0_reader, .ref a_p0_draft, .ref a_p0_land, .ref a_p0_now, .ref a_p0_trial, .ref a_p0_acts, .ref a_p0_hearings, .ref a_p0_kept, .int p0_keptSlots, .long p0_seedNow])), (a_p0_text, .inr (5, [.ref a_p0_text_letters, .int p0_text_length])), (a_p0_reader, .inr (3, [.ref a_p0_text, .int r_1.2.1, .int r_1.2.2.1])), (a_p0_draft, .inr (1, [.ref a_p0_draft_places, .ref a_p0_draft_kinds, .ref a_p0_draft_clapPlaces, .ref a_p0_draft_louds, .ref a_p0_draft_ones, .ref a_p0_draft_others, .ref a_p0_draft_worths, .ref a_p0_draft_hangs, .int r_1.2.2.2.1, .int r_1.2.2.2.2.1, .int r_1.2.2.2.2.2.1])), (a_p0_text_letters, .inl (cI, 60, .inl p0_text_letters)), (a_p0_draft_places, .inl (cI, 5, .inl r_1.2.2.2.2.2.2.1)), (a_p0_draft_kinds, .inl (cI, 5, .inl r_1.2.2.2.2.2.2.2.1)), (a_p0_draft_clapPlaces, .inl (cI, 5, .inl r_1.2.2.2.2.2.2.2.2.1)), (a_p0_draft_louds, .inl (cI, 5, .inl r_1.2.2.2.2.2.2.2.2.2.1)), (a_p0_draft_ones, .inl (cI, 5, .inl r_1.2.2.2.2.2.2.2.2.2.2.1)), (a_p0_draft_others, .inl (cI, 5, .inl r_1.2.2.2.2.2.2.2.2.2.2.2.1)), (a_p0_draft_worths, .inl (cI, 5, .inl r_1.2.2.2.2.2.2.2.2.2.2.2.2.1)), (a_p0_draft_hangs, .inl (cI, 5, .inl r_1.2.2.2.2.2.2.2.2.2.2.2.2.2))]) (c_X3_readInto l D cI cZ a_p0_reader a_p0_draft a_p0_text a_p0_text_letters a_p0_draft_places a_p0_draft_kinds a_p0_draft_clapPlaces a_p0_draft_louds a_p0_draft_ones a_p0_draft_others a_p0_draft_worths a_p0_draft_hangs p0_reader_place p0_reader_stopped p0_text_length p0_text_letters p0_draft_persons p0_draft_skies p0_draft_oaths p0_draft_places p0_draft_kinds p0_draft_clapPlaces p0_draft_louds p0_draft_ones p0_draft_others p0_draft_worths p0_draft_hangs r_1 hr_1) (cwV 1 hts gX6_fault_X3_readInto rfl rfl rfl (by decide +kernel) ⟨Nat.le_of_ble_eq_true rfl, Nat.le_of_ble_eq_true rfl⟩) [2, 1, 4, 3, 5, 6, 7, 8, 9, 10, 11, 12] rfl rfl rfl rfl rfl hl.1 rfl (Nat.le_of_ble_eq_true rfl) ⟨Nat.le_of_ble_eq_true rfl, Nat.le_of_ble_eq_true rfl⟩ dX6_fault_8 (fun H locs hW => ?_)
  exact hE _ _ _ _ _ (r_1.1, r_1.2.1, r_1.2.2.1, r_1.2.2.2.1, r_1.2.2.2.2.1, r_1.2.2.2.2.2.1, r_1.2.2.2.2.2.2.1, r_1.2.2.2.2.2.2.2.1, r_1.2.2.2.2.2.2.2.2.1, r_1.2.2.2.2.2.2.2.2.2.1, r_1.2.2.2.2.2.2.2.2.2.2.1, r_1.2.2.2.2.2.2.2.2.2.2.2.1, r_1.2.2.2.2.2.2.2.2.2.2.2.2.1, r_1.2.2.2.2.2.2.2.2.2.2.2.2.2) (sm hf) hW rfl dX6_fault_11
def f_X6_at (n_p0 : Nat) (v1 : Int32) (p0 : Nat → Int32) : Option (Int32) := if v1 < (0 : Int32) then some (0 : Int32) else if (nI n_p0) ≤ v1 then some (0 : Int32) else (ald p0 n_p0 v1).bind fun r_3 => some r_3
set_option maxHeartbeats 4000000 in
set_option maxRecDepth 100000 in
theorem c_X6_at (l : Launch) (D : va_G) (cI cZ : ClassId) (a_p0 : Nat) (n_p0 : Nat) (p0 : Nat → Int32) (v1 : Int32) (q : Int32) (hf : f_X6_at n_p0 v1 p0 = some q) : CtI l D cI cZ yX6_at wsX6_at 0 0 [.ref a_p0, .int v1] [(a_p0, .inl (cI, n_p0, .inl p0))] (fun q => [(a_p0, .inl (cI, n_p0, .inl p0))]) (fun q => q) q := by
  refine CtI.of (cc := cX6_at) (maxL := 2) (plainFor_of_name (by decide)) rfl (Nat.le_of_ble_eq_true rfl) ?_
  intro p e s m args below meth c A Q H ls hB hE hW hl
  have hx := hB.1
  have hb := hB.2.1
  have hml := hB.2.2.2.1
  have hown : s.vm.findClass RX6 = some m.cls := hB.2.2.2.2.1
  have hts := hB.2.2.2.2.2.1
  have hK := hB.2.2.2.2.2.2.2.1.1
  have hl : lv_has ls 2 [(0, .ref a_p0), (1, .int v1)] := hl
  unfold f_X6_at at hf
  refine lv_iload_n hx hb dX6_at_0 rfl (lv_at hl 1 rfl) ?_
  refine lv_if_lt (tgt := 16) hx hb dX6_at_1 (by decide) (fun c_1 => ?_) (fun c_1 => ?_)
  · have hf := it_t c_1 hf
    refine lv_iconst (v := 0) hx hb dX6_at_16 (by decide) ?_
    exact hE _ _ _ _ _ (0 : Int32) (sm hf) hW rfl dX6_at_17
  · have hf := it_f c_1 hf
    refine lv_iload_n hx hb dX6_at_4 rfl (lv_at hl 1 rfl) ?_
    refine lv_aload_n hx hb dX6_at_5 rfl (lv_at hl 0 rfl) ?_
    refine q_alen hB hW 0 rfl (v := (nI n_p0)) rfl dX6_at_6 ?_
    refine lv_icmp_ge (tgt := 16) hx hb dX6_at_7 (by decide) (fun c_2 => ?_) (fun c_2 => ?_)
    · have hf := it_t c_2 hf
      refine lv_iconst (v := 0) hx hb dX6_at_16 (by decide) ?_
      exact hE _ _ _ _ _ (0 : Int32) (sm hf) hW rfl dX6_at_17
    · have hf := it_f c_2 hf
      refine lv_aload_n hx hb dX6_at_10 rfl (lv_at hl 0 rfl) ?_
      refine lv_iload_n hx hb dX6_at_11 rfl (lv_at hl 1 rfl) ?_
      obtain ⟨r_3, hr_3, hf⟩ := bnd hf
      refine q_iald hB hW 0 rfl hr_3 dX6_at_12 ?_
      refine lv_goto (tgt := 17) hx hb dX6_at_13 (by decide) ?_
      exact hE _ _ _ _ _ r_3 (sm hf) hW rfl dX6_at_17
def f_X4_putAt (v1 : Int32) (v2 : Int32) (p0_places : Int32) : Option (Int32) := (some ((p0_places &&& (((15 : Int32) <<< (((4 : Int32) * v1) &&& 31)) ^^^ (-1 : Int32))) ||| (v2 <<< (((4 : Int32) * v1) &&& 31)))).bind fun w_1 => some w_1
set_option maxHeartbeats 4000000 in
set_option maxRecDepth 100000 in
theorem c_X4_putAt (l : Launch) (D : va_G) (cI cZ : ClassId) (a_p0 a_p0_land : Nat) (p0_places : Int32) (p0_wool : Int32) (p0_sworn : Int32) (p0_worth : Int32) (p0_day : Int32) (v1 : Int32) (v2 : Int32) (q : Int32) (hf : f_X4_putAt v1 v2 p0_places = some q) : CtV l D cI cZ yX4_putAt wsX4_putAt 0 0 [.ref a_p0, .int v1, .int v2] [(a_p0, .inr (4, [.ref a_p0_land, .int p0_places, .int p0_wool, .int p0_sworn, .int p0_worth, .int p0_day]))] (fun q => [(a_p0, .inr (4, [.ref a_p0_land, .int q, .int p0_wool, .int p0_sworn, .int p0_worth, .int p0_day]))]) q := by
  refine CtV.of (cc := cX4_putAt) (maxL := 3) (plainFor_of_name (by decide)) rfl (Nat.le_of_ble_eq_true rfl) ?_
  intro p e s m args below meth c A Q H ls hB hE hW hl
  have hx := hB.1
  have hb := hB.2.1
  have hml := hB.2.2.2.1
  have hown : s.vm.findClass RX4 = some m.cls := hB.2.2.2.2.1
  have hts := hB.2.2.2.2.2.1
  have hK := hB.2.2.2.2.2.2.2.1.1
  have hl : lv_has ls 3 [(0, .ref a_p0), (1, .int v1), (2, .int v2)] := hl
  have in_X4 : ∀ w ∈ wsX40, w ∈ wsX4_putAt := fun w h => List.mem_cons_of_mem _ (List.mem_append_right _ h)
  have fl_15 : (Cond.fieldLink RX4 15 (TX4 1).1 (TX4 1).2.1 (TX4 1).2.2.1).before args s = true := hts (.fieldLink RX4 15 "ClapOaths$Standing" "places" "I") (by decide +kernel)
  unfold f_X4_putAt at hf
  refine lv_aload_n hx hb dX4_putAt_0 rfl (lv_at hl 0 rfl) ?_
  refine lv_aload_n hx hb dX4_putAt_1 rfl (lv_at hl 0 rfl) ?_
  refine q_get hB hW 4 in_X4 0 rfl rfl 1 (by decide) fl_15 (v := .int p0_places) rfl dX4_putAt_2 ?_
  refine lv_bipush (v := 15) hx hb dX4_putAt_5 (by decide) ?_
  refine lv_iconst (v := 4) hx hb dX4_putAt_7 (by decide) ?_
  refine lv_iload_n hx hb dX4_putAt_8 rfl (lv_at hl 1 rfl) ?_
  refine lv_imul hx hb dX4_putAt_9 ?_
  refine lv_ishl hx hb dX4_putAt_10 ?_
  refine lv_iconst (v := -1) hx hb dX4_putAt_11 (by decide) ?_
  refine lv_ixor hx hb dX4_putAt_12 ?_
  refine lv_iand hx hb dX4_putAt_13 ?_
  refine lv_iload_n hx hb dX4_putAt_14 rfl (lv_at hl 2 rfl) ?_
  refine lv_iconst (v := 4) hx hb dX4_putAt_15 (by decide) ?_
  refine lv_iload_n hx hb dX4_putAt_16 rfl (lv_at hl 1 rfl) ?_
  refine lv_imul hx hb dX4_putAt_17 ?_
  refine lv_ishl hx hb dX4_putAt_18 ?_
  refine lv_ior hx hb dX4_putAt_19 ?_
  obtain ⟨w_1, hw_1, hf⟩ := bnd hf
  refine q_nmI hw_1 ?_
  refine q_put hB hW 4 in_X4 tyX4 tyX4_ok nmX4 0 rfl rfl 1 (by decide) fl_15 rfl (by first | rfl | decide) (by first | rfl | decide) (Nat.le_of_ble_eq_true rfl) (ws' := [(a_p0, .inr (4, [.ref a_p0_land, .int w_1, .int p0_wool, .int p0_sworn, .int p0_worth, .int p0_day]))]) rfl dX4_putAt_20 (fun H locs hW => ?_)
  exact hE _ _ _ _ w_1 (sm hf) hW dX4_putAt_23
def f_X1_hasPerson (v1 : Int32) (p0_persons : Int32) : Option (Int32) := (f_X6_within v1 (0 : Int32) (p0_persons - (1 : Int32))).bind fun r_1 => some r_1
set_option maxHeartbeats 4000000 in
set_option maxRecDepth 100000 in
theorem c_X1_hasPerson (l : Launch) (D : va_G) (cI cZ : ClassId) (a_p0 a_p0_places a_p0_kinds a_p0_clapPlaces a_p0_louds a_p0_ones a_p0_others a_p0_worths a_p0_hangs : Nat) (p0_persons : Int32) (p0_skies : Int32) (p0_oaths : Int32) (v1 : Int32) (q : Int32) (hf : f_X1_hasPerson v1 p0_persons = some q) : CtZ l D cI cZ yX1_hasPerson wsX1_hasPerson 1 22 [.ref a_p0, .int v1] [(a_p0, .inr (1, [.ref a_p0_places, .ref a_p0_kinds, .ref a_p0_clapPlaces, .ref a_p0_louds, .ref a_p0_ones, .ref a_p0_others, .ref a_p0_worths, .ref a_p0_hangs, .int p0_persons, .int p0_skies, .int p0_oaths]))] (fun q => [(a_p0, .inr (1, [.ref a_p0_places, .ref a_p0_kinds, .ref a_p0_clapPlaces, .ref a_p0_louds, .ref a_p0_ones, .ref a_p0_others, .ref a_p0_worths, .ref a_p0_hangs, .int p0_persons, .int p0_skies, .int p0_oaths]))]) (fun q => q) q := by
  refine CtZ.of (cc := cX1_hasPerson) (maxL := 2) (plainFor_of_name (by decide)) rfl (Nat.le_of_ble_eq_true rfl) ?_
  intro p e s m args below meth c A Q H ls hB hE hW hl
  have hx := hB.1
  have hb := hB.2.1
  have hml := hB.2.2.2.1
  have hown : s.vm.findClass RX1 = some m.cls := hB.2.2.2.2.1
  have hts := hB.2.2.2.2.2.1
  have hK := hB.2.2.2.2.2.2.2.1.1
  have hl : lv_has ls 2 [(0, .ref a_p0), (1, .int v1)] := hl
  have in_X1 : ∀ w ∈ wsX10, w ∈ wsX1_hasPerson := fun w h => List.mem_cons_of_mem _ (List.mem_append_right _ h)
  have fl_36 : (Cond.fieldLink RX1 36 (TX1 8).1 (TX1 8).2.1 (TX1 8).2.2.1).before args s = true := hts (.fieldLink RX1 36 "ClapOaths$County" "persons" "I") (by decide +kernel)
  unfold f_X1_hasPerson at hf
  refine lv_iload_n hx hb dX1_hasPerson_0 rfl (lv_at hl 1 rfl) ?_
  refine lv_iconst (v := 0) hx hb dX1_hasPerson_1 (by decide) ?_
  refine lv_aload_n hx hb dX1_hasPerson_2 rfl (lv_at hl 0 rfl) ?_
  refine q_get hB hW 1 in_X1 0 rfl rfl 8 (by decide) fl_36 (v := .int p0_persons) rfl dX1_hasPerson_3 ?_
  refine lv_iconst (v := 1) hx hb dX1_hasPerson_6 (by decide) ?_
  refine lv_isub hx hb dX1_hasPerson_7 ?_
  obtain ⟨r_1, hr_1, hf⟩ := bnd hf
  refine q_callNZ hB hW (As := [.int v1, .int (0 : Int32), .int (p0_persons - (1 : Int32))]) (rest := []) (ws' := [(a_p0, .inr (1, [.ref a_p0_places, .ref a_p0_kinds, .ref a_p0_clapPlaces, .ref a_p0_louds, .ref a_p0_ones, .ref a_p0_others, .ref a_p0_worths, .ref a_p0_hangs, .int p0_persons, .int p0_skies, .int p0_oaths]))]) (c_X6_within l D cI cZ v1 (0 : Int32) (p0_persons - (1 : Int32)) r_1 hr_1) ⟨va_cnB 3 hts gX1_hasPerson_X6_within_n50 rfl rfl rfl (hB.2.2.2.2.2.2.2.1.2 (RX1, 50, yX6_within, RX6) (by decide +kernel)) (hts (.initialized RX6) (by decide +kernel)) (by decide +kernel) ⟨Nat.le_of_ble_eq_true rfl, Nat.le_of_ble_eq_true rfl⟩, hts (.static yX6_within) (by decide +kernel), trivial⟩ [] rfl rfl rfl rfl rfl hl.1 rfl (Nat.le_of_ble_eq_true rfl) ⟨Nat.le_of_ble_eq_true rfl, Nat.le_of_ble_eq_true rfl⟩ dX1_hasPerson_8 (fun hzr_1 H locs hW => ?_)
  exact hE _ _ _ _ _ r_1 (sm hf) hW rfl hzr_1 dX1_hasPerson_11
def f_X1_isOf (v1 : Int32) (v2 : Int32) (p0_persons : Int32) (p0_kinds : Nat → Int32) : Option (Int32) := (f_X1_hasPerson v1 p0_persons).bind fun r_1 => if r_1 = (0 : Int32) then some (0 : Int32) else (f_X6_at 5 v1 p0_kinds).bind fun r_3 => if r_3 = v2 then some (1 : Int32) else some (0 : Int32)
set_option maxHeartbeats 4000000 in
set_option maxRecDepth 100000 in
theorem c_X1_isOf (l : Launch) (D : va_G) (cI cZ : ClassId) (a_p0 a_p0_places a_p0_kinds a_p0_clapPlaces a_p0_louds a_p0_ones a_p0_others a_p0_worths a_p0_hangs : Nat) (p0_persons : Int32) (p0_skies : Int32) (p0_oaths : Int32) (p0_kinds : Nat → Int32) (v1 : Int32) (v2 : Int32) (q : Int32) (hf : f_X1_isOf v1 v2 p0_persons p0_kinds = some q) : CtZ l D cI cZ yX1_isOf wsX1_isOf 2 43 [.ref a_p0, .int v1, .int v2] [(a_p0, .inr (1, [.ref a_p0_places, .ref a_p0_kinds, .ref a_p0_clapPlaces, .ref a_p0_louds, .ref a_p0_ones, .ref a_p0_others, .ref a_p0_worths, .ref a_p0_hangs, .int p0_persons, .int p0_skies, .int p0_oaths])), (a_p0_kinds, .inl (cI, 5, .inl p0_kinds))] (fun q => [(a_p0, .inr (1, [.ref a_p0_places, .ref a_p0_kinds, .ref a_p0_clapPlaces, .ref a_p0_louds, .ref a_p0_ones, .ref a_p0_others, .ref a_p0_worths, .ref a_p0_hangs, .int p0_persons, .int p0_skies, .int p0_oaths])), (a_p0_kinds, .inl (cI, 5, .inl p0_kinds))]) (fun q => q) q := by
  refine CtZ.of (cc := cX1_isOf) (maxL := 3) (plainFor_of_name (by decide)) rfl (Nat.le_of_ble_eq_true rfl) ?_
  intro p e s m args below meth c A Q H ls hB hE hW hl
  have hx := hB.1
  have hb := hB.2.1
  have hml := hB.2.2.2.1
  have hown : s.vm.findClass RX1 = some m.cls := hB.2.2.2.2.1
  have hts := hB.2.2.2.2.2.1
  have hK := hB.2.2.2.2.2.2.2.1.1
  have hl : lv_has ls 3 [(0, .ref a_p0), (1, .int v1), (2, .int v2)] := hl
  have in_X1 : ∀ w ∈ wsX10, w ∈ wsX1_isOf := fun w h => List.mem_cons_of_mem _ (List.mem_append_right _ h)
  have fl_15 : (Cond.fieldLink RX1 15 (TX1 1).1 (TX1 1).2.1 (TX1 1).2.2.1).before args s = true := hts (.fieldLink RX1 15 "ClapOaths$County" "kinds" "[I") (by decide +kernel)
  unfold f_X1_isOf at hf
  refine lv_aload_n hx hb dX1_isOf_0 rfl (lv_at hl 0 rfl) ?_
  refine lv_iload_n hx hb dX1_isOf_1 rfl (lv_at hl 1 rfl) ?_
  obtain ⟨r_1, hr_1, hf⟩ := bnd hf
  refine q_callVZ hB hW (ci := 1) (q0 := 0) rfl rfl rfl (As := [.int v1]) (rest := []) (ws' := [(a_p0, .inr (1, [.ref a_p0_places, .ref a_p0_kinds, .ref a_p0_clapPlaces, .ref a_p0_louds, .ref a_p0_ones, .ref a_p0_others, .ref a_p0_worths, .ref a_p0_hangs, .int p0_persons, .int p0_skies, .int p0_oaths])), (a_p0_kinds, .inl (cI, 5, .inl p0_kinds))]) (c_X1_hasPerson l D cI cZ a_p0 a_p0_places a_p0_kinds a_p0_clapPlaces a_p0_louds a_p0_ones a_p0_others a_p0_worths a_p0_hangs p0_persons p0_skies p0_oaths v1 r_1 hr_1) (cwV 1 hts gX1_isOf_X1_hasPerson rfl rfl rfl (by decide +kernel) ⟨Nat.le_of_ble_eq_true rfl, Nat.le_of_ble_eq_true rfl⟩) [0] rfl rfl rfl rfl rfl hl.1 rfl (Nat.le_of_ble_eq_true rfl) ⟨Nat.le_of_ble_eq_true rfl, Nat.le_of_ble_eq_true rfl⟩ dX1_isOf_2 (fun hzr_1 H locs hW => ?_)
  refine lv_if_eq (tgt := 24) hx hb dX1_isOf_5 (by decide) (fun c_2 => ?_) (fun c_2 => ?_)
  · have hf := it_t c_2 hf
    refine lv_iconst (v := 0) hx hb dX1_isOf_24 (by decide) ?_
    exact hE _ _ _ _ _ (0 : Int32) (sm hf) hW rfl nz_0 dX1_isOf_25
  · have hf := it_f c_2 hf
    refine lv_aload_n hx hb dX1_isOf_8 rfl (lv_at hl 0 rfl) ?_
    refine q_get hB hW 1 in_X1 0 rfl rfl 1 (by decide) fl_15 (v := .ref a_p0_kinds) rfl dX1_isOf_9 ?_
    refine lv_iload_n hx hb dX1_isOf_12 rfl (lv_at hl 1 rfl) ?_
    obtain ⟨r_3, hr_3, hf⟩ := bnd hf
    refine q_callNI hB hW (As := [.ref a_p0_kinds, .int v1]) (rest := []) (ws' := [(a_p0, .inr (1, [.ref a_p0_places, .ref a_p0_kinds, .ref a_p0_clapPlaces, .ref a_p0_louds, .ref a_p0_ones, .ref a_p0_others, .ref a_p0_worths, .ref a_p0_hangs, .int p0_persons, .int p0_skies, .int p0_oaths])), (a_p0_kinds, .inl (cI, 5, .inl p0_kinds))]) (c_X6_at l D cI cZ a_p0_kinds 5 p0_kinds v1 r_3 hr_3) ⟨va_cnB 2 hts gX1_isOf_X6_at_n58 rfl rfl rfl (hB.2.2.2.2.2.2.2.1.2 (RX1, 58, yX6_at, RX6) (by decide +kernel)) (hts (.initialized RX6) (by decide +kernel)) (by decide +kernel) ⟨Nat.le_of_ble_eq_true rfl, Nat.le_of_ble_eq_true rfl⟩, hts (.static yX6_at) (by decide +kernel), trivial⟩ [1] rfl rfl rfl rfl rfl hl.1 rfl (Nat.le_of_ble_eq_true rfl) ⟨Nat.le_of_ble_eq_true rfl, Nat.le_of_ble_eq_true rfl⟩ dX1_isOf_13 (fun H locs hW => ?_)
    refine lv_iload_n hx hb dX1_isOf_16 rfl (lv_at hl 2 rfl) ?_
    refine lv_icmp_ne (tgt := 24) hx hb dX1_isOf_17 (by decide) (fun c_4 => ?_) (fun c_4 => ?_)
    · have hf := it_f c_4 hf
      refine lv_iconst (v := 0) hx hb dX1_isOf_24 (by decide) ?_
      exact hE _ _ _ _ _ (0 : Int32) (sm hf) hW rfl nz_0 dX1_isOf_25
    · have hf := it_t c_4 hf
      refine lv_iconst (v := 1) hx hb dX1_isOf_20 (by decide) ?_
      refine lv_goto (tgt := 25) hx hb dX1_isOf_21 (by decide) ?_
      exact hE _ _ _ _ _ (1 : Int32) (sm hf) hW rfl nz_1 dX1_isOf_25
def f_X4_chooseWool (v1 : Int32) (v2 : Int32) (p0_wool : Int32) (p0_land_persons : Int32) (p0_land_kinds : Nat → Int32) : Option (Int32) := if v2 = (1 : Int32) then (some (p0_wool ||| ((1 : Int32) <<< (v1 &&& 31)))).bind fun w_2 => some w_2 else (f_X1_isOf v1 (1 : Int32) p0_land_persons p0_land_kinds).bind fun r_3 => if r_3 = (0 : Int32) then (some (p0_wool &&& (((1 : Int32) <<< (v1 &&& 31)) ^^^ (-1 : Int32)))).bind fun w_5 => some w_5 else (some (p0_wool ||| ((1 : Int32) <<< (v1 &&& 31)))).bind fun w_6 => some w_6
set_option maxHeartbeats 4000000 in
set_option maxRecDepth 100000 in
theorem c_X4_chooseWool (l : Launch) (D : va_G) (cI cZ : ClassId) (a_p0 a_p0_land a_p0_land_places a_p0_land_kinds a_p0_land_clapPlaces a_p0_land_louds a_p0_land_ones a_p0_land_others a_p0_land_worths a_p0_land_hangs : Nat) (p0_places : Int32) (p0_wool : Int32) (p0_sworn : Int32) (p0_worth : Int32) (p0_day : Int32) (p0_land_persons : Int32) (p0_land_skies : Int32) (p0_land_oaths : Int32) (p0_land_kinds : Nat → Int32) (v1 : Int32) (v2 : Int32) (q : Int32) (hf : f_X4_chooseWool v1 v2 p0_wool p0_land_persons p0_land_kinds = some q) : CtV l D cI cZ yX4_chooseWool wsX4_chooseWool 3 65 [.ref a_p0, .int v1, .int v2] [(a_p0, .inr (4, [.ref a_p0_land, .int p0_places, .int p0_wool, .int p0_sworn, .int p0_worth, .int p0_day])), (a_p0_land, .inr (1, [.ref a_p0_land_places, .ref a_p0_land_kinds, .ref a_p0_land_clapPlaces, .ref a_p0_land_louds, .ref a_p0_land_ones, .ref a_p0_land_others, .ref a_p0_land_worths, .ref a_p0_land_hangs, .int p0_land_persons, .int p0_land_skies, .int p0_land_oaths])), (a_p0_land_kinds, .inl (cI, 5, .inl p0_land_kinds))] (fun q => [(a_p0, .inr (4, [.ref a_p0_land, .int p0_places, .int q, .int p0_sworn, .int p0_worth, .int p0_day])), (a_p0_land, .inr (1, [.ref a_p0_land_places, .ref a_p0_land_kinds, .ref a_p0_land_clapPlaces, .ref a_p0_land_louds, .ref a_p0_land_ones, .ref a_p0_land_others, .ref a_p0_land_worths, .ref a_p0_land_hangs, .int p0_land_persons, .int p0_land_skies, .int p0_land_oaths])), (a_p0_land_kinds, .inl (cI, 5, .inl p0_land_kinds))]) q := by
  refine CtV.of (cc := cX4_chooseWool) (maxL := 3) (plainFor_of_name (by decide)) rfl (Nat.le_of_ble_eq_true rfl) ?_
  intro p e s m args below meth c A Q H ls hB hE hW hl
  have hx := hB.1
  have hb := hB.2.1
  have hml := hB.2.2.2.1
  have hown : s.vm.findClass RX4 = some m.cls := hB.2.2.2.2.1
  have hts := hB.2.2.2.2.2.1
  have hK := hB.2.2.2.2.2.2.2.1.1
  have hl : lv_has ls 3 [(0, .ref a_p0), (1, .int v1), (2, .int v2)] := hl
  have in_X4 : ∀ w ∈ wsX40, w ∈ wsX4_chooseWool := fun w h => List.mem_cons_of_mem _ (List.mem_append_left _ (List.mem_append_right _ h))
  have fl_9 : (Cond.fieldLink RX4 9 (TX4 0).1 (TX4 0).2.1 (TX4 0).2.2.1).before args s = true := hts (.fieldLink RX4 9 "ClapOaths$Standing" "land" "LClapOaths$County;") (by decide +kernel)
  have fl_19 : (Cond.fieldLink RX4 19 (TX4 2).1 (TX4 2).2.1 (TX4 2).2.2.1).before args s = true := hts (.fieldLink RX4 19 "ClapOaths$Standing" "wool" "I") (by decide +kernel)
  unfold f_X4_chooseWool at hf
  refine lv_iload_n hx hb dX4_chooseWool_0 rfl (lv_at hl 2 rfl) ?_
  refine lv_iconst (v := 1) hx hb dX4_chooseWool_1 (by decide) ?_
  refine lv_icmp_eq (tgt := 17) hx hb dX4_chooseWool_2 (by decide) (fun c_1 => ?_) (fun c_1 => ?_)
  · have hf := it_t c_1 hf
    refine lv_aload_n hx hb dX4_chooseWool_17 rfl (lv_at hl 0 rfl) ?_
    refine lv_dup hx hb dX4_chooseWool_18 rfl ?_
    refine q_get hB hW 4 in_X4 0 rfl rfl 2 (by decide) fl_19 (v := .int p0_wool) rfl dX4_chooseWool_19 ?_
    refine lv_iconst (v := 1) hx hb dX4_chooseWool_22 (by decide) ?_
    refine lv_iload_n hx hb dX4_chooseWool_23 rfl (lv_at hl 1 rfl) ?_
    refine lv_ishl hx hb dX4_chooseWool_24 ?_
    refine lv_ior hx hb dX4_chooseWool_25 ?_
    obtain ⟨w_2, hw_2, hf⟩ := bnd hf
    refine q_nmI hw_2 ?_
    refine q_put hB hW 4 in_X4 tyX4 tyX4_ok nmX4 0 rfl rfl 2 (by decide) fl_19 rfl (by first | rfl | decide) (by first | rfl | decide) (Nat.le_of_ble_eq_true rfl) (ws' := [(a_p0, .inr (4, [.ref a_p0_land, .int p0_places, .int w_2, .int p0_sworn, .int p0_worth, .int p0_day])), (a_p0_land, .inr (1, [.ref a_p0_land_places, .ref a_p0_land_kinds, .ref a_p0_land_clapPlaces, .ref a_p0_land_louds, .ref a_p0_land_ones, .ref a_p0_land_others, .ref a_p0_land_worths, .ref a_p0_land_hangs, .int p0_land_persons, .int p0_land_skies, .int p0_land_oaths])), (a_p0_land_kinds, .inl (cI, 5, .inl p0_land_kinds))]) rfl dX4_chooseWool_26 (fun H locs hW => ?_)
    refine lv_goto (tgt := 46) hx hb dX4_chooseWool_29 (by decide) ?_
    exact hE _ _ _ _ w_2 (sm hf) hW dX4_chooseWool_46
  · have hf := it_f c_1 hf
    refine lv_aload_n hx hb dX4_chooseWool_5 rfl (lv_at hl 0 rfl) ?_
    refine q_get hB hW 4 in_X4 0 rfl rfl 0 (by decide) fl_9 (v := .ref a_p0_land) rfl dX4_chooseWool_6 ?_
    refine lv_iload_n hx hb dX4_chooseWool_9 rfl (lv_at hl 1 rfl) ?_
    refine lv_iconst (v := 1) hx hb dX4_chooseWool_10 (by decide) ?_
    obtain ⟨r_3, hr_3, hf⟩ := bnd hf
    refine q_callVZ hB hW (ci := 1) (q0 := 0) rfl rfl rfl (As := [.int v1, .int (1 : Int32)]) (rest := []) (ws' := [(a_p0, .inr (4, [.ref a_p0_land, .int p0_places, .int p0_wool, .int p0_sworn, .int p0_worth, .int p0_day])), (a_p0_land, .inr (1, [.ref a_p0_land_places, .ref a_p0_land_kinds, .ref a_p0_land_clapPlaces, .ref a_p0_land_louds, .ref a_p0_land_ones, .ref a_p0_land_others, .ref a_p0_land_worths, .ref a_p0_land_hangs, .int p0_land_persons, .int p0_land_skies, .int p0_land_oaths])), (a_p0_land_kinds, .inl (cI, 5, .inl p0_land_kinds))]) (c_X1_isOf l D cI cZ a_p0_land a_p0_land_places a_p0_land_kinds a_p0_land_clapPlaces a_p0_land_louds a_p0_land_ones a_p0_land_others a_p0_land_worths a_p0_land_hangs p0_land_persons p0_land_skies p0_land_oaths p0_land_kinds v1 (1 : Int32) r_3 hr_3) (cwV 2 hts gX4_chooseWool_X1_isOf rfl rfl rfl (by decide +kernel) ⟨Nat.le_of_ble_eq_true rfl, Nat.le_of_ble_eq_true rfl⟩) [1, 2] rfl rfl rfl rfl rfl hl.1 rfl (Nat.le_of_ble_eq_true rfl) ⟨Nat.le_of_ble_eq_true rfl, Nat.le_of_ble_eq_true rfl⟩ dX4_chooseWool_11 (fun hzr_3 H locs hW => ?_)
    refine lv_if_eq (tgt := 32) hx hb dX4_chooseWool_14 (by decide) (fun c_4 => ?_) (fun c_4 => ?_)
    · have hf := it_t c_4 hf
      refine lv_aload_n hx hb dX4_chooseWool_32 rfl (lv_at hl 0 rfl) ?_
      refine lv_dup hx hb dX4_chooseWool_33 rfl ?_
      refine q_get hB hW 4 in_X4 0 rfl rfl 2 (by decide) fl_19 (v := .int p0_wool) rfl dX4_chooseWool_34 ?_
      refine lv_iconst (v := 1) hx hb dX4_chooseWool_37 (by decide) ?_
      refine lv_iload_n hx hb dX4_chooseWool_38 rfl (lv_at hl 1 rfl) ?_
      refine lv_ishl hx hb dX4_chooseWool_39 ?_
      refine lv_iconst (v := -1) hx hb dX4_chooseWool_40 (by decide) ?_
      refine lv_ixor hx hb dX4_chooseWool_41 ?_
      refine lv_iand hx hb dX4_chooseWool_42 ?_
      obtain ⟨w_5, hw_5, hf⟩ := bnd hf
      refine q_nmI hw_5 ?_
      refine q_put hB hW 4 in_X4 tyX4 tyX4_ok nmX4 0 rfl rfl 2 (by decide) fl_19 rfl (by first | rfl | decide) (by first | rfl | decide) (Nat.le_of_ble_eq_true rfl) (ws' := [(a_p0, .inr (4, [.ref a_p0_land, .int p0_places, .int w_5, .int p0_sworn, .int p0_worth, .int p0_day])), (a_p0_land, .inr (1, [.ref a_p0_land_places, .ref a_p0_land_kinds, .ref a_p0_land_clapPlaces, .ref a_p0_land_louds, .ref a_p0_land_ones, .ref a_p0_land_others, .ref a_p0_land_worths, .ref a_p0_land_hangs, .int p0_land_persons, .int p0_land_skies, .int p0_land_oaths])), (a_p0_land_kinds, .inl (cI, 5, .inl p0_land_kinds))]) rfl dX4_chooseWool_43 (fun H locs hW => ?_)
      exact hE _ _ _ _ w_5 (sm hf) hW dX4_chooseWool_46
    · have hf := it_f c_4 hf
      refine lv_aload_n hx hb dX4_chooseWool_17 rfl (lv_at hl 0 rfl) ?_
      refine lv_dup hx hb dX4_chooseWool_18 rfl ?_
      refine q_get hB hW 4 in_X4 0 rfl rfl 2 (by decide) fl_19 (v := .int p0_wool) rfl dX4_chooseWool_19 ?_
      refine lv_iconst (v := 1) hx hb dX4_chooseWool_22 (by decide) ?_
      refine lv_iload_n hx hb dX4_chooseWool_23 rfl (lv_at hl 1 rfl) ?_
      refine lv_ishl hx hb dX4_chooseWool_24 ?_
      refine lv_ior hx hb dX4_chooseWool_25 ?_
      obtain ⟨w_6, hw_6, hf⟩ := bnd hf
      refine q_nmI hw_6 ?_
      refine q_put hB hW 4 in_X4 tyX4 tyX4_ok nmX4 0 rfl rfl 2 (by decide) fl_19 rfl (by first | rfl | decide) (by first | rfl | decide) (Nat.le_of_ble_eq_true rfl) (ws' := [(a_p0, .inr (4, [.ref a_p0_land, .int p0_places, .int w_6, .int p0_sworn, .int p0_worth, .int p0_day])), (a_p0_land, .inr (1, [.ref a_p0_land_places, .ref a_p0_land_kinds, .ref a_p0_land_clapPlaces, .ref a_p0_land_louds, .ref a_p0_land_ones, .ref a_p0_land_others, .ref a_p0_land_worths, .ref a_p0_land_hangs, .int p0_land_persons, .int p0_land_skies, .int p0_land_oaths])), (a_p0_land_kinds, .inl (cI, 5, .inl p0_land_kinds))]) rfl dX4_chooseWool_26 (fun H locs hW => ?_)
      refine lv_goto (tgt := 46) hx hb dX4_chooseWool_29 (by decide) ?_
      exact hE _ _ _ _ w_6 (sm hf) hW dX4_chooseWool_46
def b_X4_begin_12 (p0_land_persons : Int32) (p0_land_places : Nat → Int32) (p0_land_kinds : Nat → Int32) (v1 : Int32) (p0_places : Int32) (p0_wool : Int32) : Option ((Int32 × Int32 × Int32) ⊕ (Int32 × Int32)) := if p0_land_persons ≤ v1 then some (.inr (p0_places, p0_wool)) else (f_X6_at 5 v1 p0_land_places).bind fun r_514 => (f_X4_putAt v1 r_514 p0_places).bind fun r_515 => (f_X4_chooseWool v1 (0 : Int32) p0_wool p0_land_persons p0_land_kinds).bind fun r_516 => some (.inl ((v1 + (1 : Int32)), r_515, r_516))
def f_X4_begin (p0_places : Int32) (p0_wool : Int32) (p0_sworn : Int32) (p0_worth : Int32) (p0_day : Int32) (p0_land_persons : Int32) (p0_land_oaths : Int32) (p0_land_places : Nat → Int32) (p0_land_kinds : Nat → Int32) : Option (Int32 × Int32 × Int32 × Int32 × Int32) := (itr (fun s => b_X4_begin_12 p0_land_persons p0_land_places p0_land_kinds s.1 s.2.1 s.2.2) FU ((0 : Int32), (0 : Int32), (0 : Int32))).bind fun x_12 => (some (((1 : Int32) <<< (p0_land_oaths &&& 31)) - (1 : Int32))).bind fun w_1 => some (x_12.1, x_12.2, w_1, (0 : Int32), (0 : Int32))
set_option maxHeartbeats 4000000 in
set_option maxRecDepth 100000 in
theorem c_X4_begin (l : Launch) (D : va_G) (cI cZ : ClassId) (a_p0 a_p0_land a_p0_land_places a_p0_land_kinds a_p0_land_clapPlaces a_p0_land_louds a_p0_land_ones a_p0_land_others a_p0_land_worths a_p0_land_hangs : Nat) (p0_places : Int32) (p0_wool : Int32) (p0_sworn : Int32) (p0_worth : Int32) (p0_day : Int32) (p0_land_persons : Int32) (p0_land_skies : Int32) (p0_land_oaths : Int32) (p0_land_places : Nat → Int32) (p0_land_kinds : Nat → Int32) (q : Int32 × Int32 × Int32 × Int32 × Int32) (hf : f_X4_begin p0_places p0_wool p0_sworn p0_worth p0_day p0_land_persons p0_land_oaths p0_land_places p0_land_kinds = some q) : CtV l D cI cZ yX4_begin wsX4_begin 4 87 [.ref a_p0] [(a_p0, .inr (4, [.ref a_p0_land, .int p0_places, .int p0_wool, .int p0_sworn, .int p0_worth, .int p0_day])), (a_p0_land, .inr (1, [.ref a_p0_land_places, .ref a_p0_land_kinds, .ref a_p0_land_clapPlaces, .ref a_p0_land_louds, .ref a_p0_land_ones, .ref a_p0_land_others, .ref a_p0_land_worths, .ref a_p0_land_hangs, .int p0_land_persons, .int p0_land_skies, .int p0_land_oaths])), (a_p0_land_places, .inl (cI, 5, .inl p0_land_places)), (a_p0_land_kinds, .inl (cI, 5, .inl p0_land_kinds))] (fun q => [(a_p0, .inr (4, [.ref a_p0_land, .int q.1, .int q.2.1, .int q.2.2.1, .int q.2.2.2.1, .int q.2.2.2.2])), (a_p0_land, .inr (1, [.ref a_p0_land_places, .ref a_p0_land_kinds, .ref a_p0_land_clapPlaces, .ref a_p0_land_louds, .ref a_p0_land_ones, .ref a_p0_land_others, .ref a_p0_land_worths, .ref a_p0_land_hangs, .int p0_land_persons, .int p0_land_skies, .int p0_land_oaths])), (a_p0_land_places, .inl (cI, 5, .inl p0_land_places)), (a_p0_land_kinds, .inl (cI, 5, .inl p0_land_kinds))]) q := by
  refine CtV.of (cc := cX4_begin) (maxL := 2) (plainFor_of_name (by decide)) rfl (Nat.le_of_ble_eq_true rfl) ?_
  intro p e s m args below meth c A Q H ls hB hE hW hl
  have hx := hB.1
  have hb := hB.2.1
  have hml := hB.2.2.2.1
  have hown : s.vm.findClass RX4 = some m.cls := hB.2.2.2.2.1
  have hts := hB.2.2.2.2.2.1
  have hK := hB.2.2.2.2.2.2.2.1.1
  have hl : lv_has ls 2 [(0, .ref a_p0)] := hl
  have in_X1 : ∀ w ∈ wsX10, w ∈ wsX4_begin := fun w h => List.mem_cons_of_mem _ (List.mem_append_right _ h)
  have in_X4 : ∀ w ∈ wsX40, w ∈ wsX4_begin := fun w h => List.mem_cons_of_mem _ (List.mem_append_left _ (List.mem_append_right _ h))
  have fl_9 : (Cond.fieldLink RX4 9 (TX4 0).1 (TX4 0).2.1 (TX4 0).2.2.1).before args s = true := hts (.fieldLink RX4 9 "ClapOaths$Standing" "land" "LClapOaths$County;") (by decide +kernel)
  have fl_15 : (Cond.fieldLink RX4 15 (TX4 1).1 (TX4 1).2.1 (TX4 1).2.2.1).before args s = true := hts (.fieldLink RX4 15 "ClapOaths$Standing" "places" "I") (by decide +kernel)
  have fl_19 : (Cond.fieldLink RX4 19 (TX4 2).1 (TX4 2).2.1 (TX4 2).2.2.1).before args s = true := hts (.fieldLink RX4 19 "ClapOaths$Standing" "wool" "I") (by decide +kernel)
  have fl_22 : (Cond.fieldLink RX4 22 (TX4 3).1 (TX4 3).2.1 (TX4 3).2.2.1).before args s = true := hts (.fieldLink RX4 22 "ClapOaths$Standing" "sworn" "I") (by decide +kernel)
  have fl_25 : (Cond.fieldLink RX4 25 (TX4 4).1 (TX4 4).2.1 (TX4 4).2.2.1).before args s = true := hts (.fieldLink RX4 25 "ClapOaths$Standing" "worth" "I") (by decide +kernel)
  have fl_28 : (Cond.fieldLink RX4 28 (TX4 5).1 (TX4 5).2.1 (TX4 5).2.2.1).before args s = true := hts (.fieldLink RX4 28 "ClapOaths$Standing" "day" "I") (by decide +kernel)
  have fl_31 : (Cond.fieldLink RX4 31 (TX1 8).1 (TX1 8).2.1 (TX1 8).2.2.1).before args s = true := hts (.fieldLink RX4 31 "ClapOaths$County" "persons" "I") (by decide +kernel)
  have fl_36 : (Cond.fieldLink RX4 36 (TX1 0).1 (TX1 0).2.1 (TX1 0).2.2.1).before args s = true := hts (.fieldLink RX4 36 "ClapOaths$County" "places" "[I") (by decide +kernel)
  have fl_50 : (Cond.fieldLink RX4 50 (TX1 10).1 (TX1 10).2.1 (TX1 10).2.2.1).before args s = true := hts (.fieldLink RX4 50 "ClapOaths$County" "oaths" "I") (by decide +kernel)
  unfold f_X4_begin at hf
  refine lv_aload_n hx hb dX4_begin_0 rfl (lv_at hl 0 rfl) ?_
  refine lv_iconst (v := 0) hx hb dX4_begin_1 (by decide) ?_
  refine q_put hB hW 4 in_X4 tyX4 tyX4_ok nmX4 0 rfl rfl 1 (by decide) fl_15 rfl (by first | rfl | decide) (by first | rfl | decide) (Nat.le_of_ble_eq_true rfl) (ws' := [(a_p0, .inr (4, [.ref a_p0_land, .int (0 : Int32), .int p0_wool, .int p0_sworn, .int p0_worth, .int p0_day])), (a_p0_land, .inr (1, [.ref a_p0_land_places, .ref a_p0_land_kinds, .ref a_p0_land_clapPlaces, .ref a_p0_land_louds, .ref a_p0_land_ones, .ref a_p0_land_others, .ref a_p0_land_worths, .ref a_p0_land_hangs, .int p0_land_persons, .int p0_land_skies, .int p0_land_oaths])), (a_p0_land_places, .inl (cI, 5, .inl p0_land_places)), (a_p0_land_kinds, .inl (cI, 5, .inl p0_land_kinds))]) rfl dX4_begin_2 (fun H locs hW => ?_)
  refine lv_aload_n hx hb dX4_begin_5 rfl (lv_at hl 0 rfl) ?_
  refine lv_iconst (v := 0) hx hb dX4_begin_6 (by decide) ?_
  refine q_put hB hW 4 in_X4 tyX4 tyX4_ok nmX4 0 rfl rfl 2 (by decide) fl_19 rfl (by first | rfl | decide) (by first | rfl | decide) (Nat.le_of_ble_eq_true rfl) (ws' := [(a_p0, .inr (4, [.ref a_p0_land, .int (0 : Int32), .int (0 : Int32), .int p0_sworn, .int p0_worth, .int p0_day])), (a_p0_land, .inr (1, [.ref a_p0_land_places, .ref a_p0_land_kinds, .ref a_p0_land_clapPlaces, .ref a_p0_land_louds, .ref a_p0_land_ones, .ref a_p0_land_others, .ref a_p0_land_worths, .ref a_p0_land_hangs, .int p0_land_persons, .int p0_land_skies, .int p0_land_oaths])), (a_p0_land_places, .inl (cI, 5, .inl p0_land_places)), (a_p0_land_kinds, .inl (cI, 5, .inl p0_land_kinds))]) rfl dX4_begin_7 (fun H locs hW => ?_)
  refine lv_iconst (v := 0) hx hb dX4_begin_10 (by decide) ?_
  refine lv_istore_n (lv' := [(1, .int (0 : Int32)), (0, .ref a_p0)]) hx hb dX4_begin_11 rfl hl (by decide) rfl (fun ls hl => ?_)
  obtain ⟨e_12, hl_12, hk_12⟩ := bnd hf
  have K_12 : ∀ x_12 : Int32 × Int32, x_12 = e_12 → ∀ (H : Heap) (locs : List Loc) (ls : Array Slot), Wl D A s.heap [(a_p0, .inr (4, [.ref a_p0_land, .int x_12.1, .int x_12.2, .int p0_sworn, .int p0_worth, .int p0_day])), (a_p0_land, .inr (1, [.ref a_p0_land_places, .ref a_p0_land_kinds, .ref a_p0_land_clapPlaces, .ref a_p0_land_louds, .ref a_p0_land_ones, .ref a_p0_land_others, .ref a_p0_land_worths, .ref a_p0_land_hangs, .int p0_land_persons, .int p0_land_skies, .int p0_land_oaths])), (a_p0_land_places, .inl (cI, 5, .inl p0_land_places)), (a_p0_land_kinds, .inl (cI, 5, .inl p0_land_kinds))] H locs → lv_has ls 2 [(0, .ref a_p0)] → W p l e (Rm 4 87) s m args below meth c H locs 0 0 Q (F0 m 51 ls []) := by
    intro x_12 hx_12 H locs ls hW hl
    have hf := hk_12
    rw [← hx_12] at hf
    refine lv_aload_n hx hb dX4_begin_51 rfl (lv_at hl 0 rfl) ?_
    refine lv_iconst (v := 1) hx hb dX4_begin_52 (by decide) ?_
    refine lv_aload_n hx hb dX4_begin_53 rfl (lv_at hl 0 rfl) ?_
    refine q_get hB hW 4 in_X4 0 rfl rfl 0 (by decide) fl_9 (v := .ref a_p0_land) rfl dX4_begin_54 ?_
    refine q_get hB hW 1 in_X1 1 rfl rfl 10 (by decide) fl_50 (v := .int p0_land_oaths) rfl dX4_begin_57 ?_
    refine lv_ishl hx hb dX4_begin_60 ?_
    refine lv_iconst (v := 1) hx hb dX4_begin_61 (by decide) ?_
    refine lv_isub hx hb dX4_begin_62 ?_
    obtain ⟨w_1, hw_1, hf⟩ := bnd hf
    refine q_nmI hw_1 ?_
    refine q_put hB hW 4 in_X4 tyX4 tyX4_ok nmX4 0 rfl rfl 3 (by decide) fl_22 rfl (by first | rfl | decide) (by first | rfl | decide) (Nat.le_of_ble_eq_true rfl) (ws' := [(a_p0, .inr (4, [.ref a_p0_land, .int x_12.1, .int x_12.2, .int w_1, .int p0_worth, .int p0_day])), (a_p0_land, .inr (1, [.ref a_p0_land_places, .ref a_p0_land_kinds, .ref a_p0_land_clapPlaces, .ref a_p0_land_louds, .ref a_p0_land_ones, .ref a_p0_land_others, .ref a_p0_land_worths, .ref a_p0_land_hangs, .int p0_land_persons, .int p0_land_skies, .int p0_land_oaths])), (a_p0_land_places, .inl (cI, 5, .inl p0_land_places)), (a_p0_land_kinds, .inl (cI, 5, .inl p0_land_kinds))]) rfl dX4_begin_63 (fun H locs hW => ?_)
    refine lv_aload_n hx hb dX4_begin_66 rfl (lv_at hl 0 rfl) ?_
    refine lv_iconst (v := 0) hx hb dX4_begin_67 (by decide) ?_
    refine q_put hB hW 4 in_X4 tyX4 tyX4_ok nmX4 0 rfl rfl 4 (by decide) fl_25 rfl (by first | rfl | decide) (by first | rfl | decide) (Nat.le_of_ble_eq_true rfl) (ws' := [(a_p0, .inr (4, [.ref a_p0_land, .int x_12.1, .int x_12.2, .int w_1, .int (0 : Int32), .int p0_day])), (a_p0_land, .inr (1, [.ref a_p0_land_places, .ref a_p0_land_kinds, .ref a_p0_land_clapPlaces, .ref a_p0_land_louds, .ref a_p0_land_ones, .ref a_p0_land_others, .ref a_p0_land_worths, .ref a_p0_land_hangs, .int p0_land_persons, .int p0_land_skies, .int p0_land_oaths])), (a_p0_land_places, .inl (cI, 5, .inl p0_land_places)), (a_p0_land_kinds, .inl (cI, 5, .inl p0_land_kinds))]) rfl dX4_begin_68 (fun H locs hW => ?_)
    refine lv_aload_n hx hb dX4_begin_71 rfl (lv_at hl 0 rfl) ?_
    refine lv_iconst (v := 0) hx hb dX4_begin_72 (by decide) ?_
    refine q_put hB hW 4 in_X4 tyX4 tyX4_ok nmX4 0 rfl rfl 5 (by decide) fl_28 rfl (by first | rfl | decide) (by first | rfl | decide) (Nat.le_of_ble_eq_true rfl) (ws' := [(a_p0, .inr (4, [.ref a_p0_land, .int x_12.1, .int x_12.2, .int w_1, .int (0 : Int32), .int (0 : Int32)])), (a_p0_land, .inr (1, [.ref a_p0_land_places, .ref a_p0_land_kinds, .ref a_p0_land_clapPlaces, .ref a_p0_land_louds, .ref a_p0_land_ones, .ref a_p0_land_others, .ref a_p0_land_worths, .ref a_p0_land_hangs, .int p0_land_persons, .int p0_land_skies, .int p0_land_oaths])), (a_p0_land_places, .inl (cI, 5, .inl p0_land_places)), (a_p0_land_kinds, .inl (cI, 5, .inl p0_land_kinds))]) rfl dX4_begin_73 (fun H locs hW => ?_)
    exact hE _ _ _ _ (x_12.1, x_12.2, w_1, (0 : Int32), (0 : Int32)) (sm hf) hW dX4_begin_76
  have L_12 : ∀ (n : Nat) (y12_1 : Int32) (y12_p0_places : Int32) (y12_p0_wool : Int32) (H : Heap) (locs : List Loc) (ls : Array Slot), itr (fun s => b_X4_begin_12 p0_land_persons p0_land_places p0_land_kinds s.1 s.2.1 s.2.2) n (y12_1, y12_p0_places, y12_p0_wool) = some e_12 → Wl D A s.heap [(a_p0, .inr (4, [.ref a_p0_land, .int y12_p0_places, .int y12_p0_wool, .int p0_sworn, .int p0_worth, .int p0_day])), (a_p0_land, .inr (1, [.ref a_p0_land_places, .ref a_p0_land_kinds, .ref a_p0_land_clapPlaces, .ref a_p0_land_louds, .ref a_p0_land_ones, .ref a_p0_land_others, .ref a_p0_land_worths, .ref a_p0_land_hangs, .int p0_land_persons, .int p0_land_skies, .int p0_land_oaths])), (a_p0_land_places, .inl (cI, 5, .inl p0_land_places)), (a_p0_land_kinds, .inl (cI, 5, .inl p0_land_kinds))] H locs → lv_has ls 2 [(0, .ref a_p0), (1, .int y12_1)] → W p l e (Rm 4 87) s m args below meth c H locs 0 0 Q (F0 m 12 ls []) := by
    intro n
    induction n with
    | zero => intro y12_1 y12_p0_places y12_p0_wool H locs ls h9; exact itr_0 h9
    | succ n ih =>
      intro y12_1 y12_p0_places y12_p0_wool H locs ls hf hW hl
      obtain ⟨o_12, hf, ho_12⟩ := itr_inv hf
      have hf : b_X4_begin_12 p0_land_persons p0_land_places p0_land_kinds y12_1 y12_p0_places y12_p0_wool = some o_12 := hf
      unfold b_X4_begin_12 at hf
      refine lv_iload_n hx hb dX4_begin_12 rfl (lv_at hl 1 rfl) ?_
      refine lv_aload_n hx hb dX4_begin_13 rfl (lv_at hl 0 rfl) ?_
      refine q_get hB hW 4 in_X4 0 rfl rfl 0 (by decide) fl_9 (v := .ref a_p0_land) rfl dX4_begin_14 ?_
      refine q_get hB hW 1 in_X1 1 rfl rfl 8 (by decide) fl_31 (v := .int p0_land_persons) rfl dX4_begin_17 ?_
      refine lv_icmp_ge (tgt := 51) hx hb dX4_begin_20 (by decide) (fun c_2 => ?_) (fun c_2 => ?_)
      · have hf := it_t c_2 hf
        have h9 := o_inr hf ho_12
        exact K_12 (y12_p0_places, y12_p0_wool) h9 _ _ _ hW (lv_sub hl [0] rfl)
      · have hf := it_f c_2 hf
        refine lv_aload_n hx hb dX4_begin_23 rfl (lv_at hl 0 rfl) ?_
        refine lv_iload_n hx hb dX4_begin_24 rfl (lv_at hl 1 rfl) ?_
        refine lv_aload_n hx hb dX4_begin_25 rfl (lv_at hl 0 rfl) ?_
        refine q_get hB hW 4 in_X4 0 rfl rfl 0 (by decide) fl_9 (v := .ref a_p0_land) rfl dX4_begin_26 ?_
        refine q_get hB hW 1 in_X1 1 rfl rfl 0 (by decide) fl_36 (v := .ref a_p0_land_places) rfl dX4_begin_29 ?_
        refine lv_iload_n hx hb dX4_begin_32 rfl (lv_at hl 1 rfl) ?_
        obtain ⟨r_3, hr_3, hf⟩ := bnd hf
        refine q_callNI hB hW (As := [.ref a_p0_land_places, .int y12_1]) (rest := [.int y12_1, .ref a_p0]) (ws' := [(a_p0, .inr (4, [.ref a_p0_land, .int y12_p0_places, .int y12_p0_wool, .int p0_sworn, .int p0_worth, .int p0_day])), (a_p0_land, .inr (1, [.ref a_p0_land_places, .ref a_p0_land_kinds, .ref a_p0_land_clapPlaces, .ref a_p0_land_louds, .ref a_p0_land_ones, .ref a_p0_land_others, .ref a_p0_land_worths, .ref a_p0_land_hangs, .int p0_land_persons, .int p0_land_skies, .int p0_land_oaths])), (a_p0_land_places, .inl (cI, 5, .inl p0_land_places)), (a_p0_land_kinds, .inl (cI, 5, .inl p0_land_kinds))]) (c_X6_at l D cI cZ a_p0_land_places 5 p0_land_places y12_1 r_3 hr_3) ⟨va_cnB 2 hts gX4_begin_X6_at_n39 rfl rfl rfl (hB.2.2.2.2.2.2.2.1.2 (RX4, 39, yX6_at, RX6) (by decide +kernel)) (hts (.initialized RX6) (by decide +kernel)) (by decide +kernel) ⟨Nat.le_of_ble_eq_true rfl, Nat.le_of_ble_eq_true rfl⟩, hts (.static yX6_at) (by decide +kernel), trivial⟩ [2] rfl rfl rfl rfl rfl hl.1 rfl (Nat.le_of_ble_eq_true rfl) ⟨Nat.le_of_ble_eq_true rfl, Nat.le_of_ble_eq_true rfl⟩ dX4_begin_33 (fun H locs hW => ?_)
        obtain ⟨r_4, hr_4, hf⟩ := bnd hf
        refine q_callVV hB hW (ci := 4) (q0 := 0) rfl rfl rfl (As := [.int y12_1, .int r_3]) (rest := []) (ws' := [(a_p0, .inr (4, [.ref a_p0_land, .int r_4, .int y12_p0_wool, .int p0_sworn, .int p0_worth, .int p0_day])), (a_p0_land, .inr (1, [.ref a_p0_land_places, .ref a_p0_land_kinds, .ref a_p0_land_clapPlaces, .ref a_p0_land_louds, .ref a_p0_land_ones, .ref a_p0_land_others, .ref a_p0_land_worths, .ref a_p0_land_hangs, .int p0_land_persons, .int p0_land_skies, .int p0_land_oaths])), (a_p0_land_places, .inl (cI, 5, .inl p0_land_places)), (a_p0_land_kinds, .inl (cI, 5, .inl p0_land_kinds))]) (c_X4_putAt l D cI cZ a_p0 a_p0_land y12_p0_places y12_p0_wool p0_sworn p0_worth p0_day y12_1 r_3 r_4 hr_4) (cwV 2 hts gX4_begin_X4_putAt rfl rfl rfl (by decide +kernel) ⟨Nat.le_of_ble_eq_true rfl, Nat.le_of_ble_eq_true rfl⟩) [0] rfl rfl rfl rfl rfl hl.1 rfl (Nat.le_of_ble_eq_true rfl) ⟨Nat.le_of_ble_eq_true rfl, Nat.le_of_ble_eq_true rfl⟩ dX4_begin_36 (fun H locs hW => ?_)
        refine lv_aload_n hx hb dX4_begin_39 rfl (lv_at hl 0 rfl) ?_
        refine lv_iload_n hx hb dX4_begin_40 rfl (lv_at hl 1 rfl) ?_
        refine lv_iconst (v := 0) hx hb dX4_begin_41 (by decide) ?_
        obtain ⟨r_5, hr_5, hf⟩ := bnd hf
        refine q_callVV hB hW (ci := 4) (q0 := 0) rfl rfl rfl (As := [.int y12_1, .int (0 : Int32)]) (rest := []) (ws' := [(a_p0, .inr (4, [.ref a_p0_land, .int r_4, .int r_5, .int p0_sworn, .int p0_worth, .int p0_day])), (a_p0_land, .inr (1, [.ref a_p0_land_places, .ref a_p0_land_kinds, .ref a_p0_land_clapPlaces, .ref a_p0_land_louds, .ref a_p0_land_ones, .ref a_p0_land_others, .ref a_p0_land_worths, .ref a_p0_land_hangs, .int p0_land_persons, .int p0_land_skies, .int p0_land_oaths])), (a_p0_land_places, .inl (cI, 5, .inl p0_land_places)), (a_p0_land_kinds, .inl (cI, 5, .inl p0_land_kinds))]) (c_X4_chooseWool l D cI cZ a_p0 a_p0_land a_p0_land_places a_p0_land_kinds a_p0_land_clapPlaces a_p0_land_louds a_p0_land_ones a_p0_land_others a_p0_land_worths a_p0_land_hangs r_4 y12_p0_wool p0_sworn p0_worth p0_day p0_land_persons p0_land_skies p0_land_oaths p0_land_kinds y12_1 (0 : Int32) r_5 hr_5) (cwV 2 hts gX4_begin_X4_chooseWool rfl rfl rfl (by decide +kernel) ⟨Nat.le_of_ble_eq_true rfl, Nat.le_of_ble_eq_true rfl⟩) [0, 1, 3] rfl rfl rfl rfl rfl hl.1 rfl (Nat.le_of_ble_eq_true rfl) ⟨Nat.le_of_ble_eq_true rfl, Nat.le_of_ble_eq_true rfl⟩ dX4_begin_42 (fun H locs hW => ?_)
        refine lv_iinc (v := (y12_1 + (1 : Int32))) (lv' := [(1, .int (y12_1 + (1 : Int32))), (0, .ref a_p0)]) hx hb dX4_begin_45 hl (k := 1) rfl rfl (by decide) rfl (fun ls hl => ?_)
        refine lv_goto (tgt := 12) hx hb dX4_begin_48 (by decide) ?_
        have h9 := o_inl hf ho_12
        exact ih (y12_1 + (1 : Int32)) r_4 r_5 _ _ _ h9 hW (lv_sub hl [1, 0] rfl)
  exact L_12 FU (0 : Int32) (0 : Int32) (0 : Int32) _ _ _ hl_12 hW (lv_sub hl [1, 0] rfl)
def f_X6_county (p0_keptSlots : Int32) (p0_text_length : Int32) (p0_reader_place : Int32) (p0_reader_stopped : Int32) (p0_draft_persons : Int32) (p0_draft_skies : Int32) (p0_draft_oaths : Int32) (p0_land_persons : Int32) (p0_land_skies : Int32) (p0_land_oaths : Int32) (p0_now_places : Int32) (p0_now_wool : Int32) (p0_now_sworn : Int32) (p0_now_worth : Int32) (p0_now_day : Int32) (p0_acts_length : Int32) (p0_text_letters : Nat → Int32) (p0_draft_places : Nat → Int32) (p0_draft_kinds : Nat → Int32) (p0_draft_clapPlaces : Nat → Int32) (p0_draft_louds : Nat → Int32) (p0_draft_ones : Nat → Int32) (p0_draft_others : Nat → Int32) (p0_draft_worths : Nat → Int32) (p0_draft_hangs : Nat → Int32) (p0_land_places : Nat → Int32) (p0_land_kinds : Nat → Int32) (p0_land_clapPlaces : Nat → Int32) (p0_land_louds : Nat → Int32) (p0_land_ones : Nat → Int32) (p0_land_others : Nat → Int32) (p0_land_worths : Nat → Int32) (p0_land_hangs : Nat → Int32) : Option (Int32 × Int32 × Int32 × Int32 × Int32 × Int32 × Int32 × Int32 × Int32 × Int32 × Int32 × Int32 × Int32 × Int32 × Int32 × Int32 × (Nat → Int32) × (Nat → Int32) × (Nat → Int32) × (Nat → Int32) × (Nat → Int32) × (Nat → Int32) × (Nat → Int32) × (Nat → Int32) × (Nat → Int32) × (Nat → Int32) × (Nat → Int32) × (Nat → Int32) × (Nat → Int32) × (Nat → Int32) × (Nat → Int32) × (Nat → Int32)) := (f_X3_readInto p0_reader_place p0_reader_stopped p0_text_length p0_text_letters p0_draft_persons p0_draft_skies p0_draft_oaths p0_draft_places p0_draft_kinds p0_draft_clapPlaces p0_draft_louds p0_draft_ones p0_draft_others p0_draft_worths p0_draft_hangs).bind fun r_1 => if r_1.1 = (-9 : Int32) then (f_X3_readInto r_1.2.1 r_1.2.2.1 p0_text_length p0_text_letters p0_land_persons p0_land_skies p0_land_oaths p0_land_places p0_land_kinds p0_land_clapPlaces p0_land_louds p0_land_ones p0_land_others p0_land_worths p0_land_hangs).bind fun r_3 => (f_X4_begin p0_now_places p0_now_wool p0_now_sworn p0_now_worth p0_now_day r_3.2.2.2.1 r_3.2.2.2.2.2.1 r_3.2.2.2.2.2.2.1 r_3.2.2.2.2.2.2.2.1).bind fun r_4 => some (((((100 : Int32) * r_3.2.2.2.1) + ((10 : Int32) * r_3.2.2.2.2.1)) + r_3.2.2.2.2.2.1), (0 : Int32), r_3.2.1, r_3.2.2.1, r_1.2.2.2.1, r_1.2.2.2.2.1, r_1.2.2.2.2.2.1, r_3.2.2.2.1, r_3.2.2.2.2.1, r_3.2.2.2.2.2.1, r_4.1, r_4.2.1, r_4.2.2.1, r_4.2.2.2.1, r_4.2.2.2.2, (0 : Int32), r_1.2.2.2.2.2.2.1, r_1.2.2.2.2.2.2.2.1, r_1.2.2.2.2.2.2.2.2.1, r_1.2.2.2.2.2.2.2.2.2.1, r_1.2.2.2.2.2.2.2.2.2.2.1, r_1.2.2.2.2.2.2.2.2.2.2.2.1, r_1.2.2.2.2.2.2.2.2.2.2.2.2.1, r_1.2.2.2.2.2.2.2.2.2.2.2.2.2, r_3.2.2.2.2.2.2.1, r_3.2.2.2.2.2.2.2.1, r_3.2.2.2.2.2.2.2.2.1, r_3.2.2.2.2.2.2.2.2.2.1, r_3.2.2.2.2.2.2.2.2.2.2.1, r_3.2.2.2.2.2.2.2.2.2.2.2.1, r_3.2.2.2.2.2.2.2.2.2.2.2.2.1, r_3.2.2.2.2.2.2.2.2.2.2.2.2.2) else some ((-3 : Int32), p0_keptSlots, r_1.2.1, r_1.2.2.1, r_1.2.2.2.1, r_1.2.2.2.2.1, r_1.2.2.2.2.2.1, p0_land_persons, p0_land_skies, p0_land_oaths, p0_now_places, p0_now_wool, p0_now_sworn, p0_now_worth, p0_now_day, p0_acts_length, r_1.2.2.2.2.2.2.1, r_1.2.2.2.2.2.2.2.1, r_1.2.2.2.2.2.2.2.2.1, r_1.2.2.2.2.2.2.2.2.2.1, r_1.2.2.2.2.2.2.2.2.2.2.1, r_1.2.2.2.2.2.2.2.2.2.2.2.1, r_1.2.2.2.2.2.2.2.2.2.2.2.2.1, r_1.2.2.2.2.2.2.2.2.2.2.2.2.2, p0_land_places, p0_land_kinds, p0_land_clapPlaces, p0_land_louds, p0_land_ones, p0_land_others, p0_land_worths, p0_land_hangs)
set_option maxHeartbeats 4000000 in
set_option maxRecDepth 100000 in
theorem c_X6_county (l : Launch) (D : va_G) (cI cZ : ClassId) (a_p0 a_p0_text a_p0_reader a_p0_draft a_p0_land a_p0_now a_p0_trial a_p0_acts a_p0_hearings a_p0_kept a_p0_text_letters a_p0_draft_places a_p0_draft_kinds a_p0_draft_clapPlaces a_p0_draft_louds a_p0_draft_ones a_p0_draft_others a_p0_draft_worths a_p0_draft_hangs a_p0_land_places a_p0_land_kinds a_p0_land_clapPlaces a_p0_land_louds a_p0_land_ones a_p0_land_others a_p0_land_worths a_p0_land_hangs a_p0_acts_row : Nat) (p0_keptSlots : Int32) (p0_seedNow : Int64) (p0_text_length : Int32) (p0_reader_place : Int32) (p0_reader_stopped : Int32) (p0_draft_persons : Int32) (p0_draft_skies : Int32) (p0_draft_oaths : Int32) (p0_land_persons : Int32) (p0_land_skies : Int32) (p0_land_oaths : Int32) (p0_now_places : Int32) (p0_now_wool : Int32) (p0_now_sworn : Int32) (p0_now_worth : Int32) (p0_now_day : Int32) (p0_acts_length : Int32) (p0_text_letters : Nat → Int32) (p0_draft_places : Nat → Int32) (p0_draft_kinds : Nat → Int32) (p0_draft_clapPlaces : Nat → Int32) (p0_draft_louds : Nat → Int32) (p0_draft_ones : Nat → Int32) (p0_draft_others : Nat → Int32) (p0_draft_worths : Nat → Int32) (p0_draft_hangs : Nat → Int32) (p0_land_places : Nat → Int32) (p0_land_kinds : Nat → Int32) (p0_land_clapPlaces : Nat → Int32) (p0_land_louds : Nat → Int32) (p0_land_ones : Nat → Int32) (p0_land_others : Nat → Int32) (p0_land_worths : Nat → Int32) (p0_land_hangs : Nat → Int32) (q : Int32 × Int32 × Int32 × Int32 × Int32 × Int32 × Int32 × Int32 × Int32 × Int32 × Int32 × Int32 × Int32 × Int32 × Int32 × Int32 × (Nat → Int32) × (Nat → Int32) × (Nat → Int32) × (Nat → Int32) × (Nat → Int32) × (Nat → Int32) × (Nat → Int32) × (Nat → Int32) × (Nat → Int32) × (Nat → Int32) × (Nat → Int32) × (Nat → Int32) × (Nat → Int32) × (Nat → Int32) × (Nat → Int32) × (Nat → Int32)) (hf : f_X6_county p0_keptSlots p0_text_length p0_reader_place p0_reader_stopped p0_draft_persons p0_draft_skies p0_draft_oaths p0_land_persons p0_land_skies p0_land_oaths p0_now_places p0_now_wool p0_now_sworn p0_now_worth p0_now_day p0_acts_length p0_text_letters p0_draft_places p0_draft_kinds p0_draft_clapPlaces p0_draft_louds p0_draft_ones p0_draft_others p0_draft_worths p0_draft_hangs p0_land_places p0_land_kinds p0_land_clapPlaces p0_land_louds p0_land_ones p0_land_others p0_land_worths p0_land_hangs = some q) : CtI l D cI cZ yX6_county wsX6_county 6 134 [.ref a_p0] [(a_p0, .inr (6, [.ref a_p0_text, .ref a_p0_reader, .ref a_p0_draft, .ref a_p0_land, .ref a_p0_now, .ref a_p0_trial, .ref a_p0_acts, .ref a_p0_hearings, .ref a_p0_kept, .int p0_keptSlots, .long p0_seedNow])), (a_p0_text, .inr (5, [.ref a_p0_text_letters, .int p0_text_length])), (a_p0_reader, .inr (3, [.ref a_p0_text, .int p0_reader_place, .int p0_reader_stopped])), (a_p0_draft, .inr (1, [.ref a_p0_draft_places, .ref a_p0_draft_kinds, .ref a_p0_draft_clapPlaces, .ref a_p0_draft_louds, .ref a_p0_draft_ones, .ref a_p0_draft_others, .ref a_p0_draft_worths, .ref a_p0_draft_hangs, .int p0_draft_persons, .int p0_draft_skies, .int p0_draft_oaths])), (a_p0_land, .inr (1, [.ref a_p0_land_places, .ref a_p0_land_kinds, .ref a_p0_land_clapPlaces, .ref a_p0_land_louds, .ref a_p0_land_ones, .ref a_p0_land_others, .ref a_p0_land_worths, .ref a_p0_land_hangs, .int p0_land_persons, .int p0_land_skies, .int p0_land_oaths])), (a_p0_now, .inr (4, [.ref a_p0_land, .int p0_now_places, .int p0_now_wool, .int p0_now_sworn, .int p0_now_worth, .int p0_now_day])), (a_p0_acts, .inr (0, [.ref a_p0_acts_row, .int p0_acts_length])), (a_p0_text_letters, .inl (cI, 60, .inl p0_text_letters)), (a_p0_draft_places, .inl (cI, 5, .inl p0_draft_places)), (a_p0_draft_kinds, .inl (cI, 5, .inl p0_draft_kinds)), (a_p0_draft_clapPlaces, .inl (cI, 5, .inl p0_draft_clapPlaces)), (a_p0_draft_louds, .inl (cI, 5, .inl p0_draft_louds)), (a_p0_draft_ones, .inl (cI, 5, .inl p0_draft_ones)), (a_p0_draft_others, .inl (cI, 5, .inl p0_draft_others)), (a_p0_draft_worths, .inl (cI, 5, .inl p0_draft_worths)), (a_p0_draft_hangs, .inl (cI, 5, .inl p0_draft_hangs)), (a_p0_land_places, .inl (cI, 5, .inl p0_land_places)), (a_p0_land_kinds, .inl (cI, 5, .inl p0_land_kinds)), (a_p0_land_clapPlaces, .inl (cI, 5, .inl p0_land_clapPlaces)), (a_p0_land_louds, .inl (cI, 5, .inl p0_land_louds)), (a_p0_land_ones, .inl (cI, 5, .inl p0_land_ones)), (a_p0_land_others, .inl (cI, 5, .inl p0_land_others)), (a_p0_land_worths, .inl (cI, 5, .inl p0_land_worths)), (a_p0_land_hangs, .inl (cI, 5, .inl p0_land_hangs))] (fun q => [(a_p0, .inr (6, [.ref a_p0_text, .ref a_p0_reader, .ref a_p0_draft, .ref a_p0_land, .ref a_p0_now, .ref a_p0_trial, .ref a_p0_acts, .ref a_p0_hearings, .ref a_p0_kept, .int q.2.1, .long p0_seedNow])), (a_p0_text, .inr (5, [.ref a_p0_text_letters, .int p0_text_length])), (a_p0_reader, .inr (3, [.ref a_p0_text, .int q.2.2.1, .int q.2.2.2.1])), (a_p0_draft, .inr (1, [.ref a_p0_draft_places, .ref a_p0_draft_kinds, .ref a_p0_draft_clapPlaces, .ref a_p0_draft_louds, .ref a_p0_draft_ones, .ref a_p0_draft_others, .ref a_p0_draft_worths, .ref a_p0_draft_hangs, .int q.2.2.2.2.1, .int q.2.2.2.2.2.1, .int q.2.2.2.2.2.2.1])), (a_p0_land, .inr (1, [.ref a_p0_land_places, .ref a_p0_land_kinds, .ref a_p0_land_clapPlaces, .ref a_p0_land_louds, .ref a_p0_land_ones, .ref a_p0_land_others, .ref a_p0_land_worths, .ref a_p0_land_hangs, .int q.2.2.2.2.2.2.2.1, .int q.2.2.2.2.2.2.2.2.1, .int q.2.2.2.2.2.2.2.2.2.1])), (a_p0_now, .inr (4, [.ref a_p0_land, .int q.2.2.2.2.2.2.2.2.2.2.1, .int q.2.2.2.2.2.2.2.2.2.2.2.1, .int q.2.2.2.2.2.2.2.2.2.2.2.2.1, .int q.2.2.2.2.2.2.2.2.2.2.2.2.2.1, .int q.2.2.2.2.2.2.2.2.2.2.2.2.2.2.1])), (a_p0_acts, .inr (0, [.ref a_p0_acts_row, .int q.2.2.2.2.2.2.2.2.2.2.2.2.2.2.2.1])), (a_p0_text_letters, .inl (cI, 60, .inl p0_text_letters)), (a_p0_draft_places, .inl (cI, 5, .inl q.2.2.2.2.2.2.2.2.2.2.2.2.2.2.2.2.1)), (a_p0_draft_kinds, .inl (cI, 5, .inl q.2.2.2.2.2.2.2.2.2.2.2.2.2.2.2.2.2.1)), (a_p0_draft_clapPlaces, .inl (cI, 5, .inl q.2.2.2.2.2.2.2.2.2.2.2.2.2.2.2.2.2.2.1)), (a_p0_draft_louds, .inl (cI, 5, .inl q.2.2.2.2.2.2.2.2.2.2.2.2.2.2.2.2.2.2.2.1)), (a_p0_draft_ones, .inl (cI, 5, .inl q.2.2.2.2.2.2.2.2.2.2.2.2.2.2.2.2.2.2.2.2.1)), (a_p0_draft_others, .inl (cI, 5, .inl q.2.2.2.2.2.2.2.2.2.2.2.2.2.2.2.2.2.2.2.2.2.1)), (a_p0_draft_worths, .inl (cI, 5, .inl q.2.2.2.2.2.2.2.2.2.2.2.2.2.2.2.2.2.2.2.2.2.2.1)), (a_p0_draft_hangs, .inl (cI, 5, .inl q.2.2.2.2.2.2.2.2.2.2.2.2.2.2.2.2.2.2.2.2.2.2.2.1)), (a_p0_land_places, .inl (cI, 5, .inl q.2.2.2.2.2.2.2.2.2.2.2.2.2.2.2.2.2.2.2.2.2.2.2.2.1)), (a_p0_land_kinds, .inl (cI, 5, .inl q.2.2.2.2.2.2.2.2.2.2.2.2.2.2.2.2.2.2.2.2.2.2.2.2.2.1)), (a_p0_land_clapPlaces, .inl (cI, 5, .inl q.2.2.2.2.2.2.2.2.2.2.2.2.2.2.2.2.2.2.2.2.2.2.2.2.2.2.1)), (a_p0_land_louds, .inl (cI, 5, .inl q.2.2.2.2.2.2.2.2.2.2.2.2.2.2.2.2.2.2.2.2.2.2.2.2.2.2.2.1)), (a_p0_land_ones, .inl (cI, 5, .inl q.2.2.2.2.2.2.2.2.2.2.2.2.2.2.2.2.2.2.2.2.2.2.2.2.2.2.2.2.1)), (a_p0_land_others, .inl (cI, 5, .inl q.2.2.2.2.2.2.2.2.2.2.2.2.2.2.2.2.2.2.2.2.2.2.2.2.2.2.2.2.2.1)), (a_p0_land_worths, .inl (cI, 5, .inl q.2.2.2.2.2.2.2.2.2.2.2.2.2.2.2.2.2.2.2.2.2.2.2.2.2.2.2.2.2.2.1)), (a_p0_land_hangs, .inl (cI, 5, .inl q.2.2.2.2.2.2.2.2.2.2.2.2.2.2.2.2.2.2.2.2.2.2.2.2.2.2.2.2.2.2.2))]) (fun q => q.1) q := by
  refine CtI.of (cc := cX6_county) (maxL := 1) (plainFor_of_name (by decide)) rfl (Nat.le_of_ble_eq_true rfl) ?_
  intro p e s m args below meth c A Q H ls hB hE hW hl
  have hx := hB.1
  have hb := hB.2.1
  have hml := hB.2.2.2.1
  have hown : s.vm.findClass RX6 = some m.cls := hB.2.2.2.2.1
  have hts := hB.2.2.2.2.2.1
  have hK := hB.2.2.2.2.2.2.2.1.1
  have hl : lv_has ls 1 [(0, .ref a_p0)] := hl
  have in_X0 : ∀ w ∈ wsX00, w ∈ wsX6_county := fun w h => List.mem_cons_of_mem _ (List.mem_append_left _ (List.mem_append_left _ (List.mem_append_left _ (List.mem_append_left _ (List.mem_append_right _ h)))))
  have in_X1 : ∀ w ∈ wsX10, w ∈ wsX6_county := fun w h => List.mem_cons_of_mem _ (List.mem_append_left _ (List.mem_append_left _ (List.mem_append_left _ (List.mem_append_right _ h))))
  have in_X6 : ∀ w ∈ wsX60, w ∈ wsX6_county := fun w h => List.mem_cons_of_mem _ (List.mem_append_left _ (List.mem_append_left _ (List.mem_append_left _ (List.mem_append_left _ (List.mem_append_left _ (List.mem_append_right _ h))))))
  have fl_21 : (Cond.fieldLink RX6 21 (TX6 1).1 (TX6 1).2.1 (TX6 1).2.2.1).before args s = true := hts (.fieldLink RX6 21 "ClapOaths" "reader" "LClapOaths$Reader;") (by decide +kernel)
  have fl_28 : (Cond.fieldLink RX6 28 (TX6 2).1 (TX6 2).2.1 (TX6 2).2.2.1).before args s = true := hts (.fieldLink RX6 28 "ClapOaths" "draft" "LClapOaths$County;") (by decide +kernel)
  have fl_32 : (Cond.fieldLink RX6 32 (TX6 3).1 (TX6 3).2.1 (TX6 3).2.2.1).before args s = true := hts (.fieldLink RX6 32 "ClapOaths" "land" "LClapOaths$County;") (by decide +kernel)
  have fl_40 : (Cond.fieldLink RX6 40 (TX6 4).1 (TX6 4).2.1 (TX6 4).2.2.1).before args s = true := hts (.fieldLink RX6 40 "ClapOaths" "now" "LClapOaths$Standing;") (by decide +kernel)
  have fl_50 : (Cond.fieldLink RX6 50 (TX6 6).1 (TX6 6).2.1 (TX6 6).2.2.1).before args s = true := hts (.fieldLink RX6 50 "ClapOaths" "acts" "LClapOaths$Acts;") (by decide +kernel)
  have fl_65 : (Cond.fieldLink RX6 65 (TX6 9).1 (TX6 9).2.1 (TX6 9).2.2.1).before args s = true := hts (.fieldLink RX6 65 "ClapOaths" "keptSlots" "I") (by decide +kernel)
  have fl_91 : (Cond.fieldLink RX6 91 (TX0 1).1 (TX0 1).2.1 (TX0 1).2.2.1).before args s = true := hts (.fieldLink RX6 91 "ClapOaths$Acts" "length" "I") (by decide +kernel)
  have fl_92 : (Cond.fieldLink RX6 92 (TX1 8).1 (TX1 8).2.1 (TX1 8).2.2.1).before args s = true := hts (.fieldLink RX6 92 "ClapOaths$County" "persons" "I") (by decide +kernel)
  have fl_95 : (Cond.fieldLink RX6 95 (TX1 9).1 (TX1 9).2.1 (TX1 9).2.2.1).before args s = true := hts (.fieldLink RX6 95 "ClapOaths$County" "skies" "I") (by decide +kernel)
  have fl_98 : (Cond.fieldLink RX6 98 (TX1 10).1 (TX1 10).2.1 (TX1 10).2.2.1).before args s = true := hts (.fieldLink RX6 98 "ClapOaths$County" "oaths" "I") (by decide +kernel)
  unfold f_X6_county at hf
  refine lv_aload_n hx hb dX6_county_0 rfl (lv_at hl 0 rfl) ?_
  refine q_get hB hW 6 in_X6 0 rfl rfl 1 (by decide) fl_21 (v := .ref a_p0_reader) rfl dX6_county_1 ?_
  refine lv_aload_n hx hb dX6_county_4 rfl (lv_at hl 0 rfl) ?_
  refine q_get hB hW 6 in_X6 0 rfl rfl 2 (by decide) fl_28 (v := .ref a_p0_draft) rfl dX6_county_5 ?_
  obtain ⟨r_1, hr_1, hf⟩ := bnd hf
  refine q_callVI hB hW (ci := 3) (q0 := 0) rfl rfl rfl (As := [.ref a_p0_draft]) (rest := []) (ws' := [(a_p0, .inr (6, [.ref a_p0_text, .ref a_p0_reader, .ref a_p0_draft, .ref a_p0_land, .ref a_p0_now, .ref a_p0_trial, .ref a_p0_acts, .ref a_p0_hearings, .ref a_p0_kept, .int p0_keptSlots, .long p0_seedNow])), (a_p0_text, .inr (5, [.ref a_p0_text_letters, .int p0_text_length])), (a_p0_reader, .inr (3, [.ref a_p0_text, .int r_1.2.1, .int r_1.2.2.1])), (a_p0_draft, .inr (1, [.ref a_p0_draft_places, .ref a_p0_draft_kinds, .ref a_p0_draft_clapPlaces, .ref a_p0_draft_louds, .ref a_p0_draft_ones, .ref a_p0_draft_others, .ref a_p0_draft_worths, .ref a_p0_draft_hangs, .int r_1.2.2.2.1, .int r_1.2.2.2.2.1, .int r_1.2.2.2.2.2.1])), (a_p0_land, .inr (1, [.ref a_p0_land_places, .ref a_p0_land_kinds, .ref a_p0_land_clapPlaces, .ref a_p0_land_louds, .ref a_p0_land_ones, .ref a_p0_land_others, .ref a_p0_land_worths, .ref a_p0_land_hangs, .int p0_land_persons, .int p0_land_skies, .int p0_land_oaths])), (a_p0_now, .inr (4, [.ref a_p0_land, .int p0_now_places, .int p0_now_wool, .int p0_now_sworn, .int p0_now_worth, .int p0_now_day])), (a_p0_acts, .inr (0, [.ref a_p0_acts_row, .int p0_acts_length])), (a_p0_text_letters, .inl (cI, 60, .inl p0_text_letters)), (a_p0_draft_places, .inl (cI, 5, .inl r_1.2.2.2.2.2.2.1)), (a_p0_draft_kinds, .inl (cI, 5, .inl r_1.2.2.2.2.2.2.2.1)), (a_p0_draft_clapPlaces, .inl (cI, 5, .inl r_1.2.2.2.2.2.2.2.2.1)), (a_p0_draft_louds, .inl (cI, 5, .inl r_1.2.2.2.2.2.2.2.2.2.1)), (a_p0_draft_ones, .inl (cI, 5, .inl r_1.2.2.2.2.2.2.2.2.2.2.1)), (a_p0_draft_others, .inl (cI, 5, .inl r_1.2.2.2.2.2.2.2.2.2.2.2.1)), (a_p0_draft_worths, .inl (cI, 5, .inl r_1.2.2.2.2.2.2.2.2.2.2.2.2.1)), (a_p0_draft_hangs, .inl (cI, 5, .inl r_1.2.2.2.2.2.2.2.2.2.2.2.2.2)), (a_p0_land_places, .inl (cI, 5, .inl p0_land_places)), (a_p0_land_kinds, .inl (cI, 5, .inl p0_land_kinds)), (a_p0_land_clapPlaces, .inl (cI, 5, .inl p0_land_clapPlaces)), (a_p0_land_louds, .inl (cI, 5, .inl p0_land_louds)), (a_p0_land_ones, .inl (cI, 5, .inl p0_land_ones)), (a_p0_land_others, .inl (cI, 5, .inl p0_land_others)), (a_p0_land_worths, .inl (cI, 5, .inl p0_land_worths)), (a_p0_land_hangs, .inl (cI, 5, .inl p0_land_hangs))]) (c_X3_readInto l D cI cZ a_p0_reader a_p0_draft a_p0_text a_p0_text_letters a_p0_draft_places a_p0_draft_kinds a_p0_draft_clapPlaces a_p0_draft_louds a_p0_draft_ones a_p0_draft_others a_p0_draft_worths a_p0_draft_hangs p0_reader_place p0_reader_stopped p0_text_length p0_text_letters p0_draft_persons p0_draft_skies p0_draft_oaths p0_draft_places p0_draft_kinds p0_draft_clapPlaces p0_draft_louds p0_draft_ones p0_draft_others p0_draft_worths p0_draft_hangs r_1 hr_1) (cwV 1 hts gX6_county_X3_readInto rfl rfl rfl (by decide +kernel) ⟨Nat.le_of_ble_eq_true rfl, Nat.le_of_ble_eq_true rfl⟩) [2, 1, 7, 3, 8, 9, 10, 11, 12, 13, 14, 15] rfl rfl rfl rfl rfl hl.1 rfl (Nat.le_of_ble_eq_true rfl) ⟨Nat.le_of_ble_eq_true rfl, Nat.le_of_ble_eq_true rfl⟩ dX6_county_8 (fun H locs hW => ?_)
  refine lv_bipush (v := -9) hx hb dX6_county_11 (by decide) ?_
  refine lv_icmp_eq (tgt := 19) hx hb dX6_county_13 (by decide) (fun c_2 => ?_) (fun c_2 => ?_)
  · have hf := it_t c_2 hf
    refine lv_aload_n hx hb dX6_county_19 rfl (lv_at hl 0 rfl) ?_
    refine q_get hB hW 6 in_X6 0 rfl rfl 1 (by decide) fl_21 (v := .ref a_p0_reader) rfl dX6_county_20 ?_
    refine lv_aload_n hx hb dX6_county_23 rfl (lv_at hl 0 rfl) ?_
    refine q_get hB hW 6 in_X6 0 rfl rfl 3 (by decide) fl_32 (v := .ref a_p0_land) rfl dX6_county_24 ?_
    obtain ⟨r_3, hr_3, hf⟩ := bnd hf
    refine q_callVI hB hW (ci := 3) (q0 := 0) rfl rfl rfl (As := [.ref a_p0_land]) (rest := []) (ws' := [(a_p0, .inr (6, [.ref a_p0_text, .ref a_p0_reader, .ref a_p0_draft, .ref a_p0_land, .ref a_p0_now, .ref a_p0_trial, .ref a_p0_acts, .ref a_p0_hearings, .ref a_p0_kept, .int p0_keptSlots, .long p0_seedNow])), (a_p0_text, .inr (5, [.ref a_p0_text_letters, .int p0_text_length])), (a_p0_reader, .inr (3, [.ref a_p0_text, .int r_3.2.1, .int r_3.2.2.1])), (a_p0_draft, .inr (1, [.ref a_p0_draft_places, .ref a_p0_draft_kinds, .ref a_p0_draft_clapPlaces, .ref a_p0_draft_louds, .ref a_p0_draft_ones, .ref a_p0_draft_others, .ref a_p0_draft_worths, .ref a_p0_draft_hangs, .int r_1.2.2.2.1, .int r_1.2.2.2.2.1, .int r_1.2.2.2.2.2.1])), (a_p0_land, .inr (1, [.ref a_p0_land_places, .ref a_p0_land_kinds, .ref a_p0_land_clapPlaces, .ref a_p0_land_louds, .ref a_p0_land_ones, .ref a_p0_land_others, .ref a_p0_land_worths, .ref a_p0_land_hangs, .int r_3.2.2.2.1, .int r_3.2.2.2.2.1, .int r_3.2.2.2.2.2.1])), (a_p0_now, .inr (4, [.ref a_p0_land, .int p0_now_places, .int p0_now_wool, .int p0_now_sworn, .int p0_now_worth, .int p0_now_day])), (a_p0_acts, .inr (0, [.ref a_p0_acts_row, .int p0_acts_length])), (a_p0_text_letters, .inl (cI, 60, .inl p0_text_letters)), (a_p0_draft_places, .inl (cI, 5, .inl r_1.2.2.2.2.2.2.1)), (a_p0_draft_kinds, .inl (cI, 5, .inl r_1.2.2.2.2.2.2.2.1)), (a_p0_draft_clapPlaces, .inl (cI, 5, .inl r_1.2.2.2.2.2.2.2.2.1)), (a_p0_draft_louds, .inl (cI, 5, .inl r_1.2.2.2.2.2.2.2.2.2.1)), (a_p0_draft_ones, .inl (cI, 5, .inl r_1.2.2.2.2.2.2.2.2.2.2.1)), (a_p0_draft_others, .inl (cI, 5, .inl r_1.2.2.2.2.2.2.2.2.2.2.2.1)), (a_p0_draft_worths, .inl (cI, 5, .inl r_1.2.2.2.2.2.2.2.2.2.2.2.2.1)), (a_p0_draft_hangs, .inl (cI, 5, .inl r_1.2.2.2.2.2.2.2.2.2.2.2.2.2)), (a_p0_land_places, .inl (cI, 5, .inl r_3.2.2.2.2.2.2.1)), (a_p0_land_kinds, .inl (cI, 5, .inl r_3.2.2.2.2.2.2.2.1)), (a_p0_land_clapPlaces, .inl (cI, 5, .inl r_3.2.2.2.2.2.2.2.2.1)), (a_p0_land_louds, .inl (cI, 5, .inl r_3.2.2.2.2.2.2.2.2.2.1)), (a_p0_land_ones, .inl (cI, 5, .inl r_3.2.2.2.2.2.2.2.2.2.2.1)), (a_p0_land_others, .inl (cI, 5, .inl r_3.2.2.2.2.2.2.2.2.2.2.2.1)), (a_p0_land_worths, .inl (cI, 5, .inl r_3.2.2.2.2.2.2.2.2.2.2.2.2.1)), (a_p0_land_hangs, .inl (cI, 5, .inl r_3.2.2.2.2.2.2.2.2.2.2.2.2.2))]) (c_X3_readInto l D cI cZ a_p0_reader a_p0_land a_p0_text a_p0_text_letters a_p0_land_places a_p0_land_kinds a_p0_land_clapPlaces a_p0_land_louds a_p0_land_ones a_p0_land_others a_p0_land_worths a_p0_land_hangs r_1.2.1 r_1.2.2.1 p0_text_length p0_text_letters p0_land_persons p0_land_skies p0_land_oaths p0_land_places p0_land_kinds p0_land_clapPlaces p0_land_louds p0_land_ones p0_land_others p0_land_worths p0_land_hangs r_3 hr_3) (cwV 1 hts gX6_county_X3_readInto rfl rfl rfl (by decide +kernel) ⟨Nat.le_of_ble_eq_true rfl, Nat.le_of_ble_eq_true rfl⟩) [2, 1, 7, 4, 16, 17, 18, 19, 20, 21, 22, 23] rfl rfl rfl rfl rfl hl.1 rfl (Nat.le_of_ble_eq_true rfl) ⟨Nat.le_of_ble_eq_true rfl, Nat.le_of_ble_eq_true rfl⟩ dX6_county_27 (fun H locs hW => ?_)
    refine lv_pop hx hb dX6_county_30 rfl ?_
    refine lv_aload_n hx hb dX6_county_31 rfl (lv_at hl 0 rfl) ?_
    refine q_get hB hW 6 in_X6 0 rfl rfl 4 (by decide) fl_40 (v := .ref a_p0_now) rfl dX6_county_32 ?_
    obtain ⟨r_4, hr_4, hf⟩ := bnd hf
    refine q_callVV hB hW (ci := 4) (q0 := 0) rfl rfl rfl (As := []) (rest := []) (ws' := [(a_p0, .inr (6, [.ref a_p0_text, .ref a_p0_reader, .ref a_p0_draft, .ref a_p0_land, .ref a_p0_now, .ref a_p0_trial, .ref a_p0_acts, .ref a_p0_hearings, .ref a_p0_kept, .int p0_keptSlots, .long p0_seedNow])), (a_p0_text, .inr (5, [.ref a_p0_text_letters, .int p0_text_length])), (a_p0_reader, .inr (3, [.ref a_p0_text, .int r_3.2.1, .int r_3.2.2.1])), (a_p0_draft, .inr (1, [.ref a_p0_draft_places, .ref a_p0_draft_kinds, .ref a_p0_draft_clapPlaces, .ref a_p0_draft_louds, .ref a_p0_draft_ones, .ref a_p0_draft_others, .ref a_p0_draft_worths, .ref a_p0_draft_hangs, .int r_1.2.2.2.1, .int r_1.2.2.2.2.1, .int r_1.2.2.2.2.2.1])), (a_p0_land, .inr (1, [.ref a_p0_land_places, .ref a_p0_land_kinds, .ref a_p0_land_clapPlaces, .ref a_p0_land_louds, .ref a_p0_land_ones, .ref a_p0_land_others, .ref a_p0_land_worths, .ref a_p0_land_hangs, .int r_3.2.2.2.1, .int r_3.2.2.2.2.1, .int r_3.2.2.2.2.2.1])), (a_p0_now, .inr (4, [.ref a_p0_land, .int r_4.1, .int r_4.2.1, .int r_4.2.2.1, .int r_4.2.2.2.1, .int r_4.2.2.2.2])), (a_p0_acts, .inr (0, [.ref a_p0_acts_row, .int p0_acts_length])), (a_p0_text_letters, .inl (cI, 60, .inl p0_text_letters)), (a_p0_draft_places, .inl (cI, 5, .inl r_1.2.2.2.2.2.2.1)), (a_p0_draft_kinds, .inl (cI, 5, .inl r_1.2.2.2.2.2.2.2.1)), (a_p0_draft_clapPlaces, .inl (cI, 5, .inl r_1.2.2.2.2.2.2.2.2.1)), (a_p0_draft_louds, .inl (cI, 5, .inl r_1.2.2.2.2.2.2.2.2.2.1)), (a_p0_draft_ones, .inl (cI, 5, .inl r_1.2.2.2.2.2.2.2.2.2.2.1)), (a_p0_draft_others, .inl (cI, 5, .inl r_1.2.2.2.2.2.2.2.2.2.2.2.1)), (a_p0_draft_worths, .inl (cI, 5, .inl r_1.2.2.2.2.2.2.2.2.2.2.2.2.1)), (a_p0_draft_hangs, .inl (cI, 5, .inl r_1.2.2.2.2.2.2.2.2.2.2.2.2.2)), (a_p0_land_places, .inl (cI, 5, .inl r_3.2.2.2.2.2.2.1)), (a_p0_land_kinds, .inl (cI, 5, .inl r_3.2.2.2.2.2.2.2.1)), (a_p0_land_clapPlaces, .inl (cI, 5, .inl r_3.2.2.2.2.2.2.2.2.1)), (a_p0_land_louds, .inl (cI, 5, .inl r_3.2.2.2.2.2.2.2.2.2.1)), (a_p0_land_ones, .inl (cI, 5, .inl r_3.2.2.2.2.2.2.2.2.2.2.1)), (a_p0_land_others, .inl (cI, 5, .inl r_3.2.2.2.2.2.2.2.2.2.2.2.1)), (a_p0_land_worths, .inl (cI, 5, .inl r_3.2.2.2.2.2.2.2.2.2.2.2.2.1)), (a_p0_land_hangs, .inl (cI, 5, .inl r_3.2.2.2.2.2.2.2.2.2.2.2.2.2))]) (c_X4_begin l D cI cZ a_p0_now a_p0_land a_p0_land_places a_p0_land_kinds a_p0_land_clapPlaces a_p0_land_louds a_p0_land_ones a_p0_land_others a_p0_land_worths a_p0_land_hangs p0_now_places p0_now_wool p0_now_sworn p0_now_worth p0_now_day r_3.2.2.2.1 r_3.2.2.2.2.1 r_3.2.2.2.2.2.1 r_3.2.2.2.2.2.2.1 r_3.2.2.2.2.2.2.2.1 r_4 hr_4) (cwV 0 hts gX6_county_X4_begin rfl rfl rfl (by decide +kernel) ⟨Nat.le_of_ble_eq_true rfl, Nat.le_of_ble_eq_true rfl⟩) [5, 4, 16, 17] rfl rfl rfl rfl rfl hl.1 rfl (Nat.le_of_ble_eq_true rfl) ⟨Nat.le_of_ble_eq_true rfl, Nat.le_of_ble_eq_true rfl⟩ dX6_county_35 (fun H locs hW => ?_)
    refine lv_aload_n hx hb dX6_county_38 rfl (lv_at hl 0 rfl) ?_
    refine q_get hB hW 6 in_X6 0 rfl rfl 6 (by decide) fl_50 (v := .ref a_p0_acts) rfl dX6_county_39 ?_
    refine lv_iconst (v := 0) hx hb dX6_county_42 (by decide) ?_
    refine q_put hB hW 0 in_X0 tyX0 tyX0_ok nmX0 6 rfl rfl 1 (by decide) fl_91 rfl (by first | rfl | decide) (by first | rfl | decide) (Nat.le_of_ble_eq_true rfl) (ws' := [(a_p0, .inr (6, [.ref a_p0_text, .ref a_p0_reader, .ref a_p0_draft, .ref a_p0_land, .ref a_p0_now, .ref a_p0_trial, .ref a_p0_acts, .ref a_p0_hearings, .ref a_p0_kept, .int p0_keptSlots, .long p0_seedNow])), (a_p0_text, .inr (5, [.ref a_p0_text_letters, .int p0_text_length])), (a_p0_reader, .inr (3, [.ref a_p0_text, .int r_3.2.1, .int r_3.2.2.1])), (a_p0_draft, .inr (1, [.ref a_p0_draft_places, .ref a_p0_draft_kinds, .ref a_p0_draft_clapPlaces, .ref a_p0_draft_louds, .ref a_p0_draft_ones, .ref a_p0_draft_others, .ref a_p0_draft_worths, .ref a_p0_draft_hangs, .int r_1.2.2.2.1, .int r_1.2.2.2.2.1, .int r_1.2.2.2.2.2.1])), (a_p0_land, .inr (1, [.ref a_p0_land_places, .ref a_p0_land_kinds, .ref a_p0_land_clapPlaces, .ref a_p0_land_louds, .ref a_p0_land_ones, .ref a_p0_land_others, .ref a_p0_land_worths, .ref a_p0_land_hangs, .int r_3.2.2.2.1, .int r_3.2.2.2.2.1, .int r_3.2.2.2.2.2.1])), (a_p0_now, .inr (4, [.ref a_p0_land, .int r_4.1, .int r_4.2.1, .int r_4.2.2.1, .int r_4.2.2.2.1, .int r_4.2.2.2.2])), (a_p0_acts, .inr (0, [.ref a_p0_acts_row, .int (0 : Int32)])), (a_p0_text_letters, .inl (cI, 60, .inl p0_text_letters)), (a_p0_draft_places, .inl (cI, 5, .inl r_1.2.2.2.2.2.2.1)), (a_p0_draft_kinds, .inl (cI, 5, .inl r_1.2.2.2.2.2.2.2.1)), (a_p0_draft_clapPlaces, .inl (cI, 5, .inl r_1.2.2.2.2.2.2.2.2.1)), (a_p0_draft_louds, .inl (cI, 5, .inl r_1.2.2.2.2.2.2.2.2.2.1)), (a_p0_draft_ones, .inl (cI, 5, .inl r_1.2.2.2.2.2.2.2.2.2.2.1)), (a_p0_draft_others, .inl (cI, 5, .inl r_1.2.2.2.2.2.2.2.2.2.2.2.1)), (a_p0_draft_worths, .inl (cI, 5, .inl r_1.2.2.2.2.2.2.2.2.2.2.2.2.1)), (a_p0_draft_hangs, .inl (cI, 5, .inl r_1.2.2.2.2.2.2.2.2.2.2.2.2.2)), (a_p0_land_places, .inl (cI, 5, .inl r_3.2.2.2.2.2.2.1)), (a_p0_land_kinds, .inl (cI, 5, .inl r_3.2.2.2.2.2.2.2.1)), (a_p0_land_clapPlaces, .inl (cI, 5, .inl r_3.2.2.2.2.2.2.2.2.1)), (a_p0_land_louds, .inl (cI, 5, .inl r_3.2.2.2.2.2.2.2.2.2.1)), (a_p0_land_ones, .inl (cI, 5, .inl r_3.2.2.2.2.2.2.2.2.2.2.1)), (a_p0_land_others, .inl (cI, 5, .inl r_3.2.2.2.2.2.2.2.2.2.2.2.1)), (a_p0_land_worths, .inl (cI, 5, .inl r_3.2.2.2.2.2.2.2.2.2.2.2.2.1)), (a_p0_land_hangs, .inl (cI, 5, .inl r_3.2.2.2.2.2.2.2.2.2.2.2.2.2))]) rfl dX6_county_43 (fun H locs hW => ?_)
    refine lv_aload_n hx hb dX6_county_46 rfl (lv_at hl 0 rfl) ?_
    refine lv_iconst (v := 0) hx hb dX6_county_47 (by decide) ?_
    refine q_put hB hW 6 in_X6 tyX6 tyX6_ok nmX6 0 rfl rfl 9 (by decide) fl_65 rfl (by first | rfl | decide) (by first | rfl | decide) (Nat.le_of_ble_eq_true rfl) (ws' := [(a_p0, .inr (6, [.ref a_p0_text, .ref a_p0_reader, .ref a_p0_draft, .ref a_p0_land, .ref a_p0_now, .ref a_p0_trial, .ref a_p0_acts, .ref a_p0_hearings, .ref a_p0_kept, .int (0 : Int32), .long p0_seedNow])), (a_p0_text, .inr (5, [.ref a_p0_text_letters, .int p0_text_length])), (a_p0_reader, .inr (3, [.ref a_p0_text, .int r_3.2.1, .int r_3.2.2.1])), (a_p0_draft, .inr (1, [.ref a_p0_draft_places, .ref a_p0_draft_kinds, .ref a_p0_draft_clapPlaces, .ref a_p0_draft_louds, .ref a_p0_draft_ones, .ref a_p0_draft_others, .ref a_p0_draft_worths, .ref a_p0_draft_hangs, .int r_1.2.2.2.1, .int r_1.2.2.2.2.1, .int r_1.2.2.2.2.2.1])), (a_p0_land, .inr (1, [.ref a_p0_land_places, .ref a_p0_land_kinds, .ref a_p0_land_clapPlaces, .ref a_p0_land_louds, .ref a_p0_land_ones, .ref a_p0_land_others, .ref a_p0_land_worths, .ref a_p0_land_hangs, .int r_3.2.2.2.1, .int r_3.2.2.2.2.1, .int r_3.2.2.2.2.2.1])), (a_p0_now, .inr (4, [.ref a_p0_land, .int r_4.1, .int r_4.2.1, .int r_4.2.2.1, .int r_4.2.2.2.1, .int r_4.2.2.2.2])), (a_p0_acts, .inr (0, [.ref a_p0_acts_row, .int (0 : Int32)])), (a_p0_text_letters, .inl (cI, 60, .inl p0_text_letters)), (a_p0_draft_places, .inl (cI, 5, .inl r_1.2.2.2.2.2.2.1)), (a_p0_draft_kinds, .inl (cI, 5, .inl r_1.2.2.2.2.2.2.2.1)), (a_p0_draft_clapPlaces, .inl (cI, 5, .inl r_1.2.2.2.2.2.2.2.2.1)), (a_p0_draft_louds, .inl (cI, 5, .inl r_1.2.2.2.2.2.2.2.2.2.1)), (a_p0_draft_ones, .inl (cI, 5, .inl r_1.2.2.2.2.2.2.2.2.2.2.1)), (a_p0_draft_others, .inl (cI, 5, .inl r_1.2.2.2.2.2.2.2.2.2.2.2.1)), (a_p0_draft_worths, .inl (cI, 5, .inl r_1.2.2.2.2.2.2.2.2.2.2.2.2.1)), (a_p0_draft_hangs, .inl (cI, 5, .inl r_1.2.2.2.2.2.2.2.2.2.2.2.2.2)), (a_p0_land_places, .inl (cI, 5, .inl r_3.2.2.2.2.2.2.1)), (a_p0_land_kinds, .inl (cI, 5, .inl r_3.2.2.2.2.2.2.2.1)), (a_p0_land_clapPlaces, .inl (cI, 5, .inl r_3.2.2.2.2.2.2.2.2.1)), (a_p0_land_louds, .inl (cI, 5, .inl r_3.2.2.2.2.2.2.2.2.2.1)), (a_p0_land_ones, .inl (cI, 5, .inl r_3.2.2.2.2.2.2.2.2.2.2.1)), (a_p0_land_others, .inl (cI, 5, .inl r_3.2.2.2.2.2.2.2.2.2.2.2.1)), (a_p0_land_worths, .inl (cI, 5, .inl r_3.2.2.2.2.2.2.2.2.2.2.2.2.1)), (a_p0_land_hangs, .inl (cI, 5, .inl r_3.2.2.2.2.2.2.2.2.2.2.2.2.2))]) rfl dX6_county_48 (fun H locs hW => ?_)
    refine lv_bipush (v := 100) hx hb dX6_county_51 (by decide) ?_
    refine lv_aload_n hx hb dX6_county_53 rfl (lv_at hl 0 rfl) ?_
    refine q_get hB hW 6 in_X6 0 rfl rfl 3 (by decide) fl_32 (v := .ref a_p0_land) rfl dX6_county_54 ?_
    refine q_get hB hW 1 in_X1 4 rfl rfl 8 (by decide) fl_92 (v := .int r_3.2.2.2.1) rfl dX6_county_57 ?_
    refine lv_imul hx hb dX6_county_60 ?_
    refine lv_bipush (v := 10) hx hb dX6_county_61 (by decide) ?_
    refine lv_aload_n hx hb dX6_county_63 rfl (lv_at hl 0 rfl) ?_
    refine q_get hB hW 6 in_X6 0 rfl rfl 3 (by decide) fl_32 (v := .ref a_p0_land) rfl dX6_county_64 ?_
    refine q_get hB hW 1 in_X1 4 rfl rfl 9 (by decide) fl_95 (v := .int r_3.2.2.2.2.1) rfl dX6_county_67 ?_
    refine lv_imul hx hb dX6_county_70 ?_
    refine lv_iadd hx hb dX6_county_71 ?_
    refine lv_aload_n hx hb dX6_county_72 rfl (lv_at hl 0 rfl) ?_
    refine q_get hB hW 6 in_X6 0 rfl rfl 3 (by decide) fl_32 (v := .ref a_p0_land) rfl dX6_county_73 ?_
    refine q_get hB hW 1 in_X1 4 rfl rfl 10 (by decide) fl_98 (v := .int r_3.2.2.2.2.2.1) rfl dX6_county_76 ?_
    refine lv_iadd hx hb dX6_county_79 ?_
    exact hE _ _ _ _ _ (((((100 : Int32) * r_3.2.2.2.1) + ((10 : Int32) * r_3.2.2.2.2.1)) + r_3.2.2.2.2.2.1), (0 : Int32), r_3.2.1, r_3.2.2.1, r_1.2.2.2.1, r_1.2.2.2.2.1, r_1.2.2.2.2.2.1, r_3.2.2.2.1, r_3.2.2.2.2.1, r_3.2.2.2.2.2.1, r_4.1, r_4.2.1, r_4.2.2.1, r_4.2.2.2.1, r_4.2.2.2.2, (0 : Int32), r_1.2.2.2.2.2.2.1, r_1.2.2.2.2.2.2.2.1, r_1.2.2.2.2.2.2.2.2.1, r_1.2.2.2.2.2.2.2.2.2.1, r_1.2.2.2.2.2.2.2.2.2.2.1, r_1.2.2.2.2.2.2.2.2.2.2.2.1, r_1.2.2.2.2.2.2.2.2.2.2.2.2.1, r_1.2.2.2.2.2.2.2.2.2.2.2.2.2, r_3.2.2.2.2.2.2.1, r_3.2.2.2.2.2.2.2.1, r_3.2.2.2.2.2.2.2.2.1, r_3.2.2.2.2.2.2.2.2.2.1, r_3.2.2.2.2.2.2.2.2.2.2.1, r_3.2.2.2.2.2.2.2.2.2.2.2.1, r_3.2.2.2.2.2.2.2.2.2.2.2.2.1, r_3.2.2.2.2.2.2.2.2.2.2.2.2.2) (sm hf) hW rfl dX6_county_80
  · have hf := it_f c_2 hf
    refine lv_bipush (v := -3) hx hb dX6_county_16 (by decide) ?_
    exact hE _ _ _ _ _ ((-3 : Int32), p0_keptSlots, r_1.2.1, r_1.2.2.1, r_1.2.2.2.1, r_1.2.2.2.2.1, r_1.2.2.2.2.2.1, p0_land_persons, p0_land_skies, p0_land_oaths, p0_now_places, p0_now_wool, p0_now_sworn, p0_now_worth, p0_now_day, p0_acts_length, r_1.2.2.2.2.2.2.1, r_1.2.2.2.2.2.2.2.1, r_1.2.2.2.2.2.2.2.2.1, r_1.2.2.2.2.2.2.2.2.2.1, r_1.2.2.2.2.2.2.2.2.2.2.1, r_1.2.2.2.2.2.2.2.2.2.2.2.1, r_1.2.2.2.2.2.2.2.2.2.2.2.2.1, r_1.2.2.2.2.2.2.2.2.2.2.2.2.2, p0_land_places, p0_land_kinds, p0_land_clapPlaces, p0_land_louds, p0_land_ones, p0_land_others, p0_land_worths, p0_land_hangs) (sm hf) hW rfl dX6_county_18
def f_X4_placeOf (v1 : Int32) (p0_places : Int32) : Option (Int32) := some ((p0_places >>> (((4 : Int32) * v1) &&& 31)) &&& (15 : Int32))
set_option maxHeartbeats 4000000 in
set_option maxRecDepth 100000 in
theorem c_X4_placeOf (l : Launch) (D : va_G) (cI cZ : ClassId) (a_p0 a_p0_land : Nat) (p0_places : Int32) (p0_wool : Int32) (p0_sworn : Int32) (p0_worth : Int32) (p0_day : Int32) (v1 : Int32) (q : Int32) (hf : f_X4_placeOf v1 p0_places = some q) : CtI l D cI cZ yX4_placeOf wsX4_placeOf 0 0 [.ref a_p0, .int v1] [(a_p0, .inr (4, [.ref a_p0_land, .int p0_places, .int p0_wool, .int p0_sworn, .int p0_worth, .int p0_day]))] (fun q => [(a_p0, .inr (4, [.ref a_p0_land, .int p0_places, .int p0_wool, .int p0_sworn, .int p0_worth, .int p0_day]))]) (fun q => q) q := by
  refine CtI.of (cc := cX4_placeOf) (maxL := 2) (plainFor_of_name (by decide)) rfl (Nat.le_of_ble_eq_true rfl) ?_
  intro p e s m args below meth c A Q H ls hB hE hW hl
  have hx := hB.1
  have hb := hB.2.1
  have hml := hB.2.2.2.1
  have hown : s.vm.findClass RX4 = some m.cls := hB.2.2.2.2.1
  have hts := hB.2.2.2.2.2.1
  have hK := hB.2.2.2.2.2.2.2.1.1
  have hl : lv_has ls 2 [(0, .ref a_p0), (1, .int v1)] := hl
  have in_X4 : ∀ w ∈ wsX40, w ∈ wsX4_placeOf := fun w h => List.mem_cons_of_mem _ (List.mem_append_right _ h)
  have fl_15 : (Cond.fieldLink RX4 15 (TX4 1).1 (TX4 1).2.1 (TX4 1).2.2.1).before args s = true := hts (.fieldLink RX4 15 "ClapOaths$Standing" "places" "I") (by decide +kernel)
  unfold f_X4_placeOf at hf
  refine lv_aload_n hx hb dX4_placeOf_0 rfl (lv_at hl 0 rfl) ?_
  refine q_get hB hW 4 in_X4 0 rfl rfl 1 (by decide) fl_15 (v := .int p0_places) rfl dX4_placeOf_1 ?_
  refine lv_iconst (v := 4) hx hb dX4_placeOf_4 (by decide) ?_
  refine lv_iload_n hx hb dX4_placeOf_5 rfl (lv_at hl 1 rfl) ?_
  refine lv_imul hx hb dX4_placeOf_6 ?_
  refine lv_ishr hx hb dX4_placeOf_7 ?_
  refine lv_bipush (v := 15) hx hb dX4_placeOf_8 (by decide) ?_
  refine lv_iand hx hb dX4_placeOf_10 ?_
  exact hE _ _ _ _ _ ((p0_places >>> (((4 : Int32) * v1) &&& 31)) &&& (15 : Int32)) (sm hf) hW rfl dX4_placeOf_11
def f_X6_bit (v0 : Int32) (v1 : Int32) : Option (Int32) := some ((v0 >>> (v1 &&& 31)) &&& (1 : Int32))
set_option maxHeartbeats 4000000 in
set_option maxRecDepth 100000 in
theorem c_X6_bit (l : Launch) (D : va_G) (cI cZ : ClassId) (v0 : Int32) (v1 : Int32) (q : Int32) (hf : f_X6_bit v0 v1 = some q) : CtI l D cI cZ yX6_bit wsX6_bit 0 0 [.int v0, .int v1] [] (fun q => []) (fun q => q) q := by
  refine CtI.of (cc := cX6_bit) (maxL := 2) (plainFor_of_name (by decide)) rfl (Nat.le_of_ble_eq_true rfl) ?_
  intro p e s m args below meth c A Q H ls hB hE hW hl
  have hx := hB.1
  have hb := hB.2.1
  have hml := hB.2.2.2.1
  have hown : s.vm.findClass RX6 = some m.cls := hB.2.2.2.2.1
  have hts := hB.2.2.2.2.2.1
  have hK := hB.2.2.2.2.2.2.2.1.1
  have hl : lv_has ls 2 [(0, .int v0), (1, .int v1)] := hl
  unfold f_X6_bit at hf
  refine lv_iload_n hx hb dX6_bit_0 rfl (lv_at hl 0 rfl) ?_
  refine lv_iload_n hx hb dX6_bit_1 rfl (lv_at hl 1 rfl) ?_
  refine lv_ishr hx hb dX6_bit_2 ?_
  refine lv_iconst (v := 1) hx hb dX6_bit_3 (by decide) ?_
  refine lv_iand hx hb dX6_bit_4 ?_
  exact hE _ _ _ _ _ ((v0 >>> (v1 &&& 31)) &&& (1 : Int32)) (sm hf) hW rfl dX6_bit_5
def b_X1_oathsOf_4 (v1 : Int32) (p0_oaths : Int32) (p0_ones : Nat → Int32) (p0_others : Nat → Int32) (v2 : Int32) (v3 : Int32) : Option ((Int32 × Int32) ⊕ (Int32)) := if p0_oaths ≤ v3 then some (.inr v2) else (f_X6_at 5 v3 p0_ones).bind fun r_506 => if r_506 = v1 then (some (v2 ||| ((1 : Int32) <<< (v3 &&& 31)))).bind fun w_508 => some (.inl (w_508, (v3 + (1 : Int32)))) else (f_X6_at 5 v3 p0_others).bind fun r_509 => if r_509 = v1 then (some (v2 ||| ((1 : Int32) <<< (v3 &&& 31)))).bind fun w_511 => some (.inl (w_511, (v3 + (1 : Int32)))) else some (.inl (v2, (v3 + (1 : Int32))))
def f_X1_oathsOf (v1 : Int32) (p0_oaths : Int32) (p0_ones : Nat → Int32) (p0_others : Nat → Int32) : Option (Int32) := (itr (fun s => b_X1_oathsOf_4 v1 p0_oaths p0_ones p0_others s.1 s.2) FU ((0 : Int32), (0 : Int32))).bind fun x_4 => some x_4
set_option maxHeartbeats 4000000 in
set_option maxRecDepth 100000 in
theorem c_X1_oathsOf (l : Launch) (D : va_G) (cI cZ : ClassId) (a_p0 a_p0_places a_p0_kinds a_p0_clapPlaces a_p0_louds a_p0_ones a_p0_others a_p0_worths a_p0_hangs : Nat) (p0_persons : Int32) (p0_skies : Int32) (p0_oaths : Int32) (p0_ones : Nat → Int32) (p0_others : Nat → Int32) (v1 : Int32) (q : Int32) (hf : f_X1_oathsOf v1 p0_oaths p0_ones p0_others = some q) : CtI l D cI cZ yX1_oathsOf wsX1_oathsOf 1 21 [.ref a_p0, .int v1] [(a_p0, .inr (1, [.ref a_p0_places, .ref a_p0_kinds, .ref a_p0_clapPlaces, .ref a_p0_louds, .ref a_p0_ones, .ref a_p0_others, .ref a_p0_worths, .ref a_p0_hangs, .int p0_persons, .int p0_skies, .int p0_oaths])), (a_p0_ones, .inl (cI, 5, .inl p0_ones)), (a_p0_others, .inl (cI, 5, .inl p0_others))] (fun q => [(a_p0, .inr (1, [.ref a_p0_places, .ref a_p0_kinds, .ref a_p0_clapPlaces, .ref a_p0_louds, .ref a_p0_ones, .ref a_p0_others, .ref a_p0_worths, .ref a_p0_hangs, .int p0_persons, .int p0_skies, .int p0_oaths])), (a_p0_ones, .inl (cI, 5, .inl p0_ones)), (a_p0_others, .inl (cI, 5, .inl p0_others))]) (fun q => q) q := by
  refine CtI.of (cc := cX1_oathsOf) (maxL := 4) (plainFor_of_name (by decide)) rfl (Nat.le_of_ble_eq_true rfl) ?_
  intro p e s m args below meth c A Q H ls hB hE hW hl
  have hx := hB.1
  have hb := hB.2.1
  have hml := hB.2.2.2.1
  have hown : s.vm.findClass RX1 = some m.cls := hB.2.2.2.2.1
  have hts := hB.2.2.2.2.2.1
  have hK := hB.2.2.2.2.2.2.2.1.1
  have hl : lv_has ls 4 [(0, .ref a_p0), (1, .int v1)] := hl
  have in_X1 : ∀ w ∈ wsX10, w ∈ wsX1_oathsOf := fun w h => List.mem_cons_of_mem _ (List.mem_append_right _ h)
  have fl_24 : (Cond.fieldLink RX1 24 (TX1 4).1 (TX1 4).2.1 (TX1 4).2.2.1).before args s = true := hts (.fieldLink RX1 24 "ClapOaths$County" "ones" "[I") (by decide +kernel)
  have fl_27 : (Cond.fieldLink RX1 27 (TX1 5).1 (TX1 5).2.1 (TX1 5).2.2.1).before args s = true := hts (.fieldLink RX1 27 "ClapOaths$County" "others" "[I") (by decide +kernel)
  have fl_43 : (Cond.fieldLink RX1 43 (TX1 10).1 (TX1 10).2.1 (TX1 10).2.2.1).before args s = true := hts (.fieldLink RX1 43 "ClapOaths$County" "oaths" "I") (by decide +kernel)
  unfold f_X1_oathsOf at hf
  refine lv_iconst (v := 0) hx hb dX1_oathsOf_0 (by decide) ?_
  refine lv_istore_n (lv' := [(2, .int (0 : Int32)), (0, .ref a_p0), (1, .int v1)]) hx hb dX1_oathsOf_1 rfl hl (by decide) rfl (fun ls hl => ?_)
  refine lv_iconst (v := 0) hx hb dX1_oathsOf_2 (by decide) ?_
  refine lv_istore_n (lv' := [(3, .int (0 : Int32)), (2, .int (0 : Int32)), (0, .ref a_p0), (1, .int v1)]) hx hb dX1_oathsOf_3 rfl hl (by decide) rfl (fun ls hl => ?_)
  obtain ⟨e_4, hl_4, hk_4⟩ := bnd hf
  have K_4 : ∀ x_4 : Int32, x_4 = e_4 → ∀ (H : Heap) (locs : List Loc) (ls : Array Slot), Wl D A s.heap [(a_p0, .inr (1, [.ref a_p0_places, .ref a_p0_kinds, .ref a_p0_clapPlaces, .ref a_p0_louds, .ref a_p0_ones, .ref a_p0_others, .ref a_p0_worths, .ref a_p0_hangs, .int p0_persons, .int p0_skies, .int p0_oaths])), (a_p0_ones, .inl (cI, 5, .inl p0_ones)), (a_p0_others, .inl (cI, 5, .inl p0_others))] H locs → lv_has ls 4 [(2, .int x_4)] → W p l e (Rm 1 21) s m args below meth c H locs 0 0 Q (F0 m 48 ls []) := by
    intro x_4 hx_4 H locs ls hW hl
    have hf := hk_4
    rw [← hx_4] at hf
    refine lv_iload_n hx hb dX1_oathsOf_48 rfl (lv_at hl 0 rfl) ?_
    exact hE _ _ _ _ _ x_4 (sm hf) hW rfl dX1_oathsOf_49
  have L_4 : ∀ (n : Nat) (y4_2 : Int32) (y4_3 : Int32) (H : Heap) (locs : List Loc) (ls : Array Slot), itr (fun s => b_X1_oathsOf_4 v1 p0_oaths p0_ones p0_others s.1 s.2) n (y4_2, y4_3) = some e_4 → Wl D A s.heap [(a_p0, .inr (1, [.ref a_p0_places, .ref a_p0_kinds, .ref a_p0_clapPlaces, .ref a_p0_louds, .ref a_p0_ones, .ref a_p0_others, .ref a_p0_worths, .ref a_p0_hangs, .int p0_persons, .int p0_skies, .int p0_oaths])), (a_p0_ones, .inl (cI, 5, .inl p0_ones)), (a_p0_others, .inl (cI, 5, .inl p0_others))] H locs → lv_has ls 4 [(0, .ref a_p0), (1, .int v1), (2, .int y4_2), (3, .int y4_3)] → W p l e (Rm 1 21) s m args below meth c H locs 0 0 Q (F0 m 4 ls []) := by
    intro n
    induction n with
    | zero => intro y4_2 y4_3 H locs ls h9; exact itr_0 h9
    | succ n ih =>
      intro y4_2 y4_3 H locs ls hf hW hl
      obtain ⟨o_4, hf, ho_4⟩ := itr_inv hf
      have hf : b_X1_oathsOf_4 v1 p0_oaths p0_ones p0_others y4_2 y4_3 = some o_4 := hf
      unfold b_X1_oathsOf_4 at hf
      refine lv_iload_n hx hb dX1_oathsOf_4 rfl (lv_at hl 3 rfl) ?_
      refine lv_aload_n hx hb dX1_oathsOf_5 rfl (lv_at hl 0 rfl) ?_
      refine q_get hB hW 1 in_X1 0 rfl rfl 10 (by decide) fl_43 (v := .int p0_oaths) rfl dX1_oathsOf_6 ?_
      refine lv_icmp_ge (tgt := 48) hx hb dX1_oathsOf_9 (by decide) (fun c_1 => ?_) (fun c_1 => ?_)
      · have hf := it_t c_1 hf
        have h9 := o_inr hf ho_4
        exact K_4 y4_2 h9 _ _ _ hW (lv_sub hl [2] rfl)
      · have hf := it_f c_1 hf
        refine lv_aload_n hx hb dX1_oathsOf_12 rfl (lv_at hl 0 rfl) ?_
        refine q_get hB hW 1 in_X1 0 rfl rfl 4 (by decide) fl_24 (v := .ref a_p0_ones) rfl dX1_oathsOf_13 ?_
        refine lv_iload_n hx hb dX1_oathsOf_16 rfl (lv_at hl 3 rfl) ?_
        obtain ⟨r_2, hr_2, hf⟩ := bnd hf
        refine q_callNI hB hW (As := [.ref a_p0_ones, .int y4_3]) (rest := []) (ws' := [(a_p0, .inr (1, [.ref a_p0_places, .ref a_p0_kinds, .ref a_p0_clapPlaces, .ref a_p0_louds, .ref a_p0_ones, .ref a_p0_others, .ref a_p0_worths, .ref a_p0_hangs, .int p0_persons, .int p0_skies, .int p0_oaths])), (a_p0_ones, .inl (cI, 5, .inl p0_ones)), (a_p0_others, .inl (cI, 5, .inl p0_others))]) (c_X6_at l D cI cZ a_p0_ones 5 p0_ones y4_3 r_2 hr_2) ⟨va_cnB 2 hts gX1_oathsOf_X6_at_n58 rfl rfl rfl (hB.2.2.2.2.2.2.2.1.2 (RX1, 58, yX6_at, RX6) (by decide +kernel)) (hts (.initialized RX6) (by decide +kernel)) (by decide +kernel) ⟨Nat.le_of_ble_eq_true rfl, Nat.le_of_ble_eq_true rfl⟩, hts (.static yX6_at) (by decide +kernel), trivial⟩ [1] rfl rfl rfl rfl rfl hl.1 rfl (Nat.le_of_ble_eq_true rfl) ⟨Nat.le_of_ble_eq_true rfl, Nat.le_of_ble_eq_true rfl⟩ dX1_oathsOf_17 (fun H locs hW => ?_)
        refine lv_iload_n hx hb dX1_oathsOf_20 rfl (lv_at hl 1 rfl) ?_
        refine lv_icmp_eq (tgt := 36) hx hb dX1_oathsOf_21 (by decide) (fun c_3 => ?_) (fun c_3 => ?_)
        · have hf := it_t c_3 hf
          refine lv_iload_n hx hb dX1_oathsOf_36 rfl (lv_at hl 2 rfl) ?_
          refine lv_iconst (v := 1) hx hb dX1_oathsOf_37 (by decide) ?_
          refine lv_iload_n hx hb dX1_oathsOf_38 rfl (lv_at hl 3 rfl) ?_
          refine lv_ishl hx hb dX1_oathsOf_39 ?_
          refine lv_ior hx hb dX1_oathsOf_40 ?_
          obtain ⟨w_4, hw_4, hf⟩ := bnd hf
          refine q_nmI hw_4 ?_
          refine lv_istore_n (lv' := [(2, .int w_4), (0, .ref a_p0), (1, .int v1), (3, .int y4_3)]) hx hb dX1_oathsOf_41 rfl hl (by decide) rfl (fun ls hl => ?_)
          refine lv_iinc (v := (y4_3 + (1 : Int32))) (lv' := [(3, .int (y4_3 + (1 : Int32))), (2, .int w_4), (0, .ref a_p0), (1, .int v1)]) hx hb dX1_oathsOf_42 hl (k := 3) rfl rfl (by decide) rfl (fun ls hl => ?_)
          refine lv_goto (tgt := 4) hx hb dX1_oathsOf_45 (by decide) ?_
          have h9 := o_inl hf ho_4
          exact ih w_4 (y4_3 + (1 : Int32)) _ _ _ h9 hW (lv_sub hl [2, 3, 1, 0] rfl)
        · have hf := it_f c_3 hf
          refine lv_aload_n hx hb dX1_oathsOf_24 rfl (lv_at hl 0 rfl) ?_
          refine q_get hB hW 1 in_X1 0 rfl rfl 5 (by decide) fl_27 (v := .ref a_p0_others) rfl dX1_oathsOf_25 ?_
          refine lv_iload_n hx hb dX1_oathsOf_28 rfl (lv_at hl 3 rfl) ?_
          obtain ⟨r_5, hr_5, hf⟩ := bnd hf
          refine q_callNI hB hW (As := [.ref a_p0_others, .int y4_3]) (rest := []) (ws' := [(a_p0, .inr (1, [.ref a_p0_places, .ref a_p0_kinds, .ref a_p0_clapPlaces, .ref a_p0_louds, .ref a_p0_ones, .ref a_p0_others, .ref a_p0_worths, .ref a_p0_hangs, .int p0_persons, .int p0_skies, .int p0_oaths])), (a_p0_ones, .inl (cI, 5, .inl p0_ones)), (a_p0_others, .inl (cI, 5, .inl p0_others))]) (c_X6_at l D cI cZ a_p0_others 5 p0_others y4_3 r_5 hr_5) ⟨va_cnB 2 hts gX1_oathsOf_X6_at_n58 rfl rfl rfl (hB.2.2.2.2.2.2.2.1.2 (RX1, 58, yX6_at, RX6) (by decide +kernel)) (hts (.initialized RX6) (by decide +kernel)) (by decide +kernel) ⟨Nat.le_of_ble_eq_true rfl, Nat.le_of_ble_eq_true rfl⟩, hts (.static yX6_at) (by decide +kernel), trivial⟩ [2] rfl rfl rfl rfl rfl hl.1 rfl (Nat.le_of_ble_eq_true rfl) ⟨Nat.le_of_ble_eq_true rfl, Nat.le_of_ble_eq_true rfl⟩ dX1_oathsOf_29 (fun H locs hW => ?_)
          refine lv_iload_n hx hb dX1_oathsOf_32 rfl (lv_at hl 1 rfl) ?_
          refine lv_icmp_ne (tgt := 42) hx hb dX1_oathsOf_33 (by decide) (fun c_6 => ?_) (fun c_6 => ?_)
          · have hf := it_f c_6 hf
            refine lv_iinc (v := (y4_3 + (1 : Int32))) (lv' := [(3, .int (y4_3 + (1 : Int32))), (0, .ref a_p0), (1, .int v1), (2, .int y4_2)]) hx hb dX1_oathsOf_42 hl (k := 3) rfl rfl (by decide) rfl (fun ls hl => ?_)
            refine lv_goto (tgt := 4) hx hb dX1_oathsOf_45 (by decide) ?_
            have h9 := o_inl hf ho_4
            exact ih y4_2 (y4_3 + (1 : Int32)) _ _ _ h9 hW (lv_sub hl [1, 2, 3, 0] rfl)
          · have hf := it_t c_6 hf
            refine lv_iload_n hx hb dX1_oathsOf_36 rfl (lv_at hl 2 rfl) ?_
            refine lv_iconst (v := 1) hx hb dX1_oathsOf_37 (by decide) ?_
            refine lv_iload_n hx hb dX1_oathsOf_38 rfl (lv_at hl 3 rfl) ?_
            refine lv_ishl hx hb dX1_oathsOf_39 ?_
            refine lv_ior hx hb dX1_oathsOf_40 ?_
            obtain ⟨w_7, hw_7, hf⟩ := bnd hf
            refine q_nmI hw_7 ?_
            refine lv_istore_n (lv' := [(2, .int w_7), (0, .ref a_p0), (1, .int v1), (3, .int y4_3)]) hx hb dX1_oathsOf_41 rfl hl (by decide) rfl (fun ls hl => ?_)
            refine lv_iinc (v := (y4_3 + (1 : Int32))) (lv' := [(3, .int (y4_3 + (1 : Int32))), (2, .int w_7), (0, .ref a_p0), (1, .int v1)]) hx hb dX1_oathsOf_42 hl (k := 3) rfl rfl (by decide) rfl (fun ls hl => ?_)
            refine lv_goto (tgt := 4) hx hb dX1_oathsOf_45 (by decide) ?_
            have h9 := o_inl hf ho_4
            exact ih w_7 (y4_3 + (1 : Int32)) _ _ _ h9 hW (lv_sub hl [2, 3, 1, 0] rfl)
  exact L_4 FU (0 : Int32) (0 : Int32) _ _ _ hl_4 hW (lv_sub hl [2, 3, 1, 0] rfl)
def f_J9_floorMod_7cf53 (v0 : Int32) (v1 : Int32) : Option (Int32) := (rmI v0 v1).bind fun r_1 => if (0 : Int32) ≤ (v0 ^^^ v1) then some r_1 else if r_1 = (0 : Int32) then some r_1 else some (r_1 + v1)
set_option maxHeartbeats 4000000 in
set_option maxRecDepth 100000 in
theorem c_J9_floorMod_7cf53 (l : Launch) (D : va_G) (cI cZ : ClassId) (v0 : Int32) (v1 : Int32) (q : Int32) (hf : f_J9_floorMod_7cf53 v0 v1 = some q) : CtI l D cI cZ yJ9_floorMod_7cf53 wsJ9_floorMod_7cf53 0 0 [.int v0, .int v1] [] (fun q => []) (fun q => q) q := by
  refine CtI.of (cc := cJ9_floorMod_7cf53) (maxL := 3) (by decide +kernel) rfl (Nat.le_of_ble_eq_true rfl) ?_
  intro p e s m args below meth c A Q H ls hB hE hW hl
  have hx := hB.1
  have hb := hB.2.1
  have hml := hB.2.2.2.1
  have hown : s.vm.findClass RJ9 = some m.cls := hB.2.2.2.2.1
  have hts := hB.2.2.2.2.2.1
  have hK := hB.2.2.2.2.2.2.2.1.1
  have hl : lv_has ls 3 [(0, .int v0), (1, .int v1)] := hl
  unfold f_J9_floorMod_7cf53 at hf
  refine lv_iload_n hx hb dJ9_floorMod_7cf53_0 rfl (lv_at hl 0 rfl) ?_
  refine lv_iload_n hx hb dJ9_floorMod_7cf53_1 rfl (lv_at hl 1 rfl) ?_
  obtain ⟨r_1, hr_1, hf⟩ := bnd hf
  refine q_irem hB hr_1 dJ9_floorMod_7cf53_2 ?_
  refine lv_istore_n (lv' := [(2, .int r_1), (0, .int v0), (1, .int v1)]) hx hb dJ9_floorMod_7cf53_3 rfl hl (by decide) rfl (fun ls hl => ?_)
  refine lv_iload_n hx hb dJ9_floorMod_7cf53_4 rfl (lv_at hl 1 rfl) ?_
  refine lv_iload_n hx hb dJ9_floorMod_7cf53_5 rfl (lv_at hl 2 rfl) ?_
  refine lv_ixor hx hb dJ9_floorMod_7cf53_6 ?_
  refine lv_if_ge (tgt := 18) hx hb dJ9_floorMod_7cf53_7 (by decide) (fun c_2 => ?_) (fun c_2 => ?_)
  · have hf := it_t c_2 hf
    refine lv_iload_n hx hb dJ9_floorMod_7cf53_18 rfl (lv_at hl 0 rfl) ?_
    exact hE _ _ _ _ _ r_1 (sm hf) hW rfl dJ9_floorMod_7cf53_19
  · have hf := it_f c_2 hf
    refine lv_iload_n hx hb dJ9_floorMod_7cf53_10 rfl (lv_at hl 0 rfl) ?_
    refine lv_if_eq (tgt := 18) hx hb dJ9_floorMod_7cf53_11 (by decide) (fun c_3 => ?_) (fun c_3 => ?_)
    · have hf := it_t c_3 hf
      refine lv_iload_n hx hb dJ9_floorMod_7cf53_18 rfl (lv_at hl 0 rfl) ?_
      exact hE _ _ _ _ _ r_1 (sm hf) hW rfl dJ9_floorMod_7cf53_19
    · have hf := it_f c_3 hf
      refine lv_iload_n hx hb dJ9_floorMod_7cf53_14 rfl (lv_at hl 0 rfl) ?_
      refine lv_iload_n hx hb dJ9_floorMod_7cf53_15 rfl (lv_at hl 2 rfl) ?_
      refine lv_iadd hx hb dJ9_floorMod_7cf53_16 ?_
      exact hE _ _ _ _ _ (r_1 + v1) (sm hf) hW rfl dJ9_floorMod_7cf53_17
def f_X1_skyOn (v1 : Int32) (p0_skies : Int32) : Option (Int32) := if p0_skies ≤ (0 : Int32) then some (-9 : Int32) else (f_J9_floorMod_7cf53 v1 (if (1 : Int32) < p0_skies then p0_skies else (1 : Int32))).bind fun r_2 => some r_2
set_option maxHeartbeats 4000000 in
set_option maxRecDepth 100000 in
theorem c_X1_skyOn (l : Launch) (D : va_G) (cI cZ : ClassId) (a_p0 a_p0_places a_p0_kinds a_p0_clapPlaces a_p0_louds a_p0_ones a_p0_others a_p0_worths a_p0_hangs : Nat) (p0_persons : Int32) (p0_skies : Int32) (p0_oaths : Int32) (v1 : Int32) (q : Int32) (hf : f_X1_skyOn v1 p0_skies = some q) : CtI l D cI cZ yX1_skyOn wsX1_skyOn 1 22 [.ref a_p0, .int v1] [(a_p0, .inr (1, [.ref a_p0_places, .ref a_p0_kinds, .ref a_p0_clapPlaces, .ref a_p0_louds, .ref a_p0_ones, .ref a_p0_others, .ref a_p0_worths, .ref a_p0_hangs, .int p0_persons, .int p0_skies, .int p0_oaths]))] (fun q => [(a_p0, .inr (1, [.ref a_p0_places, .ref a_p0_kinds, .ref a_p0_clapPlaces, .ref a_p0_louds, .ref a_p0_ones, .ref a_p0_others, .ref a_p0_worths, .ref a_p0_hangs, .int p0_persons, .int p0_skies, .int p0_oaths]))]) (fun q => q) q := by
  refine CtI.of (cc := cX1_skyOn) (maxL := 2) (plainFor_of_name (by decide)) rfl (Nat.le_of_ble_eq_true rfl) ?_
  intro p e s m args below meth c A Q H ls hB hE hW hl
  have hx := hB.1
  have hb := hB.2.1
  have hml := hB.2.2.2.1
  have hown : s.vm.findClass RX1 = some m.cls := hB.2.2.2.2.1
  have hts := hB.2.2.2.2.2.1
  have hK := hB.2.2.2.2.2.2.2.1.1
  have hl : lv_has ls 2 [(0, .ref a_p0), (1, .int v1)] := hl
  have in_X1 : ∀ w ∈ wsX10, w ∈ wsX1_skyOn := fun w h => List.mem_cons_of_mem _ (List.mem_append_right _ h)
  have fl_40 : (Cond.fieldLink RX1 40 (TX1 9).1 (TX1 9).2.1 (TX1 9).2.2.1).before args s = true := hts (.fieldLink RX1 40 "ClapOaths$County" "skies" "I") (by decide +kernel)
  unfold f_X1_skyOn at hf
  refine lv_aload_n hx hb dX1_skyOn_0 rfl (lv_at hl 0 rfl) ?_
  refine q_get hB hW 1 in_X1 0 rfl rfl 9 (by decide) fl_40 (v := .int p0_skies) rfl dX1_skyOn_1 ?_
  refine lv_if_le (tgt := 22) hx hb dX1_skyOn_4 (by decide) (fun c_1 => ?_) (fun c_1 => ?_)
  · have hf := it_t c_1 hf
    refine lv_bipush (v := -9) hx hb dX1_skyOn_22 (by decide) ?_
    exact hE _ _ _ _ _ (-9 : Int32) (sm hf) hW rfl dX1_skyOn_24
  · have hf := it_f c_1 hf
    refine lv_iload_n hx hb dX1_skyOn_7 rfl (lv_at hl 1 rfl) ?_
    refine lv_iconst (v := 1) hx hb dX1_skyOn_8 (by decide) ?_
    refine lv_aload_n hx hb dX1_skyOn_9 rfl (lv_at hl 0 rfl) ?_
    refine q_get hB hW 1 in_X1 0 rfl rfl 9 (by decide) fl_40 (v := .int p0_skies) rfl dX1_skyOn_10 ?_
    refine va_mmax hx hb (hml.trans hl.1.symm) hown (hts (.methodLink RX1 66 Lib.Math.max.name) (by decide +kernel)) (hts (.static Lib.Math.max.name) (by decide +kernel)) (hts (.initialized "java/lang/Math") (by decide +kernel)) (hts (.code Lib.Math.max.name Lib.Math.max.code 2 (some .int)) (by decide +kernel)) (Nat.le_of_ble_eq_true rfl) (Nat.le_of_ble_eq_true rfl) (Nat.le_of_ble_eq_true rfl) (Nat.le_of_ble_eq_true rfl) dX1_skyOn_13 ?_
    obtain ⟨r_2, hr_2, hf⟩ := bnd hf
    refine q_callSI hB hW (As := [.int v1, .int (if (1 : Int32) < p0_skies then p0_skies else (1 : Int32))]) (rest := []) (ws' := [(a_p0, .inr (1, [.ref a_p0_places, .ref a_p0_kinds, .ref a_p0_clapPlaces, .ref a_p0_louds, .ref a_p0_ones, .ref a_p0_others, .ref a_p0_worths, .ref a_p0_hangs, .int p0_persons, .int p0_skies, .int p0_oaths]))]) (c_J9_floorMod_7cf53 l D cI cZ v1 (if (1 : Int32) < p0_skies then p0_skies else (1 : Int32)) r_2 hr_2) (va_cwS 2 hts gX1_skyOn_J9_floorMod_7cf53 rfl rfl rfl (by decide +kernel) ⟨Nat.le_of_ble_eq_true rfl, Nat.le_of_ble_eq_true rfl⟩) [] rfl rfl rfl rfl rfl hl.1 rfl (Nat.le_of_ble_eq_true rfl) ⟨Nat.le_of_ble_eq_true rfl, Nat.le_of_ble_eq_true rfl⟩ dX1_skyOn_16 (fun H locs hW => ?_)
    refine lv_goto (tgt := 24) hx hb dX1_skyOn_19 (by decide) ?_
    exact hE _ _ _ _ _ r_2 (sm hf) hW rfl dX1_skyOn_24
def f_X6_reaches (v0 : Int32) (v1 : Int32) (v2 : Int32) (v3 : Int32) : Option (Int32) := if v3 = (0 : Int32) then if v1 < (v0 - v2) then some (0 : Int32) else if v1 < (v2 - v0) then some (0 : Int32) else some (1 : Int32) else (some (v1 / (2 : Int32))).bind fun w_4 => if w_4 < (v0 - v2) then some (0 : Int32) else if w_4 < (v2 - v0) then some (0 : Int32) else some (1 : Int32)
set_option maxHeartbeats 4000000 in
set_option maxRecDepth 100000 in
theorem c_X6_reaches (l : Launch) (D : va_G) (cI cZ : ClassId) (v0 : Int32) (v1 : Int32) (v2 : Int32) (v3 : Int32) (q : Int32) (hf : f_X6_reaches v0 v1 v2 v3 = some q) : CtZ l D cI cZ yX6_reaches wsX6_reaches 0 0 [.int v0, .int v1, .int v2, .int v3] [] (fun q => []) (fun q => q) q := by
  refine CtZ.of (cc := cX6_reaches) (maxL := 5) (plainFor_of_name (by decide)) rfl (Nat.le_of_ble_eq_true rfl) ?_
  intro p e s m args below meth c A Q H ls hB hE hW hl
  have hx := hB.1
  have hb := hB.2.1
  have hml := hB.2.2.2.1
  have hown : s.vm.findClass RX6 = some m.cls := hB.2.2.2.2.1
  have hts := hB.2.2.2.2.2.1
  have hK := hB.2.2.2.2.2.2.2.1.1
  have hl : lv_has ls 5 [(0, .int v0), (1, .int v1), (2, .int v2), (3, .int v3)] := hl
  unfold f_X6_reaches at hf
  refine lv_iload_n hx hb dX6_reaches_0 rfl (lv_at hl 3 rfl) ?_
  refine lv_if_eq (tgt := 10) hx hb dX6_reaches_1 (by decide) (fun c_1 => ?_) (fun c_1 => ?_)
  · have hf := it_t c_1 hf
    refine lv_iload_n hx hb dX6_reaches_10 rfl (lv_at hl 1 rfl) ?_
    refine lv_istore (lv' := [(4, .int v1), (0, .int v0), (1, .int v1), (2, .int v2), (3, .int v3)]) hx hb dX6_reaches_11 hl (by decide) rfl (fun ls hl => ?_)
    refine lv_iload_n hx hb dX6_reaches_13 rfl (lv_at hl 1 rfl) ?_
    refine lv_iload_n hx hb dX6_reaches_14 rfl (lv_at hl 3 rfl) ?_
    refine lv_isub hx hb dX6_reaches_15 ?_
    refine lv_iload hx hb dX6_reaches_16 (lv_at hl 0 rfl) ?_
    refine lv_icmp_gt (tgt := 33) hx hb dX6_reaches_18 (by decide) (fun c_2 => ?_) (fun c_2 => ?_)
    · have hf := it_t c_2 hf
      refine lv_iconst (v := 0) hx hb dX6_reaches_33 (by decide) ?_
      exact hE _ _ _ _ _ (0 : Int32) (sm hf) hW rfl nz_0 dX6_reaches_34
    · have hf := it_f c_2 hf
      refine lv_iload_n hx hb dX6_reaches_21 rfl (lv_at hl 3 rfl) ?_
      refine lv_iload_n hx hb dX6_reaches_22 rfl (lv_at hl 1 rfl) ?_
      refine lv_isub hx hb dX6_reaches_23 ?_
      refine lv_iload hx hb dX6_reaches_24 (lv_at hl 0 rfl) ?_
      refine lv_icmp_gt (tgt := 33) hx hb dX6_reaches_26 (by decide) (fun c_3 => ?_) (fun c_3 => ?_)
      · have hf := it_t c_3 hf
        refine lv_iconst (v := 0) hx hb dX6_reaches_33 (by decide) ?_
        exact hE _ _ _ _ _ (0 : Int32) (sm hf) hW rfl nz_0 dX6_reaches_34
      · have hf := it_f c_3 hf
        refine lv_iconst (v := 1) hx hb dX6_reaches_29 (by decide) ?_
        refine lv_goto (tgt := 34) hx hb dX6_reaches_30 (by decide) ?_
        exact hE _ _ _ _ _ (1 : Int32) (sm hf) hW rfl nz_1 dX6_reaches_34
  · have hf := it_f c_1 hf
    refine lv_iload_n hx hb dX6_reaches_4 rfl (lv_at hl 1 rfl) ?_
    refine lv_iconst (v := 2) hx hb dX6_reaches_5 (by decide) ?_
    refine lv_idiv hx hb dX6_reaches_6 (by decide) ?_
    refine lv_goto (tgt := 11) hx hb dX6_reaches_7 (by decide) ?_
    obtain ⟨w_4, hw_4, hf⟩ := bnd hf
    refine q_nmI hw_4 ?_
    refine lv_istore (lv' := [(4, .int w_4), (0, .int v0), (1, .int v1), (2, .int v2), (3, .int v3)]) hx hb dX6_reaches_11 hl (by decide) rfl (fun ls hl => ?_)
    refine lv_iload_n hx hb dX6_reaches_13 rfl (lv_at hl 1 rfl) ?_
    refine lv_iload_n hx hb dX6_reaches_14 rfl (lv_at hl 3 rfl) ?_
    refine lv_isub hx hb dX6_reaches_15 ?_
    refine lv_iload hx hb dX6_reaches_16 (lv_at hl 0 rfl) ?_
    refine lv_icmp_gt (tgt := 33) hx hb dX6_reaches_18 (by decide) (fun c_5 => ?_) (fun c_5 => ?_)
    · have hf := it_t c_5 hf
      refine lv_iconst (v := 0) hx hb dX6_reaches_33 (by decide) ?_
      exact hE _ _ _ _ _ (0 : Int32) (sm hf) hW rfl nz_0 dX6_reaches_34
    · have hf := it_f c_5 hf
      refine lv_iload_n hx hb dX6_reaches_21 rfl (lv_at hl 3 rfl) ?_
      refine lv_iload_n hx hb dX6_reaches_22 rfl (lv_at hl 1 rfl) ?_
      refine lv_isub hx hb dX6_reaches_23 ?_
      refine lv_iload hx hb dX6_reaches_24 (lv_at hl 0 rfl) ?_
      refine lv_icmp_gt (tgt := 33) hx hb dX6_reaches_26 (by decide) (fun c_6 => ?_) (fun c_6 => ?_)
      · have hf := it_t c_6 hf
        refine lv_iconst (v := 0) hx hb dX6_reaches_33 (by decide) ?_
        exact hE _ _ _ _ _ (0 : Int32) (sm hf) hW rfl nz_0 dX6_reaches_34
      · have hf := it_f c_6 hf
        refine lv_iconst (v := 1) hx hb dX6_reaches_29 (by decide) ?_
        refine lv_goto (tgt := 34) hx hb dX6_reaches_30 (by decide) ?_
        exact hE _ _ _ _ _ (1 : Int32) (sm hf) hW rfl nz_1 dX6_reaches_34
