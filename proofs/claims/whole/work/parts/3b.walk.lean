def f_X7_readPart (v1 : Int32) (p0_readPersons : Int32) (p0_readSkies : Int32) (p0_readOaths : Int32) (p0_length : Int32) (p0_at : Int32) (p0_faultAt : Int32) (p0_readPerson : Nat → Int32) (p0_readSky : Nat → Int32) (p0_readOath : Nat → Int32) (p0_text : Nat → Int32) : Option (Int32 × Int32 × Int32 × Int32 × Int32 × (Nat → Int32) × (Nat → Int32) × (Nat → Int32)) := if v1 = (80 : Int32) then if (5 : Int32) ≤ p0_readPersons then if v1 = (81 : Int32) then if (5 : Int32) ≤ p0_readSkies then if v1 = (67 : Int32) then if v1 = (79 : Int32) then if (5 : Int32) ≤ p0_readOaths then some (p0_readPersons, p0_readSkies, p0_readOaths, p0_at, p0_at, p0_readPerson, p0_readSky, p0_readOath) else if p0_readPersons ≤ (1 : Int32) then some (p0_readPersons, p0_readSkies, p0_readOaths, p0_at, p0_at, p0_readPerson, p0_readSky, p0_readOath) else (some (p0_at + (1 : Int32))).bind fun w_66 => (f_X7_readSworn p0_readPersons p0_readOaths p0_length w_66 p0_faultAt p0_readOath p0_text).bind fun r_67 => some (p0_readPersons, p0_readSkies, r_67.1, r_67.2.1, r_67.2.2.1, p0_readPerson, p0_readSky, r_67.2.2.2) else some (p0_readPersons, p0_readSkies, p0_readOaths, p0_at, p0_at, p0_readPerson, p0_readSky, p0_readOath) else if v1 = (79 : Int32) then if (5 : Int32) ≤ p0_readOaths then some (p0_readPersons, p0_readSkies, p0_readOaths, p0_at, p0_at, p0_readPerson, p0_readSky, p0_readOath) else if p0_readPersons ≤ (1 : Int32) then some (p0_readPersons, p0_readSkies, p0_readOaths, p0_at, p0_at, p0_readPerson, p0_readSky, p0_readOath) else (some (p0_at + (1 : Int32))).bind fun w_61 => (f_X7_readSworn p0_readPersons p0_readOaths p0_length w_61 p0_faultAt p0_readOath p0_text).bind fun r_62 => some (p0_readPersons, p0_readSkies, r_62.1, r_62.2.1, r_62.2.2.1, p0_readPerson, p0_readSky, r_62.2.2.2) else some (p0_readPersons, p0_readSkies, p0_readOaths, p0_at, p0_at, p0_readPerson, p0_readSky, p0_readOath) else (some (p0_at + (1 : Int32))).bind fun w_68 => (ast p0_readSky 10 ((2 : Int32) * p0_readSkies) (-9 : Int32)).bind fun r_69 => (some (p0_readSkies + (1 : Int32))).bind fun w_70 => some (p0_readPersons, w_70, p0_readOaths, w_68, p0_faultAt, p0_readPerson, r_69, p0_readOath) else if v1 = (67 : Int32) then if (5 : Int32) ≤ p0_readSkies then if v1 = (79 : Int32) then if (5 : Int32) ≤ p0_readOaths then some (p0_readPersons, p0_readSkies, p0_readOaths, p0_at, p0_at, p0_readPerson, p0_readSky, p0_readOath) else if p0_readPersons ≤ (1 : Int32) then some (p0_readPersons, p0_readSkies, p0_readOaths, p0_at, p0_at, p0_readPerson, p0_readSky, p0_readOath) else (some (p0_at + (1 : Int32))).bind fun w_48 => (f_X7_readSworn p0_readPersons p0_readOaths p0_length w_48 p0_faultAt p0_readOath p0_text).bind fun r_49 => some (p0_readPersons, p0_readSkies, r_49.1, r_49.2.1, r_49.2.2.1, p0_readPerson, p0_readSky, r_49.2.2.2) else some (p0_readPersons, p0_readSkies, p0_readOaths, p0_at, p0_at, p0_readPerson, p0_readSky, p0_readOath) else (some (p0_at + (1 : Int32))).bind fun w_50 => (f_X7_figureOf (9 : Int32) (-9 : Int32) p0_length w_50 p0_faultAt p0_text).bind fun r_51 => (ast p0_readSky 10 ((2 : Int32) * p0_readSkies) r_51.1).bind fun r_52 => (f_X7_figureOf (9 : Int32) (-9 : Int32) p0_length r_51.2.1 r_51.2.2 p0_text).bind fun r_53 => (ast r_52 10 (((2 : Int32) * p0_readSkies) + (1 : Int32)) r_53.1).bind fun r_54 => (some (p0_readSkies + (1 : Int32))).bind fun w_55 => some (p0_readPersons, w_55, p0_readOaths, r_53.2.1, r_53.2.2, p0_readPerson, r_54, p0_readOath) else if v1 = (79 : Int32) then if (5 : Int32) ≤ p0_readOaths then some (p0_readPersons, p0_readSkies, p0_readOaths, p0_at, p0_at, p0_readPerson, p0_readSky, p0_readOath) else if p0_readPersons ≤ (1 : Int32) then some (p0_readPersons, p0_readSkies, p0_readOaths, p0_at, p0_at, p0_readPerson, p0_readSky, p0_readOath) else (some (p0_at + (1 : Int32))).bind fun w_42 => (f_X7_readSworn p0_readPersons p0_readOaths p0_length w_42 p0_faultAt p0_readOath p0_text).bind fun r_43 => some (p0_readPersons, p0_readSkies, r_43.1, r_43.2.1, r_43.2.2.1, p0_readPerson, p0_readSky, r_43.2.2.2) else some (p0_readPersons, p0_readSkies, p0_readOaths, p0_at, p0_at, p0_readPerson, p0_readSky, p0_readOath) else (some (p0_at + (1 : Int32))).bind fun w_71 => (f_X7_figureOf (9 : Int32) (-9 : Int32) p0_length w_71 p0_faultAt p0_text).bind fun r_72 => (ast p0_readPerson 10 ((2 : Int32) * p0_readPersons) r_72.1).bind fun r_73 => (f_X7_figureOf (3 : Int32) (-9 : Int32) p0_length r_72.2.1 r_72.2.2 p0_text).bind fun r_74 => (ast r_73 10 (((2 : Int32) * p0_readPersons) + (1 : Int32)) r_74.1).bind fun r_75 => (some (p0_readPersons + (1 : Int32))).bind fun w_76 => some (w_76, p0_readSkies, p0_readOaths, r_74.2.1, r_74.2.2, r_75, p0_readSky, p0_readOath) else if v1 = (81 : Int32) then if (5 : Int32) ≤ p0_readSkies then if v1 = (67 : Int32) then if v1 = (79 : Int32) then if (5 : Int32) ≤ p0_readOaths then some (p0_readPersons, p0_readSkies, p0_readOaths, p0_at, p0_at, p0_readPerson, p0_readSky, p0_readOath) else if p0_readPersons ≤ (1 : Int32) then some (p0_readPersons, p0_readSkies, p0_readOaths, p0_at, p0_at, p0_readPerson, p0_readSky, p0_readOath) else (some (p0_at + (1 : Int32))).bind fun w_31 => (f_X7_readSworn p0_readPersons p0_readOaths p0_length w_31 p0_faultAt p0_readOath p0_text).bind fun r_32 => some (p0_readPersons, p0_readSkies, r_32.1, r_32.2.1, r_32.2.2.1, p0_readPerson, p0_readSky, r_32.2.2.2) else some (p0_readPersons, p0_readSkies, p0_readOaths, p0_at, p0_at, p0_readPerson, p0_readSky, p0_readOath) else if v1 = (79 : Int32) then if (5 : Int32) ≤ p0_readOaths then some (p0_readPersons, p0_readSkies, p0_readOaths, p0_at, p0_at, p0_readPerson, p0_readSky, p0_readOath) else if p0_readPersons ≤ (1 : Int32) then some (p0_readPersons, p0_readSkies, p0_readOaths, p0_at, p0_at, p0_readPerson, p0_readSky, p0_readOath) else (some (p0_at + (1 : Int32))).bind fun w_26 => (f_X7_readSworn p0_readPersons p0_readOaths p0_length w_26 p0_faultAt p0_readOath p0_text).bind fun r_27 => some (p0_readPersons, p0_readSkies, r_27.1, r_27.2.1, r_27.2.2.1, p0_readPerson, p0_readSky, r_27.2.2.2) else some (p0_readPersons, p0_readSkies, p0_readOaths, p0_at, p0_at, p0_readPerson, p0_readSky, p0_readOath) else (some (p0_at + (1 : Int32))).bind fun w_33 => (ast p0_readSky 10 ((2 : Int32) * p0_readSkies) (-9 : Int32)).bind fun r_34 => (some (p0_readSkies + (1 : Int32))).bind fun w_35 => some (p0_readPersons, w_35, p0_readOaths, w_33, p0_faultAt, p0_readPerson, r_34, p0_readOath) else if v1 = (67 : Int32) then if (5 : Int32) ≤ p0_readSkies then if v1 = (79 : Int32) then if (5 : Int32) ≤ p0_readOaths then some (p0_readPersons, p0_readSkies, p0_readOaths, p0_at, p0_at, p0_readPerson, p0_readSky, p0_readOath) else if p0_readPersons ≤ (1 : Int32) then some (p0_readPersons, p0_readSkies, p0_readOaths, p0_at, p0_at, p0_readPerson, p0_readSky, p0_readOath) else (some (p0_at + (1 : Int32))).bind fun w_13 => (f_X7_readSworn p0_readPersons p0_readOaths p0_length w_13 p0_faultAt p0_readOath p0_text).bind fun r_14 => some (p0_readPersons, p0_readSkies, r_14.1, r_14.2.1, r_14.2.2.1, p0_readPerson, p0_readSky, r_14.2.2.2) else some (p0_readPersons, p0_readSkies, p0_readOaths, p0_at, p0_at, p0_readPerson, p0_readSky, p0_readOath) else (some (p0_at + (1 : Int32))).bind fun w_15 => (f_X7_figureOf (9 : Int32) (-9 : Int32) p0_length w_15 p0_faultAt p0_text).bind fun r_16 => (ast p0_readSky 10 ((2 : Int32) * p0_readSkies) r_16.1).bind fun r_17 => (f_X7_figureOf (9 : Int32) (-9 : Int32) p0_length r_16.2.1 r_16.2.2 p0_text).bind fun r_18 => (ast r_17 10 (((2 : Int32) * p0_readSkies) + (1 : Int32)) r_18.1).bind fun r_19 => (some (p0_readSkies + (1 : Int32))).bind fun w_20 => some (p0_readPersons, w_20, p0_readOaths, r_18.2.1, r_18.2.2, p0_readPerson, r_19, p0_readOath) else if v1 = (79 : Int32) then if (5 : Int32) ≤ p0_readOaths then some (p0_readPersons, p0_readSkies, p0_readOaths, p0_at, p0_at, p0_readPerson, p0_readSky, p0_readOath) else if p0_readPersons ≤ (1 : Int32) then some (p0_readPersons, p0_readSkies, p0_readOaths, p0_at, p0_at, p0_readPerson, p0_readSky, p0_readOath) else (some (p0_at + (1 : Int32))).bind fun w_7 => (f_X7_readSworn p0_readPersons p0_readOaths p0_length w_7 p0_faultAt p0_readOath p0_text).bind fun r_8 => some (p0_readPersons, p0_readSkies, r_8.1, r_8.2.1, r_8.2.2.1, p0_readPerson, p0_readSky, r_8.2.2.2) else some (p0_readPersons, p0_readSkies, p0_readOaths, p0_at, p0_at, p0_readPerson, p0_readSky, p0_readOath)
set_option maxHeartbeats 4000000 in
set_option maxRecDepth 100000 in
theorem c_X7_readPart (l : Launch) (D : va_G) (cI cZ : ClassId) (a_p0 a_p0_kind a_p0_skyAt a_p0_skyLoud a_p0_one a_p0_other a_p0_worth a_p0_hangs a_p0_now a_p0_readPerson a_p0_readSky a_p0_readOath a_p0_text a_p0_row a_p0_toldAt a_p0_toldWool a_p0_toldHeard a_p0_isKept a_p0_kept : Nat) (p0_persons : Int32) (p0_skies : Int32) (p0_oaths : Int32) (p0_readPersons : Int32) (p0_readSkies : Int32) (p0_readOaths : Int32) (p0_length : Int32) (p0_at : Int32) (p0_faultAt : Int32) (p0_acts : Int32) (p0_next : Int32) (p0_told : Int32) (p0_seed : Int64) (p0_readPerson : Nat → Int32) (p0_readSky : Nat → Int32) (p0_readOath : Nat → Int32) (p0_text : Nat → Int32) (v1 : Int32) (q : Int32 × Int32 × Int32 × Int32 × Int32 × (Nat → Int32) × (Nat → Int32) × (Nat → Int32)) (hf : f_X7_readPart v1 p0_readPersons p0_readSkies p0_readOaths p0_length p0_at p0_faultAt p0_readPerson p0_readSky p0_readOath p0_text = some q) : CtV l D cI cZ yX7_readPart wsX7_readPart 3 70 [.ref a_p0, .int v1] [(a_p0, .inr (7, [.int p0_persons, .int p0_skies, .int p0_oaths, .ref a_p0_kind, .ref a_p0_skyAt, .ref a_p0_skyLoud, .ref a_p0_one, .ref a_p0_other, .ref a_p0_worth, .ref a_p0_hangs, .ref a_p0_now, .ref a_p0_readPerson, .ref a_p0_readSky, .ref a_p0_readOath, .int p0_readPersons, .int p0_readSkies, .int p0_readOaths, .ref a_p0_text, .int p0_length, .int p0_at, .int p0_faultAt, .int p0_acts, .int p0_next, .ref a_p0_row, .int p0_told, .ref a_p0_toldAt, .ref a_p0_toldWool, .ref a_p0_toldHeard, .long p0_seed, .ref a_p0_isKept, .ref a_p0_kept])), (a_p0_readPerson, .inl (cI, 10, .inl p0_readPerson)), (a_p0_readSky, .inl (cI, 10, .inl p0_readSky)), (a_p0_readOath, .inl (cI, 20, .inl p0_readOath)), (a_p0_text, .inl (cI, 60, .inl p0_text))] (fun q => [(a_p0, .inr (7, [.int p0_persons, .int p0_skies, .int p0_oaths, .ref a_p0_kind, .ref a_p0_skyAt, .ref a_p0_skyLoud, .ref a_p0_one, .ref a_p0_other, .ref a_p0_worth, .ref a_p0_hangs, .ref a_p0_now, .ref a_p0_readPerson, .ref a_p0_readSky, .ref a_p0_readOath, .int q.1, .int q.2.1, .int q.2.2.1, .ref a_p0_text, .int p0_length, .int q.2.2.2.1, .int q.2.2.2.2.1, .int p0_acts, .int p0_next, .ref a_p0_row, .int p0_told, .ref a_p0_toldAt, .ref a_p0_toldWool, .ref a_p0_toldHeard, .long p0_seed, .ref a_p0_isKept, .ref a_p0_kept])), (a_p0_readPerson, .inl (cI, 10, .inl q.2.2.2.2.2.1)), (a_p0_readSky, .inl (cI, 10, .inl q.2.2.2.2.2.2.1)), (a_p0_readOath, .inl (cI, 20, .inl q.2.2.2.2.2.2.2)), (a_p0_text, .inl (cI, 60, .inl p0_text))]) q := by
  refine CtV.of (cc := cX7_readPart) (maxL := 2) (plainFor_of_name (by decide)) rfl (Nat.le_of_ble_eq_true rfl) ?_
  intro p e s m args below meth c A Q H ls hB hE hW hl
  have hx := hB.1
  have hb := hB.2.1
  have hml := hB.2.2.2.1
  have hown : s.vm.findClass RX7 = some m.cls := hB.2.2.2.2.1
  have hts := hB.2.2.2.2.2.1
  have hK := hB.2.2.2.2.2.2.2.1.1
  have hl : lv_has ls 2 [(0, .ref a_p0), (1, .int v1)] := hl
  have in_X7 : ∀ w ∈ wsX70, w ∈ wsX7_readPart := fun w h => List.mem_cons_of_mem _ (List.mem_append_right _ h)
  have fl_34 : (Cond.fieldLink RX7 34 (TX7 11).1 (TX7 11).2.1 (TX7 11).2.2.1).before args s = true := hts (.fieldLink RX7 34 "ClapOathsModel" "readPerson" "[I") (by decide +kernel)
  have fl_37 : (Cond.fieldLink RX7 37 (TX7 12).1 (TX7 12).2.1 (TX7 12).2.2.1).before args s = true := hts (.fieldLink RX7 37 "ClapOathsModel" "readSky" "[I") (by decide +kernel)
  have fl_75 : (Cond.fieldLink RX7 75 (TX7 20).1 (TX7 20).2.1 (TX7 20).2.2.1).before args s = true := hts (.fieldLink RX7 75 "ClapOathsModel" "faultAt" "I") (by decide +kernel)
  have fl_78 : (Cond.fieldLink RX7 78 (TX7 19).1 (TX7 19).2.1 (TX7 19).2.2.1).before args s = true := hts (.fieldLink RX7 78 "ClapOathsModel" "at" "I") (by decide +kernel)
  have fl_81 : (Cond.fieldLink RX7 81 (TX7 14).1 (TX7 14).2.1 (TX7 14).2.2.1).before args s = true := hts (.fieldLink RX7 81 "ClapOathsModel" "readPersons" "I") (by decide +kernel)
  have fl_84 : (Cond.fieldLink RX7 84 (TX7 15).1 (TX7 15).2.1 (TX7 15).2.2.1).before args s = true := hts (.fieldLink RX7 84 "ClapOathsModel" "readSkies" "I") (by decide +kernel)
  have fl_87 : (Cond.fieldLink RX7 87 (TX7 16).1 (TX7 16).2.1 (TX7 16).2.2.1).before args s = true := hts (.fieldLink RX7 87 "ClapOathsModel" "readOaths" "I") (by decide +kernel)
  unfold f_X7_readPart at hf
  refine lv_iload_n hx hb dX7_readPart_0 rfl (lv_at hl 1 rfl) ?_
  refine lv_bipush (v := 80) hx hb dX7_readPart_1 (by decide) ?_
  refine lv_icmp_ne (tgt := 76) hx hb dX7_readPart_3 (by decide) (fun c_1 => ?_) (fun c_1 => ?_)
  · have hf := it_f c_1 hf
    refine lv_iload_n hx hb dX7_readPart_76 rfl (lv_at hl 1 rfl) ?_
    refine lv_bipush (v := 81) hx hb dX7_readPart_77 (by decide) ?_
    refine lv_icmp_ne (tgt := 126) hx hb dX7_readPart_79 (by decide) (fun c_2 => ?_) (fun c_2 => ?_)
    · have hf := it_f c_2 hf
      refine lv_iload_n hx hb dX7_readPart_126 rfl (lv_at hl 1 rfl) ?_
      refine lv_bipush (v := 67) hx hb dX7_readPart_127 (by decide) ?_
      refine lv_icmp_ne (tgt := 203) hx hb dX7_readPart_129 (by decide) (fun c_3 => ?_) (fun c_3 => ?_)
      · have hf := it_f c_3 hf
        refine lv_iload_n hx hb dX7_readPart_203 rfl (lv_at hl 1 rfl) ?_
        refine lv_bipush (v := 79) hx hb dX7_readPart_204 (by decide) ?_
        refine lv_icmp_ne (tgt := 242) hx hb dX7_readPart_206 (by decide) (fun c_4 => ?_) (fun c_4 => ?_)
        · have hf := it_f c_4 hf
          refine lv_aload_n hx hb dX7_readPart_242 rfl (lv_at hl 0 rfl) ?_
          refine lv_aload_n hx hb dX7_readPart_243 rfl (lv_at hl 0 rfl) ?_
          refine q_get hB hW 7 in_X7 0 rfl rfl 19 (by decide) fl_78 (v := .int p0_at) rfl dX7_readPart_244 ?_
          refine q_put hB hW 7 in_X7 tyX7 tyX7_ok nmX7 0 rfl rfl 20 (by decide) fl_75 rfl (by first | rfl | decide) (by first | rfl | decide) (Nat.le_of_ble_eq_true rfl) (ws' := [(a_p0, .inr (7, [.int p0_persons, .int p0_skies, .int p0_oaths, .ref a_p0_kind, .ref a_p0_skyAt, .ref a_p0_skyLoud, .ref a_p0_one, .ref a_p0_other, .ref a_p0_worth, .ref a_p0_hangs, .ref a_p0_now, .ref a_p0_readPerson, .ref a_p0_readSky, .ref a_p0_readOath, .int p0_readPersons, .int p0_readSkies, .int p0_readOaths, .ref a_p0_text, .int p0_length, .int p0_at, .int p0_at, .int p0_acts, .int p0_next, .ref a_p0_row, .int p0_told, .ref a_p0_toldAt, .ref a_p0_toldWool, .ref a_p0_toldHeard, .long p0_seed, .ref a_p0_isKept, .ref a_p0_kept])), (a_p0_readPerson, .inl (cI, 10, .inl p0_readPerson)), (a_p0_readSky, .inl (cI, 10, .inl p0_readSky)), (a_p0_readOath, .inl (cI, 20, .inl p0_readOath)), (a_p0_text, .inl (cI, 60, .inl p0_text))]) rfl dX7_readPart_247 (fun H locs hW => ?_)
          exact hE _ _ _ _ (p0_readPersons, p0_readSkies, p0_readOaths, p0_at, p0_at, p0_readPerson, p0_readSky, p0_readOath) (sm hf) hW dX7_readPart_250
        · have hf := it_t c_4 hf
          refine lv_aload_n hx hb dX7_readPart_209 rfl (lv_at hl 0 rfl) ?_
          refine q_get hB hW 7 in_X7 0 rfl rfl 16 (by decide) fl_87 (v := .int p0_readOaths) rfl dX7_readPart_210 ?_
          refine lv_iconst (v := 5) hx hb dX7_readPart_213 (by decide) ?_
          refine lv_icmp_ge (tgt := 242) hx hb dX7_readPart_214 (by decide) (fun c_5 => ?_) (fun c_5 => ?_)
          · have hf := it_t c_5 hf
            refine lv_aload_n hx hb dX7_readPart_242 rfl (lv_at hl 0 rfl) ?_
            refine lv_aload_n hx hb dX7_readPart_243 rfl (lv_at hl 0 rfl) ?_
            refine q_get hB hW 7 in_X7 0 rfl rfl 19 (by decide) fl_78 (v := .int p0_at) rfl dX7_readPart_244 ?_
            refine q_put hB hW 7 in_X7 tyX7 tyX7_ok nmX7 0 rfl rfl 20 (by decide) fl_75 rfl (by first | rfl | decide) (by first | rfl | decide) (Nat.le_of_ble_eq_true rfl) (ws' := [(a_p0, .inr (7, [.int p0_persons, .int p0_skies, .int p0_oaths, .ref a_p0_kind, .ref a_p0_skyAt, .ref a_p0_skyLoud, .ref a_p0_one, .ref a_p0_other, .ref a_p0_worth, .ref a_p0_hangs, .ref a_p0_now, .ref a_p0_readPerson, .ref a_p0_readSky, .ref a_p0_readOath, .int p0_readPersons, .int p0_readSkies, .int p0_readOaths, .ref a_p0_text, .int p0_length, .int p0_at, .int p0_at, .int p0_acts, .int p0_next, .ref a_p0_row, .int p0_told, .ref a_p0_toldAt, .ref a_p0_toldWool, .ref a_p0_toldHeard, .long p0_seed, .ref a_p0_isKept, .ref a_p0_kept])), (a_p0_readPerson, .inl (cI, 10, .inl p0_readPerson)), (a_p0_readSky, .inl (cI, 10, .inl p0_readSky)), (a_p0_readOath, .inl (cI, 20, .inl p0_readOath)), (a_p0_text, .inl (cI, 60, .inl p0_text))]) rfl dX7_readPart_247 (fun H locs hW => ?_)
            exact hE _ _ _ _ (p0_readPersons, p0_readSkies, p0_readOaths, p0_at, p0_at, p0_readPerson, p0_readSky, p0_readOath) (sm hf) hW dX7_readPart_250
          · have hf := it_f c_5 hf
            refine lv_aload_n hx hb dX7_readPart_217 rfl (lv_at hl 0 rfl) ?_
            refine q_get hB hW 7 in_X7 0 rfl rfl 14 (by decide) fl_81 (v := .int p0_readPersons) rfl dX7_readPart_218 ?_
            refine lv_iconst (v := 1) hx hb dX7_readPart_221 (by decide) ?_
            refine lv_icmp_le (tgt := 242) hx hb dX7_readPart_222 (by decide) (fun c_6 => ?_) (fun c_6 => ?_)
            · have hf := it_t c_6 hf
              refine lv_aload_n hx hb dX7_readPart_242 rfl (lv_at hl 0 rfl) ?_
              refine lv_aload_n hx hb dX7_readPart_243 rfl (lv_at hl 0 rfl) ?_
              refine q_get hB hW 7 in_X7 0 rfl rfl 19 (by decide) fl_78 (v := .int p0_at) rfl dX7_readPart_244 ?_
              refine q_put hB hW 7 in_X7 tyX7 tyX7_ok nmX7 0 rfl rfl 20 (by decide) fl_75 rfl (by first | rfl | decide) (by first | rfl | decide) (Nat.le_of_ble_eq_true rfl) (ws' := [(a_p0, .inr (7, [.int p0_persons, .int p0_skies, .int p0_oaths, .ref a_p0_kind, .ref a_p0_skyAt, .ref a_p0_skyLoud, .ref a_p0_one, .ref a_p0_other, .ref a_p0_worth, .ref a_p0_hangs, .ref a_p0_now, .ref a_p0_readPerson, .ref a_p0_readSky, .ref a_p0_readOath, .int p0_readPersons, .int p0_readSkies, .int p0_readOaths, .ref a_p0_text, .int p0_length, .int p0_at, .int p0_at, .int p0_acts, .int p0_next, .ref a_p0_row, .int p0_told, .ref a_p0_toldAt, .ref a_p0_toldWool, .ref a_p0_toldHeard, .long p0_seed, .ref a_p0_isKept, .ref a_p0_kept])), (a_p0_readPerson, .inl (cI, 10, .inl p0_readPerson)), (a_p0_readSky, .inl (cI, 10, .inl p0_readSky)), (a_p0_readOath, .inl (cI, 20, .inl p0_readOath)), (a_p0_text, .inl (cI, 60, .inl p0_text))]) rfl dX7_readPart_247 (fun H locs hW => ?_)
              exact hE _ _ _ _ (p0_readPersons, p0_readSkies, p0_readOaths, p0_at, p0_at, p0_readPerson, p0_readSky, p0_readOath) (sm hf) hW dX7_readPart_250
            · have hf := it_f c_6 hf
              refine lv_aload_n hx hb dX7_readPart_225 rfl (lv_at hl 0 rfl) ?_
              refine lv_dup hx hb dX7_readPart_226 rfl ?_
              refine q_get hB hW 7 in_X7 0 rfl rfl 19 (by decide) fl_78 (v := .int p0_at) rfl dX7_readPart_227 ?_
              refine lv_iconst (v := 1) hx hb dX7_readPart_230 (by decide) ?_
              refine lv_iadd hx hb dX7_readPart_231 ?_
              obtain ⟨w_7, hw_7, hf⟩ := bnd hf
              refine q_nmI hw_7 ?_
              refine q_put hB hW 7 in_X7 tyX7 tyX7_ok nmX7 0 rfl rfl 19 (by decide) fl_78 rfl (by first | rfl | decide) (by first | rfl | decide) (Nat.le_of_ble_eq_true rfl) (ws' := [(a_p0, .inr (7, [.int p0_persons, .int p0_skies, .int p0_oaths, .ref a_p0_kind, .ref a_p0_skyAt, .ref a_p0_skyLoud, .ref a_p0_one, .ref a_p0_other, .ref a_p0_worth, .ref a_p0_hangs, .ref a_p0_now, .ref a_p0_readPerson, .ref a_p0_readSky, .ref a_p0_readOath, .int p0_readPersons, .int p0_readSkies, .int p0_readOaths, .ref a_p0_text, .int p0_length, .int w_7, .int p0_faultAt, .int p0_acts, .int p0_next, .ref a_p0_row, .int p0_told, .ref a_p0_toldAt, .ref a_p0_toldWool, .ref a_p0_toldHeard, .long p0_seed, .ref a_p0_isKept, .ref a_p0_kept])), (a_p0_readPerson, .inl (cI, 10, .inl p0_readPerson)), (a_p0_readSky, .inl (cI, 10, .inl p0_readSky)), (a_p0_readOath, .inl (cI, 20, .inl p0_readOath)), (a_p0_text, .inl (cI, 60, .inl p0_text))]) rfl dX7_readPart_232 (fun H locs hW => ?_)
              refine lv_aload_n hx hb dX7_readPart_235 rfl (lv_at hl 0 rfl) ?_
              obtain ⟨r_8, hr_8, hf⟩ := bnd hf
              refine q_callVV hB hW (ci := 7) (q0 := 0) rfl rfl rfl (As := []) (rest := []) (ws' := [(a_p0, .inr (7, [.int p0_persons, .int p0_skies, .int p0_oaths, .ref a_p0_kind, .ref a_p0_skyAt, .ref a_p0_skyLoud, .ref a_p0_one, .ref a_p0_other, .ref a_p0_worth, .ref a_p0_hangs, .ref a_p0_now, .ref a_p0_readPerson, .ref a_p0_readSky, .ref a_p0_readOath, .int p0_readPersons, .int p0_readSkies, .int r_8.1, .ref a_p0_text, .int p0_length, .int r_8.2.1, .int r_8.2.2.1, .int p0_acts, .int p0_next, .ref a_p0_row, .int p0_told, .ref a_p0_toldAt, .ref a_p0_toldWool, .ref a_p0_toldHeard, .long p0_seed, .ref a_p0_isKept, .ref a_p0_kept])), (a_p0_readPerson, .inl (cI, 10, .inl p0_readPerson)), (a_p0_readSky, .inl (cI, 10, .inl p0_readSky)), (a_p0_readOath, .inl (cI, 20, .inl r_8.2.2.2)), (a_p0_text, .inl (cI, 60, .inl p0_text))]) (c_X7_readSworn l D cI cZ a_p0 a_p0_kind a_p0_skyAt a_p0_skyLoud a_p0_one a_p0_other a_p0_worth a_p0_hangs a_p0_now a_p0_readPerson a_p0_readSky a_p0_readOath a_p0_text a_p0_row a_p0_toldAt a_p0_toldWool a_p0_toldHeard a_p0_isKept a_p0_kept p0_persons p0_skies p0_oaths p0_readPersons p0_readSkies p0_readOaths p0_length w_7 p0_faultAt p0_acts p0_next p0_told p0_seed p0_readOath p0_text r_8 hr_8) (cwV 0 hts gX7_readPart_X7_readSworn rfl rfl rfl (by decide +kernel) ⟨Nat.le_of_ble_eq_true rfl, Nat.le_of_ble_eq_true rfl⟩) [0, 3, 4] rfl rfl rfl rfl rfl hl.1 rfl (Nat.le_of_ble_eq_true rfl) ⟨Nat.le_of_ble_eq_true rfl, Nat.le_of_ble_eq_true rfl⟩ dX7_readPart_236 (fun H locs hW => ?_)
              refine lv_goto (tgt := 250) hx hb dX7_readPart_239 (by decide) ?_
              exact hE _ _ _ _ (p0_readPersons, p0_readSkies, r_8.1, r_8.2.1, r_8.2.2.1, p0_readPerson, p0_readSky, r_8.2.2.2) (sm hf) hW dX7_readPart_250
      · have hf := it_t c_3 hf
        refine lv_aload_n hx hb dX7_readPart_132 rfl (lv_at hl 0 rfl) ?_
        refine q_get hB hW 7 in_X7 0 rfl rfl 15 (by decide) fl_84 (v := .int p0_readSkies) rfl dX7_readPart_133 ?_
        refine lv_iconst (v := 5) hx hb dX7_readPart_136 (by decide) ?_
        refine lv_icmp_ge (tgt := 203) hx hb dX7_readPart_137 (by decide) (fun c_9 => ?_) (fun c_9 => ?_)
        · have hf := it_t c_9 hf
          refine lv_iload_n hx hb dX7_readPart_203 rfl (lv_at hl 1 rfl) ?_
          refine lv_bipush (v := 79) hx hb dX7_readPart_204 (by decide) ?_
          refine lv_icmp_ne (tgt := 242) hx hb dX7_readPart_206 (by decide) (fun c_10 => ?_) (fun c_10 => ?_)
          · have hf := it_f c_10 hf
            refine lv_aload_n hx hb dX7_readPart_242 rfl (lv_at hl 0 rfl) ?_
            refine lv_aload_n hx hb dX7_readPart_243 rfl (lv_at hl 0 rfl) ?_
            refine q_get hB hW 7 in_X7 0 rfl rfl 19 (by decide) fl_78 (v := .int p0_at) rfl dX7_readPart_244 ?_
            refine q_put hB hW 7 in_X7 tyX7 tyX7_ok nmX7 0 rfl rfl 20 (by decide) fl_75 rfl (by first | rfl | decide) (by first | rfl | decide) (Nat.le_of_ble_eq_true rfl) (ws' := [(a_p0, .inr (7, [.int p0_persons, .int p0_skies, .int p0_oaths, .ref a_p0_kind, .ref a_p0_skyAt, .ref a_p0_skyLoud, .ref a_p0_one, .ref a_p0_other, .ref a_p0_worth, .ref a_p0_hangs, .ref a_p0_now, .ref a_p0_readPerson, .ref a_p0_readSky, .ref a_p0_readOath, .int p0_readPersons, .int p0_readSkies, .int p0_readOaths, .ref a_p0_text, .int p0_length, .int p0_at, .int p0_at, .int p0_acts, .int p0_next, .ref a_p0_row, .int p0_told, .ref a_p0_toldAt, .ref a_p0_toldWool, .ref a_p0_toldHeard, .long p0_seed, .ref a_p0_isKept, .ref a_p0_kept])), (a_p0_readPerson, .inl (cI, 10, .inl p0_readPerson)), (a_p0_readSky, .inl (cI, 10, .inl p0_readSky)), (a_p0_readOath, .inl (cI, 20, .inl p0_readOath)), (a_p0_text, .inl (cI, 60, .inl p0_text))]) rfl dX7_readPart_247 (fun H locs hW => ?_)
            exact hE _ _ _ _ (p0_readPersons, p0_readSkies, p0_readOaths, p0_at, p0_at, p0_readPerson, p0_readSky, p0_readOath) (sm hf) hW dX7_readPart_250
          · have hf := it_t c_10 hf
            refine lv_aload_n hx hb dX7_readPart_209 rfl (lv_at hl 0 rfl) ?_
            refine q_get hB hW 7 in_X7 0 rfl rfl 16 (by decide) fl_87 (v := .int p0_readOaths) rfl dX7_readPart_210 ?_
            refine lv_iconst (v := 5) hx hb dX7_readPart_213 (by decide) ?_
            refine lv_icmp_ge (tgt := 242) hx hb dX7_readPart_214 (by decide) (fun c_11 => ?_) (fun c_11 => ?_)
            · have hf := it_t c_11 hf
              refine lv_aload_n hx hb dX7_readPart_242 rfl (lv_at hl 0 rfl) ?_
              refine lv_aload_n hx hb dX7_readPart_243 rfl (lv_at hl 0 rfl) ?_
              refine q_get hB hW 7 in_X7 0 rfl rfl 19 (by decide) fl_78 (v := .int p0_at) rfl dX7_readPart_244 ?_
              refine q_put hB hW 7 in_X7 tyX7 tyX7_ok nmX7 0 rfl rfl 20 (by decide) fl_75 rfl (by first | rfl | decide) (by first | rfl | decide) (Nat.le_of_ble_eq_true rfl) (ws' := [(a_p0, .inr (7, [.int p0_persons, .int p0_skies, .int p0_oaths, .ref a_p0_kind, .ref a_p0_skyAt, .ref a_p0_skyLoud, .ref a_p0_one, .ref a_p0_other, .ref a_p0_worth, .ref a_p0_hangs, .ref a_p0_now, .ref a_p0_readPerson, .ref a_p0_readSky, .ref a_p0_readOath, .int p0_readPersons, .int p0_readSkies, .int p0_readOaths, .ref a_p0_text, .int p0_length, .int p0_at, .int p0_at, .int p0_acts, .int p0_next, .ref a_p0_row, .int p0_told, .ref a_p0_toldAt, .ref a_p0_toldWool, .ref a_p0_toldHeard, .long p0_seed, .ref a_p0_isKept, .ref a_p0_kept])), (a_p0_readPerson, .inl (cI, 10, .inl p0_readPerson)), (a_p0_readSky, .inl (cI, 10, .inl p0_readSky)), (a_p0_readOath, .inl (cI, 20, .inl p0_readOath)), (a_p0_text, .inl (cI, 60, .inl p0_text))]) rfl dX7_readPart_247 (fun H locs hW => ?_)
              exact hE _ _ _ _ (p0_readPersons, p0_readSkies, p0_readOaths, p0_at, p0_at, p0_readPerson, p0_readSky, p0_readOath) (sm hf) hW dX7_readPart_250
            · have hf := it_f c_11 hf
              refine lv_aload_n hx hb dX7_readPart_217 rfl (lv_at hl 0 rfl) ?_
              refine q_get hB hW 7 in_X7 0 rfl rfl 14 (by decide) fl_81 (v := .int p0_readPersons) rfl dX7_readPart_218 ?_
              refine lv_iconst (v := 1) hx hb dX7_readPart_221 (by decide) ?_
              refine lv_icmp_le (tgt := 242) hx hb dX7_readPart_222 (by decide) (fun c_12 => ?_) (fun c_12 => ?_)
              · have hf := it_t c_12 hf
                refine lv_aload_n hx hb dX7_readPart_242 rfl (lv_at hl 0 rfl) ?_
                refine lv_aload_n hx hb dX7_readPart_243 rfl (lv_at hl 0 rfl) ?_
                refine q_get hB hW 7 in_X7 0 rfl rfl 19 (by decide) fl_78 (v := .int p0_at) rfl dX7_readPart_244 ?_
                refine q_put hB hW 7 in_X7 tyX7 tyX7_ok nmX7 0 rfl rfl 20 (by decide) fl_75 rfl (by first | rfl | decide) (by first | rfl | decide) (Nat.le_of_ble_eq_true rfl) (ws' := [(a_p0, .inr (7, [.int p0_persons, .int p0_skies, .int p0_oaths, .ref a_p0_kind, .ref a_p0_skyAt, .ref a_p0_skyLoud, .ref a_p0_one, .ref a_p0_other, .ref a_p0_worth, .ref a_p0_hangs, .ref a_p0_now, .ref a_p0_readPerson, .ref a_p0_readSky, .ref a_p0_readOath, .int p0_readPersons, .int p0_readSkies, .int p0_readOaths, .ref a_p0_text, .int p0_length, .int p0_at, .int p0_at, .int p0_acts, .int p0_next, .ref a_p0_row, .int p0_told, .ref a_p0_toldAt, .ref a_p0_toldWool, .ref a_p0_toldHeard, .long p0_seed, .ref a_p0_isKept, .ref a_p0_kept])), (a_p0_readPerson, .inl (cI, 10, .inl p0_readPerson)), (a_p0_readSky, .inl (cI, 10, .inl p0_readSky)), (a_p0_readOath, .inl (cI, 20, .inl p0_readOath)), (a_p0_text, .inl (cI, 60, .inl p0_text))]) rfl dX7_readPart_247 (fun H locs hW => ?_)
                exact hE _ _ _ _ (p0_readPersons, p0_readSkies, p0_readOaths, p0_at, p0_at, p0_readPerson, p0_readSky, p0_readOath) (sm hf) hW dX7_readPart_250
              · have hf := it_f c_12 hf
                refine lv_aload_n hx hb dX7_readPart_225 rfl (lv_at hl 0 rfl) ?_
                refine lv_dup hx hb dX7_readPart_226 rfl ?_
                refine q_get hB hW 7 in_X7 0 rfl rfl 19 (by decide) fl_78 (v := .int p0_at) rfl dX7_readPart_227 ?_
                refine lv_iconst (v := 1) hx hb dX7_readPart_230 (by decide) ?_
                refine lv_iadd hx hb dX7_readPart_231 ?_
                obtain ⟨w_13, hw_13, hf⟩ := bnd hf
                refine q_nmI hw_13 ?_
                refine q_put hB hW 7 in_X7 tyX7 tyX7_ok nmX7 0 rfl rfl 19 (by decide) fl_78 rfl (by first | rfl | decide) (by first | rfl | decide) (Nat.le_of_ble_eq_true rfl) (ws' := [(a_p0, .inr (7, [.int p0_persons, .int p0_skies, .int p0_oaths, .ref a_p0_kind, .ref a_p0_skyAt, .ref a_p0_skyLoud, .ref a_p0_one, .ref a_p0_other, .ref a_p0_worth, .ref a_p0_hangs, .ref a_p0_now, .ref a_p0_readPerson, .ref a_p0_readSky, .ref a_p0_readOath, .int p0_readPersons, .int p0_readSkies, .int p0_readOaths, .ref a_p0_text, .int p0_length, .int w_13, .int p0_faultAt, .int p0_acts, .int p0_next, .ref a_p0_row, .int p0_told, .ref a_p0_toldAt, .ref a_p0_toldWool, .ref a_p0_toldHeard, .long p0_seed, .ref a_p0_isKept, .ref a_p0_kept])), (a_p0_readPerson, .inl (cI, 10, .inl p0_readPerson)), (a_p0_readSky, .inl (cI, 10, .inl p0_readSky)), (a_p0_readOath, .inl (cI, 20, .inl p0_readOath)), (a_p0_text, .inl (cI, 60, .inl p0_text))]) rfl dX7_readPart_232 (fun H locs hW => ?_)
                refine lv_aload_n hx hb dX7_readPart_235 rfl (lv_at hl 0 rfl) ?_
                obtain ⟨r_14, hr_14, hf⟩ := bnd hf
                refine q_callVV hB hW (ci := 7) (q0 := 0) rfl rfl rfl (As := []) (rest := []) (ws' := [(a_p0, .inr (7, [.int p0_persons, .int p0_skies, .int p0_oaths, .ref a_p0_kind, .ref a_p0_skyAt, .ref a_p0_skyLoud, .ref a_p0_one, .ref a_p0_other, .ref a_p0_worth, .ref a_p0_hangs, .ref a_p0_now, .ref a_p0_readPerson, .ref a_p0_readSky, .ref a_p0_readOath, .int p0_readPersons, .int p0_readSkies, .int r_14.1, .ref a_p0_text, .int p0_length, .int r_14.2.1, .int r_14.2.2.1, .int p0_acts, .int p0_next, .ref a_p0_row, .int p0_told, .ref a_p0_toldAt, .ref a_p0_toldWool, .ref a_p0_toldHeard, .long p0_seed, .ref a_p0_isKept, .ref a_p0_kept])), (a_p0_readPerson, .inl (cI, 10, .inl p0_readPerson)), (a_p0_readSky, .inl (cI, 10, .inl p0_readSky)), (a_p0_readOath, .inl (cI, 20, .inl r_14.2.2.2)), (a_p0_text, .inl (cI, 60, .inl p0_text))]) (c_X7_readSworn l D cI cZ a_p0 a_p0_kind a_p0_skyAt a_p0_skyLoud a_p0_one a_p0_other a_p0_worth a_p0_hangs a_p0_now a_p0_readPerson a_p0_readSky a_p0_readOath a_p0_text a_p0_row a_p0_toldAt a_p0_toldWool a_p0_toldHeard a_p0_isKept a_p0_kept p0_persons p0_skies p0_oaths p0_readPersons p0_readSkies p0_readOaths p0_length w_13 p0_faultAt p0_acts p0_next p0_told p0_seed p0_readOath p0_text r_14 hr_14) (cwV 0 hts gX7_readPart_X7_readSworn rfl rfl rfl (by decide +kernel) ⟨Nat.le_of_ble_eq_true rfl, Nat.le_of_ble_eq_true rfl⟩) [0, 3, 4] rfl rfl rfl rfl rfl hl.1 rfl (Nat.le_of_ble_eq_true rfl) ⟨Nat.le_of_ble_eq_true rfl, Nat.le_of_ble_eq_true rfl⟩ dX7_readPart_236 (fun H locs hW => ?_)
                refine lv_goto (tgt := 250) hx hb dX7_readPart_239 (by decide) ?_
                exact hE _ _ _ _ (p0_readPersons, p0_readSkies, r_14.1, r_14.2.1, r_14.2.2.1, p0_readPerson, p0_readSky, r_14.2.2.2) (sm hf) hW dX7_readPart_250
        · have hf := it_f c_9 hf
          refine lv_aload_n hx hb dX7_readPart_140 rfl (lv_at hl 0 rfl) ?_
          refine lv_dup hx hb dX7_readPart_141 rfl ?_
          refine q_get hB hW 7 in_X7 0 rfl rfl 19 (by decide) fl_78 (v := .int p0_at) rfl dX7_readPart_142 ?_
          refine lv_iconst (v := 1) hx hb dX7_readPart_145 (by decide) ?_
          refine lv_iadd hx hb dX7_readPart_146 ?_
          obtain ⟨w_15, hw_15, hf⟩ := bnd hf
          refine q_nmI hw_15 ?_
          refine q_put hB hW 7 in_X7 tyX7 tyX7_ok nmX7 0 rfl rfl 19 (by decide) fl_78 rfl (by first | rfl | decide) (by first | rfl | decide) (Nat.le_of_ble_eq_true rfl) (ws' := [(a_p0, .inr (7, [.int p0_persons, .int p0_skies, .int p0_oaths, .ref a_p0_kind, .ref a_p0_skyAt, .ref a_p0_skyLoud, .ref a_p0_one, .ref a_p0_other, .ref a_p0_worth, .ref a_p0_hangs, .ref a_p0_now, .ref a_p0_readPerson, .ref a_p0_readSky, .ref a_p0_readOath, .int p0_readPersons, .int p0_readSkies, .int p0_readOaths, .ref a_p0_text, .int p0_length, .int w_15, .int p0_faultAt, .int p0_acts, .int p0_next, .ref a_p0_row, .int p0_told, .ref a_p0_toldAt, .ref a_p0_toldWool, .ref a_p0_toldHeard, .long p0_seed, .ref a_p0_isKept, .ref a_p0_kept])), (a_p0_readPerson, .inl (cI, 10, .inl p0_readPerson)), (a_p0_readSky, .inl (cI, 10, .inl p0_readSky)), (a_p0_readOath, .inl (cI, 20, .inl p0_readOath)), (a_p0_text, .inl (cI, 60, .inl p0_text))]) rfl dX7_readPart_147 (fun H locs hW => ?_)
          refine lv_aload_n hx hb dX7_readPart_150 rfl (lv_at hl 0 rfl) ?_
          refine q_get hB hW 7 in_X7 0 rfl rfl 12 (by decide) fl_37 (v := .ref a_p0_readSky) rfl dX7_readPart_151 ?_
          refine lv_iconst (v := 2) hx hb dX7_readPart_154 (by decide) ?_
          refine lv_aload_n hx hb dX7_readPart_155 rfl (lv_at hl 0 rfl) ?_
          refine q_get hB hW 7 in_X7 0 rfl rfl 15 (by decide) fl_84 (v := .int p0_readSkies) rfl dX7_readPart_156 ?_
          refine lv_imul hx hb dX7_readPart_159 ?_
          refine lv_aload_n hx hb dX7_readPart_160 rfl (lv_at hl 0 rfl) ?_
          refine lv_bipush (v := 9) hx hb dX7_readPart_161 (by decide) ?_
          refine lv_bipush (v := -9) hx hb dX7_readPart_163 (by decide) ?_
          obtain ⟨r_16, hr_16, hf⟩ := bnd hf
          refine q_callVI hB hW (ci := 7) (q0 := 0) rfl rfl rfl (As := [.int (9 : Int32), .int (-9 : Int32)]) (rest := [.int ((2 : Int32) * p0_readSkies), .ref a_p0_readSky]) (ws' := [(a_p0, .inr (7, [.int p0_persons, .int p0_skies, .int p0_oaths, .ref a_p0_kind, .ref a_p0_skyAt, .ref a_p0_skyLoud, .ref a_p0_one, .ref a_p0_other, .ref a_p0_worth, .ref a_p0_hangs, .ref a_p0_now, .ref a_p0_readPerson, .ref a_p0_readSky, .ref a_p0_readOath, .int p0_readPersons, .int p0_readSkies, .int p0_readOaths, .ref a_p0_text, .int p0_length, .int r_16.2.1, .int r_16.2.2, .int p0_acts, .int p0_next, .ref a_p0_row, .int p0_told, .ref a_p0_toldAt, .ref a_p0_toldWool, .ref a_p0_toldHeard, .long p0_seed, .ref a_p0_isKept, .ref a_p0_kept])), (a_p0_readPerson, .inl (cI, 10, .inl p0_readPerson)), (a_p0_readSky, .inl (cI, 10, .inl p0_readSky)), (a_p0_readOath, .inl (cI, 20, .inl p0_readOath)), (a_p0_text, .inl (cI, 60, .inl p0_text))]) (c_X7_figureOf l D cI cZ a_p0 a_p0_kind a_p0_skyAt a_p0_skyLoud a_p0_one a_p0_other a_p0_worth a_p0_hangs a_p0_now a_p0_readPerson a_p0_readSky a_p0_readOath a_p0_text a_p0_row a_p0_toldAt a_p0_toldWool a_p0_toldHeard a_p0_isKept a_p0_kept p0_persons p0_skies p0_oaths p0_readPersons p0_readSkies p0_readOaths p0_length w_15 p0_faultAt p0_acts p0_next p0_told p0_seed p0_text (9 : Int32) (-9 : Int32) r_16 hr_16) (cwV 2 hts gX7_readPart_X7_figureOf rfl rfl rfl (by decide +kernel) ⟨Nat.le_of_ble_eq_true rfl, Nat.le_of_ble_eq_true rfl⟩) [0, 4] rfl rfl rfl rfl rfl hl.1 rfl (Nat.le_of_ble_eq_true rfl) ⟨Nat.le_of_ble_eq_true rfl, Nat.le_of_ble_eq_true rfl⟩ dX7_readPart_165 (fun H locs hW => ?_)
          obtain ⟨r_17, hr_17, hf⟩ := bnd hf
          refine q_iast hB hW 2 rfl hr_17 (ws' := [(a_p0, .inr (7, [.int p0_persons, .int p0_skies, .int p0_oaths, .ref a_p0_kind, .ref a_p0_skyAt, .ref a_p0_skyLoud, .ref a_p0_one, .ref a_p0_other, .ref a_p0_worth, .ref a_p0_hangs, .ref a_p0_now, .ref a_p0_readPerson, .ref a_p0_readSky, .ref a_p0_readOath, .int p0_readPersons, .int p0_readSkies, .int p0_readOaths, .ref a_p0_text, .int p0_length, .int r_16.2.1, .int r_16.2.2, .int p0_acts, .int p0_next, .ref a_p0_row, .int p0_told, .ref a_p0_toldAt, .ref a_p0_toldWool, .ref a_p0_toldHeard, .long p0_seed, .ref a_p0_isKept, .ref a_p0_kept])), (a_p0_readPerson, .inl (cI, 10, .inl p0_readPerson)), (a_p0_readSky, .inl (cI, 10, .inl r_17)), (a_p0_readOath, .inl (cI, 20, .inl p0_readOath)), (a_p0_text, .inl (cI, 60, .inl p0_text))]) rfl dX7_readPart_168 (fun H locs hW => ?_)
          refine lv_aload_n hx hb dX7_readPart_169 rfl (lv_at hl 0 rfl) ?_
          refine q_get hB hW 7 in_X7 0 rfl rfl 12 (by decide) fl_37 (v := .ref a_p0_readSky) rfl dX7_readPart_170 ?_
          refine lv_iconst (v := 2) hx hb dX7_readPart_173 (by decide) ?_
          refine lv_aload_n hx hb dX7_readPart_174 rfl (lv_at hl 0 rfl) ?_
          refine q_get hB hW 7 in_X7 0 rfl rfl 15 (by decide) fl_84 (v := .int p0_readSkies) rfl dX7_readPart_175 ?_
          refine lv_imul hx hb dX7_readPart_178 ?_
          refine lv_iconst (v := 1) hx hb dX7_readPart_179 (by decide) ?_
          refine lv_iadd hx hb dX7_readPart_180 ?_
          refine lv_aload_n hx hb dX7_readPart_181 rfl (lv_at hl 0 rfl) ?_
          refine lv_bipush (v := 9) hx hb dX7_readPart_182 (by decide) ?_
          refine lv_bipush (v := -9) hx hb dX7_readPart_184 (by decide) ?_
          obtain ⟨r_18, hr_18, hf⟩ := bnd hf
          refine q_callVI hB hW (ci := 7) (q0 := 0) rfl rfl rfl (As := [.int (9 : Int32), .int (-9 : Int32)]) (rest := [.int (((2 : Int32) * p0_readSkies) + (1 : Int32)), .ref a_p0_readSky]) (ws' := [(a_p0, .inr (7, [.int p0_persons, .int p0_skies, .int p0_oaths, .ref a_p0_kind, .ref a_p0_skyAt, .ref a_p0_skyLoud, .ref a_p0_one, .ref a_p0_other, .ref a_p0_worth, .ref a_p0_hangs, .ref a_p0_now, .ref a_p0_readPerson, .ref a_p0_readSky, .ref a_p0_readOath, .int p0_readPersons, .int p0_readSkies, .int p0_readOaths, .ref a_p0_text, .int p0_length, .int r_18.2.1, .int r_18.2.2, .int p0_acts, .int p0_next, .ref a_p0_row, .int p0_told, .ref a_p0_toldAt, .ref a_p0_toldWool, .ref a_p0_toldHeard, .long p0_seed, .ref a_p0_isKept, .ref a_p0_kept])), (a_p0_readPerson, .inl (cI, 10, .inl p0_readPerson)), (a_p0_readSky, .inl (cI, 10, .inl r_17)), (a_p0_readOath, .inl (cI, 20, .inl p0_readOath)), (a_p0_text, .inl (cI, 60, .inl p0_text))]) (c_X7_figureOf l D cI cZ a_p0 a_p0_kind a_p0_skyAt a_p0_skyLoud a_p0_one a_p0_other a_p0_worth a_p0_hangs a_p0_now a_p0_readPerson a_p0_readSky a_p0_readOath a_p0_text a_p0_row a_p0_toldAt a_p0_toldWool a_p0_toldHeard a_p0_isKept a_p0_kept p0_persons p0_skies p0_oaths p0_readPersons p0_readSkies p0_readOaths p0_length r_16.2.1 r_16.2.2 p0_acts p0_next p0_told p0_seed p0_text (9 : Int32) (-9 : Int32) r_18 hr_18) (cwV 2 hts gX7_readPart_X7_figureOf rfl rfl rfl (by decide +kernel) ⟨Nat.le_of_ble_eq_true rfl, Nat.le_of_ble_eq_true rfl⟩) [0, 4] rfl rfl rfl rfl rfl hl.1 rfl (Nat.le_of_ble_eq_true rfl) ⟨Nat.le_of_ble_eq_true rfl, Nat.le_of_ble_eq_true rfl⟩ dX7_readPart_186 (fun H locs hW => ?_)
          obtain ⟨r_19, hr_19, hf⟩ := bnd hf
          refine q_iast hB hW 2 rfl hr_19 (ws' := [(a_p0, .inr (7, [.int p0_persons, .int p0_skies, .int p0_oaths, .ref a_p0_kind, .ref a_p0_skyAt, .ref a_p0_skyLoud, .ref a_p0_one, .ref a_p0_other, .ref a_p0_worth, .ref a_p0_hangs, .ref a_p0_now, .ref a_p0_readPerson, .ref a_p0_readSky, .ref a_p0_readOath, .int p0_readPersons, .int p0_readSkies, .int p0_readOaths, .ref a_p0_text, .int p0_length, .int r_18.2.1, .int r_18.2.2, .int p0_acts, .int p0_next, .ref a_p0_row, .int p0_told, .ref a_p0_toldAt, .ref a_p0_toldWool, .ref a_p0_toldHeard, .long p0_seed, .ref a_p0_isKept, .ref a_p0_kept])), (a_p0_readPerson, .inl (cI, 10, .inl p0_readPerson)), (a_p0_readSky, .inl (cI, 10, .inl r_19)), (a_p0_readOath, .inl (cI, 20, .inl p0_readOath)), (a_p0_text, .inl (cI, 60, .inl p0_text))]) rfl dX7_readPart_189 (fun H locs hW => ?_)
          refine lv_aload_n hx hb dX7_readPart_190 rfl (lv_at hl 0 rfl) ?_
          refine lv_dup hx hb dX7_readPart_191 rfl ?_
          refine q_get hB hW 7 in_X7 0 rfl rfl 15 (by decide) fl_84 (v := .int p0_readSkies) rfl dX7_readPart_192 ?_
          refine lv_iconst (v := 1) hx hb dX7_readPart_195 (by decide) ?_
          refine lv_iadd hx hb dX7_readPart_196 ?_
          obtain ⟨w_20, hw_20, hf⟩ := bnd hf
          refine q_nmI hw_20 ?_
          refine q_put hB hW 7 in_X7 tyX7 tyX7_ok nmX7 0 rfl rfl 15 (by decide) fl_84 rfl (by first | rfl | decide) (by first | rfl | decide) (Nat.le_of_ble_eq_true rfl) (ws' := [(a_p0, .inr (7, [.int p0_persons, .int p0_skies, .int p0_oaths, .ref a_p0_kind, .ref a_p0_skyAt, .ref a_p0_skyLoud, .ref a_p0_one, .ref a_p0_other, .ref a_p0_worth, .ref a_p0_hangs, .ref a_p0_now, .ref a_p0_readPerson, .ref a_p0_readSky, .ref a_p0_readOath, .int p0_readPersons, .int w_20, .int p0_readOaths, .ref a_p0_text, .int p0_length, .int r_18.2.1, .int r_18.2.2, .int p0_acts, .int p0_next, .ref a_p0_row, .int p0_told, .ref a_p0_toldAt, .ref a_p0_toldWool, .ref a_p0_toldHeard, .long p0_seed, .ref a_p0_isKept, .ref a_p0_kept])), (a_p0_readPerson, .inl (cI, 10, .inl p0_readPerson)), (a_p0_readSky, .inl (cI, 10, .inl r_19)), (a_p0_readOath, .inl (cI, 20, .inl p0_readOath)), (a_p0_text, .inl (cI, 60, .inl p0_text))]) rfl dX7_readPart_197 (fun H locs hW => ?_)
          refine lv_goto (tgt := 250) hx hb dX7_readPart_200 (by decide) ?_
          exact hE _ _ _ _ (p0_readPersons, w_20, p0_readOaths, r_18.2.1, r_18.2.2, p0_readPerson, r_19, p0_readOath) (sm hf) hW dX7_readPart_250
    · have hf := it_t c_2 hf
      refine lv_aload_n hx hb dX7_readPart_82 rfl (lv_at hl 0 rfl) ?_
      refine q_get hB hW 7 in_X7 0 rfl rfl 15 (by decide) fl_84 (v := .int p0_readSkies) rfl dX7_readPart_83 ?_
      refine lv_iconst (v := 5) hx hb dX7_readPart_86 (by decide) ?_
      refine lv_icmp_ge (tgt := 126) hx hb dX7_readPart_87 (by decide) (fun c_21 => ?_) (fun c_21 => ?_)
      · have hf := it_t c_21 hf
        refine lv_iload_n hx hb dX7_readPart_126 rfl (lv_at hl 1 rfl) ?_
        refine lv_bipush (v := 67) hx hb dX7_readPart_127 (by decide) ?_
        refine lv_icmp_ne (tgt := 203) hx hb dX7_readPart_129 (by decide) (fun c_22 => ?_) (fun c_22 => ?_)
        · have hf := it_f c_22 hf
          refine lv_iload_n hx hb dX7_readPart_203 rfl (lv_at hl 1 rfl) ?_
          refine lv_bipush (v := 79) hx hb dX7_readPart_204 (by decide) ?_
          refine lv_icmp_ne (tgt := 242) hx hb dX7_readPart_206 (by decide) (fun c_23 => ?_) (fun c_23 => ?_)
          · have hf := it_f c_23 hf
            refine lv_aload_n hx hb dX7_readPart_242 rfl (lv_at hl 0 rfl) ?_
            refine lv_aload_n hx hb dX7_readPart_243 rfl (lv_at hl 0 rfl) ?_
            refine q_get hB hW 7 in_X7 0 rfl rfl 19 (by decide) fl_78 (v := .int p0_at) rfl dX7_readPart_244 ?_
            refine q_put hB hW 7 in_X7 tyX7 tyX7_ok nmX7 0 rfl rfl 20 (by decide) fl_75 rfl (by first | rfl | decide) (by first | rfl | decide) (Nat.le_of_ble_eq_true rfl) (ws' := [(a_p0, .inr (7, [.int p0_persons, .int p0_skies, .int p0_oaths, .ref a_p0_kind, .ref a_p0_skyAt, .ref a_p0_skyLoud, .ref a_p0_one, .ref a_p0_other, .ref a_p0_worth, .ref a_p0_hangs, .ref a_p0_now, .ref a_p0_readPerson, .ref a_p0_readSky, .ref a_p0_readOath, .int p0_readPersons, .int p0_readSkies, .int p0_readOaths, .ref a_p0_text, .int p0_length, .int p0_at, .int p0_at, .int p0_acts, .int p0_next, .ref a_p0_row, .int p0_told, .ref a_p0_toldAt, .ref a_p0_toldWool, .ref a_p0_toldHeard, .long p0_seed, .ref a_p0_isKept, .ref a_p0_kept])), (a_p0_readPerson, .inl (cI, 10, .inl p0_readPerson)), (a_p0_readSky, .inl (cI, 10, .inl p0_readSky)), (a_p0_readOath, .inl (cI, 20, .inl p0_readOath)), (a_p0_text, .inl (cI, 60, .inl p0_text))]) rfl dX7_readPart_247 (fun H locs hW => ?_)
            exact hE _ _ _ _ (p0_readPersons, p0_readSkies, p0_readOaths, p0_at, p0_at, p0_readPerson, p0_readSky, p0_readOath) (sm hf) hW dX7_readPart_250
          · have hf := it_t c_23 hf
            refine lv_aload_n hx hb dX7_readPart_209 rfl (lv_at hl 0 rfl) ?_
            refine q_get hB hW 7 in_X7 0 rfl rfl 16 (by decide) fl_87 (v := .int p0_readOaths) rfl dX7_readPart_210 ?_
            refine lv_iconst (v := 5) hx hb dX7_readPart_213 (by decide) ?_
            refine lv_icmp_ge (tgt := 242) hx hb dX7_readPart_214 (by decide) (fun c_24 => ?_) (fun c_24 => ?_)
            · have hf := it_t c_24 hf
              refine lv_aload_n hx hb dX7_readPart_242 rfl (lv_at hl 0 rfl) ?_
              refine lv_aload_n hx hb dX7_readPart_243 rfl (lv_at hl 0 rfl) ?_
              refine q_get hB hW 7 in_X7 0 rfl rfl 19 (by decide) fl_78 (v := .int p0_at) rfl dX7_readPart_244 ?_
              refine q_put hB hW 7 in_X7 tyX7 tyX7_ok nmX7 0 rfl rfl 20 (by decide) fl_75 rfl (by first | rfl | decide) (by first | rfl | decide) (Nat.le_of_ble_eq_true rfl) (ws' := [(a_p0, .inr (7, [.int p0_persons, .int p0_skies, .int p0_oaths, .ref a_p0_kind, .ref a_p0_skyAt, .ref a_p0_skyLoud, .ref a_p0_one, .ref a_p0_other, .ref a_p0_worth, .ref a_p0_hangs, .ref a_p0_now, .ref a_p0_readPerson, .ref a_p0_readSky, .ref a_p0_readOath, .int p0_readPersons, .int p0_readSkies, .int p0_readOaths, .ref a_p0_text, .int p0_length, .int p0_at, .int p0_at, .int p0_acts, .int p0_next, .ref a_p0_row, .int p0_told, .ref a_p0_toldAt, .ref a_p0_toldWool, .ref a_p0_toldHeard, .long p0_seed, .ref a_p0_isKept, .ref a_p0_kept])), (a_p0_readPerson, .inl (cI, 10, .inl p0_readPerson)), (a_p0_readSky, .inl (cI, 10, .inl p0_readSky)), (a_p0_readOath, .inl (cI, 20, .inl p0_readOath)), (a_p0_text, .inl (cI, 60, .inl p0_text))]) rfl dX7_readPart_247 (fun H locs hW => ?_)
              exact hE _ _ _ _ (p0_readPersons, p0_readSkies, p0_readOaths, p0_at, p0_at, p0_readPerson, p0_readSky, p0_readOath) (sm hf) hW dX7_readPart_250
            · have hf := it_f c_24 hf
              refine lv_aload_n hx hb dX7_readPart_217 rfl (lv_at hl 0 rfl) ?_
              refine q_get hB hW 7 in_X7 0 rfl rfl 14 (by decide) fl_81 (v := .int p0_readPersons) rfl dX7_readPart_218 ?_
              refine lv_iconst (v := 1) hx hb dX7_readPart_221 (by decide) ?_
              refine lv_icmp_le (tgt := 242) hx hb dX7_readPart_222 (by decide) (fun c_25 => ?_) (fun c_25 => ?_)
              · have hf := it_t c_25 hf
                refine lv_aload_n hx hb dX7_readPart_242 rfl (lv_at hl 0 rfl) ?_
                refine lv_aload_n hx hb dX7_readPart_243 rfl (lv_at hl 0 rfl) ?_
                refine q_get hB hW 7 in_X7 0 rfl rfl 19 (by decide) fl_78 (v := .int p0_at) rfl dX7_readPart_244 ?_
                refine q_put hB hW 7 in_X7 tyX7 tyX7_ok nmX7 0 rfl rfl 20 (by decide) fl_75 rfl (by first | rfl | decide) (by first | rfl | decide) (Nat.le_of_ble_eq_true rfl) (ws' := [(a_p0, .inr (7, [.int p0_persons, .int p0_skies, .int p0_oaths, .ref a_p0_kind, .ref a_p0_skyAt, .ref a_p0_skyLoud, .ref a_p0_one, .ref a_p0_other, .ref a_p0_worth, .ref a_p0_hangs, .ref a_p0_now, .ref a_p0_readPerson, .ref a_p0_readSky, .ref a_p0_readOath, .int p0_readPersons, .int p0_readSkies, .int p0_readOaths, .ref a_p0_text, .int p0_length, .int p0_at, .int p0_at, .int p0_acts, .int p0_next, .ref a_p0_row, .int p0_told, .ref a_p0_toldAt, .ref a_p0_toldWool, .ref a_p0_toldHeard, .long p0_seed, .ref a_p0_isKept, .ref a_p0_kept])), (a_p0_readPerson, .inl (cI, 10, .inl p0_readPerson)), (a_p0_readSky, .inl (cI, 10, .inl p0_readSky)), (a_p0_readOath, .inl (cI, 20, .inl p0_readOath)), (a_p0_text, .inl (cI, 60, .inl p0_text))]) rfl dX7_readPart_247 (fun H locs hW => ?_)
                exact hE _ _ _ _ (p0_readPersons, p0_readSkies, p0_readOaths, p0_at, p0_at, p0_readPerson, p0_readSky, p0_readOath) (sm hf) hW dX7_readPart_250
              · have hf := it_f c_25 hf
                refine lv_aload_n hx hb dX7_readPart_225 rfl (lv_at hl 0 rfl) ?_
                refine lv_dup hx hb dX7_readPart_226 rfl ?_
                refine q_get hB hW 7 in_X7 0 rfl rfl 19 (by decide) fl_78 (v := .int p0_at) rfl dX7_readPart_227 ?_
                refine lv_iconst (v := 1) hx hb dX7_readPart_230 (by decide) ?_
                refine lv_iadd hx hb dX7_readPart_231 ?_
                obtain ⟨w_26, hw_26, hf⟩ := bnd hf
                refine q_nmI hw_26 ?_
                refine q_put hB hW 7 in_X7 tyX7 tyX7_ok nmX7 0 rfl rfl 19 (by decide) fl_78 rfl (by first | rfl | decide) (by first | rfl | decide) (Nat.le_of_ble_eq_true rfl) (ws' := [(a_p0, .inr (7, [.int p0_persons, .int p0_skies, .int p0_oaths, .ref a_p0_kind, .ref a_p0_skyAt, .ref a_p0_skyLoud, .ref a_p0_one, .ref a_p0_other, .ref a_p0_worth, .ref a_p0_hangs, .ref a_p0_now, .ref a_p0_readPerson, .ref a_p0_readSky, .ref a_p0_readOath, .int p0_readPersons, .int p0_readSkies, .int p0_readOaths, .ref a_p0_text, .int p0_length, .int w_26, .int p0_faultAt, .int p0_acts, .int p0_next, .ref a_p0_row, .int p0_told, .ref a_p0_toldAt, .ref a_p0_toldWool, .ref a_p0_toldHeard, .long p0_seed, .ref a_p0_isKept, .ref a_p0_kept])), (a_p0_readPerson, .inl (cI, 10, .inl p0_readPerson)), (a_p0_readSky, .inl (cI, 10, .inl p0_readSky)), (a_p0_readOath, .inl (cI, 20, .inl p0_readOath)), (a_p0_text, .inl (cI, 60, .inl p0_text))]) rfl dX7_readPart_232 (fun H locs hW => ?_)
                refine lv_aload_n hx hb dX7_readPart_235 rfl (lv_at hl 0 rfl) ?_
                obtain ⟨r_27, hr_27, hf⟩ := bnd hf
                refine q_callVV hB hW (ci := 7) (q0 := 0) rfl rfl rfl (As := []) (rest := []) (ws' := [(a_p0, .inr (7, [.int p0_persons, .int p0_skies, .int p0_oaths, .ref a_p0_kind, .ref a_p0_skyAt, .ref a_p0_skyLoud, .ref a_p0_one, .ref a_p0_other, .ref a_p0_worth, .ref a_p0_hangs, .ref a_p0_now, .ref a_p0_readPerson, .ref a_p0_readSky, .ref a_p0_readOath, .int p0_readPersons, .int p0_readSkies, .int r_27.1, .ref a_p0_text, .int p0_length, .int r_27.2.1, .int r_27.2.2.1, .int p0_acts, .int p0_next, .ref a_p0_row, .int p0_told, .ref a_p0_toldAt, .ref a_p0_toldWool, .ref a_p0_toldHeard, .long p0_seed, .ref a_p0_isKept, .ref a_p0_kept])), (a_p0_readPerson, .inl (cI, 10, .inl p0_readPerson)), (a_p0_readSky, .inl (cI, 10, .inl p0_readSky)), (a_p0_readOath, .inl (cI, 20, .inl r_27.2.2.2)), (a_p0_text, .inl (cI, 60, .inl p0_text))]) (c_X7_readSworn l D cI cZ a_p0 a_p0_kind a_p0_skyAt a_p0_skyLoud a_p0_one a_p0_other a_p0_worth a_p0_hangs a_p0_now a_p0_readPerson a_p0_readSky a_p0_readOath a_p0_text a_p0_row a_p0_toldAt a_p0_toldWool a_p0_toldHeard a_p0_isKept a_p0_kept p0_persons p0_skies p0_oaths p0_readPersons p0_readSkies p0_readOaths p0_length w_26 p0_faultAt p0_acts p0_next p0_told p0_seed p0_readOath p0_text r_27 hr_27) (cwV 0 hts gX7_readPart_X7_readSworn rfl rfl rfl (by decide +kernel) ⟨Nat.le_of_ble_eq_true rfl, Nat.le_of_ble_eq_true rfl⟩) [0, 3, 4] rfl rfl rfl rfl rfl hl.1 rfl (Nat.le_of_ble_eq_true rfl) ⟨Nat.le_of_ble_eq_true rfl, Nat.le_of_ble_eq_true rfl⟩ dX7_readPart_236 (fun H locs hW => ?_)
                refine lv_goto (tgt := 250) hx hb dX7_readPart_239 (by decide) ?_
                exact hE _ _ _ _ (p0_readPersons, p0_readSkies, r_27.1, r_27.2.1, r_27.2.2.1, p0_readPerson, p0_readSky, r_27.2.2.2) (sm hf) hW dX7_readPart_250
        · have hf := it_t c_22 hf
          refine lv_aload_n hx hb dX7_readPart_132 rfl (lv_at hl 0 rfl) ?_
          refine q_get hB hW 7 in_X7 0 rfl rfl 15 (by decide) fl_84 (v := .int p0_readSkies) rfl dX7_readPart_133 ?_
          refine lv_iconst (v := 5) hx hb dX7_readPart_136 (by decide) ?_
          refine lv_icmp_ge (tgt := 203) hx hb dX7_readPart_137 (by decide) (fun _ => ?_) (fun c9 => absurd c_21 c9)
          refine lv_iload_n hx hb dX7_readPart_203 rfl (lv_at hl 1 rfl) ?_
          refine lv_bipush (v := 79) hx hb dX7_readPart_204 (by decide) ?_
          refine lv_icmp_ne (tgt := 242) hx hb dX7_readPart_206 (by decide) (fun c_28 => ?_) (fun c_28 => ?_)
          · have hf := it_f c_28 hf
            refine lv_aload_n hx hb dX7_readPart_242 rfl (lv_at hl 0 rfl) ?_
            refine lv_aload_n hx hb dX7_readPart_243 rfl (lv_at hl 0 rfl) ?_
            refine q_get hB hW 7 in_X7 0 rfl rfl 19 (by decide) fl_78 (v := .int p0_at) rfl dX7_readPart_244 ?_
            refine q_put hB hW 7 in_X7 tyX7 tyX7_ok nmX7 0 rfl rfl 20 (by decide) fl_75 rfl (by first | rfl | decide) (by first | rfl | decide) (Nat.le_of_ble_eq_true rfl) (ws' := [(a_p0, .inr (7, [.int p0_persons, .int p0_skies, .int p0_oaths, .ref a_p0_kind, .ref a_p0_skyAt, .ref a_p0_skyLoud, .ref a_p0_one, .ref a_p0_other, .ref a_p0_worth, .ref a_p0_hangs, .ref a_p0_now, .ref a_p0_readPerson, .ref a_p0_readSky, .ref a_p0_readOath, .int p0_readPersons, .int p0_readSkies, .int p0_readOaths, .ref a_p0_text, .int p0_length, .int p0_at, .int p0_at, .int p0_acts, .int p0_next, .ref a_p0_row, .int p0_told, .ref a_p0_toldAt, .ref a_p0_toldWool, .ref a_p0_toldHeard, .long p0_seed, .ref a_p0_isKept, .ref a_p0_kept])), (a_p0_readPerson, .inl (cI, 10, .inl p0_readPerson)), (a_p0_readSky, .inl (cI, 10, .inl p0_readSky)), (a_p0_readOath, .inl (cI, 20, .inl p0_readOath)), (a_p0_text, .inl (cI, 60, .inl p0_text))]) rfl dX7_readPart_247 (fun H locs hW => ?_)
            exact hE _ _ _ _ (p0_readPersons, p0_readSkies, p0_readOaths, p0_at, p0_at, p0_readPerson, p0_readSky, p0_readOath) (sm hf) hW dX7_readPart_250
          · have hf := it_t c_28 hf
            refine lv_aload_n hx hb dX7_readPart_209 rfl (lv_at hl 0 rfl) ?_
            refine q_get hB hW 7 in_X7 0 rfl rfl 16 (by decide) fl_87 (v := .int p0_readOaths) rfl dX7_readPart_210 ?_
            refine lv_iconst (v := 5) hx hb dX7_readPart_213 (by decide) ?_
            refine lv_icmp_ge (tgt := 242) hx hb dX7_readPart_214 (by decide) (fun c_29 => ?_) (fun c_29 => ?_)
            · have hf := it_t c_29 hf
              refine lv_aload_n hx hb dX7_readPart_242 rfl (lv_at hl 0 rfl) ?_
              refine lv_aload_n hx hb dX7_readPart_243 rfl (lv_at hl 0 rfl) ?_
              refine q_get hB hW 7 in_X7 0 rfl rfl 19 (by decide) fl_78 (v := .int p0_at) rfl dX7_readPart_244 ?_
              refine q_put hB hW 7 in_X7 tyX7 tyX7_ok nmX7 0 rfl rfl 20 (by decide) fl_75 rfl (by first | rfl | decide) (by first | rfl | decide) (Nat.le_of_ble_eq_true rfl) (ws' := [(a_p0, .inr (7, [.int p0_persons, .int p0_skies, .int p0_oaths, .ref a_p0_kind, .ref a_p0_skyAt, .ref a_p0_skyLoud, .ref a_p0_one, .ref a_p0_other, .ref a_p0_worth, .ref a_p0_hangs, .ref a_p0_now, .ref a_p0_readPerson, .ref a_p0_readSky, .ref a_p0_readOath, .int p0_readPersons, .int p0_readSkies, .int p0_readOaths, .ref a_p0_text, .int p0_length, .int p0_at, .int p0_at, .int p0_acts, .int p0_next, .ref a_p0_row, .int p0_told, .ref a_p0_toldAt, .ref a_p0_toldWool, .ref a_p0_toldHeard, .long p0_seed, .ref a_p0_isKept, .ref a_p0_kept])), (a_p0_readPerson, .inl (cI, 10, .inl p0_readPerson)), (a_p0_readSky, .inl (cI, 10, .inl p0_readSky)), (a_p0_readOath, .inl (cI, 20, .inl p0_readOath)), (a_p0_text, .inl (cI, 60, .inl p0_text))]) rfl dX7_readPart_247 (fun H locs hW => ?_)
              exact hE _ _ _ _ (p0_readPersons, p0_readSkies, p0_readOaths, p0_at, p0_at, p0_readPerson, p0_readSky, p0_readOath) (sm hf) hW dX7_readPart_250
            · have hf := it_f c_29 hf
              refine lv_aload_n hx hb dX7_readPart_217 rfl (lv_at hl 0 rfl) ?_
              refine q_get hB hW 7 in_X7 0 rfl rfl 14 (by decide) fl_81 (v := .int p0_readPersons) rfl dX7_readPart_218 ?_
              refine lv_iconst (v := 1) hx hb dX7_readPart_221 (by decide) ?_
              refine lv_icmp_le (tgt := 242) hx hb dX7_readPart_222 (by decide) (fun c_30 => ?_) (fun c_30 => ?_)
              · have hf := it_t c_30 hf
                refine lv_aload_n hx hb dX7_readPart_242 rfl (lv_at hl 0 rfl) ?_
                refine lv_aload_n hx hb dX7_readPart_243 rfl (lv_at hl 0 rfl) ?_
                refine q_get hB hW 7 in_X7 0 rfl rfl 19 (by decide) fl_78 (v := .int p0_at) rfl dX7_readPart_244 ?_
                refine q_put hB hW 7 in_X7 tyX7 tyX7_ok nmX7 0 rfl rfl 20 (by decide) fl_75 rfl (by first | rfl | decide) (by first | rfl | decide) (Nat.le_of_ble_eq_true rfl) (ws' := [(a_p0, .inr (7, [.int p0_persons, .int p0_skies, .int p0_oaths, .ref a_p0_kind, .ref a_p0_skyAt, .ref a_p0_skyLoud, .ref a_p0_one, .ref a_p0_other, .ref a_p0_worth, .ref a_p0_hangs, .ref a_p0_now, .ref a_p0_readPerson, .ref a_p0_readSky, .ref a_p0_readOath, .int p0_readPersons, .int p0_readSkies, .int p0_readOaths, .ref a_p0_text, .int p0_length, .int p0_at, .int p0_at, .int p0_acts, .int p0_next, .ref a_p0_row, .int p0_told, .ref a_p0_toldAt, .ref a_p0_toldWool, .ref a_p0_toldHeard, .long p0_seed, .ref a_p0_isKept, .ref a_p0_kept])), (a_p0_readPerson, .inl (cI, 10, .inl p0_readPerson)), (a_p0_readSky, .inl (cI, 10, .inl p0_readSky)), (a_p0_readOath, .inl (cI, 20, .inl p0_readOath)), (a_p0_text, .inl (cI, 60, .inl p0_text))]) rfl dX7_readPart_247 (fun H locs hW => ?_)
                exact hE _ _ _ _ (p0_readPersons, p0_readSkies, p0_readOaths, p0_at, p0_at, p0_readPerson, p0_readSky, p0_readOath) (sm hf) hW dX7_readPart_250
              · have hf := it_f c_30 hf
                refine lv_aload_n hx hb dX7_readPart_225 rfl (lv_at hl 0 rfl) ?_
                refine lv_dup hx hb dX7_readPart_226 rfl ?_
                refine q_get hB hW 7 in_X7 0 rfl rfl 19 (by decide) fl_78 (v := .int p0_at) rfl dX7_readPart_227 ?_
                refine lv_iconst (v := 1) hx hb dX7_readPart_230 (by decide) ?_
                refine lv_iadd hx hb dX7_readPart_231 ?_
                obtain ⟨w_31, hw_31, hf⟩ := bnd hf
                refine q_nmI hw_31 ?_
                refine q_put hB hW 7 in_X7 tyX7 tyX7_ok nmX7 0 rfl rfl 19 (by decide) fl_78 rfl (by first | rfl | decide) (by first | rfl | decide) (Nat.le_of_ble_eq_true rfl) (ws' := [(a_p0, .inr (7, [.int p0_persons, .int p0_skies, .int p0_oaths, .ref a_p0_kind, .ref a_p0_skyAt, .ref a_p0_skyLoud, .ref a_p0_one, .ref a_p0_other, .ref a_p0_worth, .ref a_p0_hangs, .ref a_p0_now, .ref a_p0_readPerson, .ref a_p0_readSky, .ref a_p0_readOath, .int p0_readPersons, .int p0_readSkies, .int p0_readOaths, .ref a_p0_text, .int p0_length, .int w_31, .int p0_faultAt, .int p0_acts, .int p0_next, .ref a_p0_row, .int p0_told, .ref a_p0_toldAt, .ref a_p0_toldWool, .ref a_p0_toldHeard, .long p0_seed, .ref a_p0_isKept, .ref a_p0_kept])), (a_p0_readPerson, .inl (cI, 10, .inl p0_readPerson)), (a_p0_readSky, .inl (cI, 10, .inl p0_readSky)), (a_p0_readOath, .inl (cI, 20, .inl p0_readOath)), (a_p0_text, .inl (cI, 60, .inl p0_text))]) rfl dX7_readPart_232 (fun H locs hW => ?_)
                refine lv_aload_n hx hb dX7_readPart_235 rfl (lv_at hl 0 rfl) ?_
                obtain ⟨r_32, hr_32, hf⟩ := bnd hf
                refine q_callVV hB hW (ci := 7) (q0 := 0) rfl rfl rfl (As := []) (rest := []) (ws' := [(a_p0, .inr (7, [.int p0_persons, .int p0_skies, .int p0_oaths, .ref a_p0_kind, .ref a_p0_skyAt, .ref a_p0_skyLoud, .ref a_p0_one, .ref a_p0_other, .ref a_p0_worth, .ref a_p0_hangs, .ref a_p0_now, .ref a_p0_readPerson, .ref a_p0_readSky, .ref a_p0_readOath, .int p0_readPersons, .int p0_readSkies, .int r_32.1, .ref a_p0_text, .int p0_length, .int r_32.2.1, .int r_32.2.2.1, .int p0_acts, .int p0_next, .ref a_p0_row, .int p0_told, .ref a_p0_toldAt, .ref a_p0_toldWool, .ref a_p0_toldHeard, .long p0_seed, .ref a_p0_isKept, .ref a_p0_kept])), (a_p0_readPerson, .inl (cI, 10, .inl p0_readPerson)), (a_p0_readSky, .inl (cI, 10, .inl p0_readSky)), (a_p0_readOath, .inl (cI, 20, .inl r_32.2.2.2)), (a_p0_text, .inl (cI, 60, .inl p0_text))]) (c_X7_readSworn l D cI cZ a_p0 a_p0_kind a_p0_skyAt a_p0_skyLoud a_p0_one a_p0_other a_p0_worth a_p0_hangs a_p0_now a_p0_readPerson a_p0_readSky a_p0_readOath a_p0_text a_p0_row a_p0_toldAt a_p0_toldWool a_p0_toldHeard a_p0_isKept a_p0_kept p0_persons p0_skies p0_oaths p0_readPersons p0_readSkies p0_readOaths p0_length w_31 p0_faultAt p0_acts p0_next p0_told p0_seed p0_readOath p0_text r_32 hr_32) (cwV 0 hts gX7_readPart_X7_readSworn rfl rfl rfl (by decide +kernel) ⟨Nat.le_of_ble_eq_true rfl, Nat.le_of_ble_eq_true rfl⟩) [0, 3, 4] rfl rfl rfl rfl rfl hl.1 rfl (Nat.le_of_ble_eq_true rfl) ⟨Nat.le_of_ble_eq_true rfl, Nat.le_of_ble_eq_true rfl⟩ dX7_readPart_236 (fun H locs hW => ?_)
                refine lv_goto (tgt := 250) hx hb dX7_readPart_239 (by decide) ?_
                exact hE _ _ _ _ (p0_readPersons, p0_readSkies, r_32.1, r_32.2.1, r_32.2.2.1, p0_readPerson, p0_readSky, r_32.2.2.2) (sm hf) hW dX7_readPart_250
      · have hf := it_f c_21 hf
        refine lv_aload_n hx hb dX7_readPart_90 rfl (lv_at hl 0 rfl) ?_
        refine lv_dup hx hb dX7_readPart_91 rfl ?_
        refine q_get hB hW 7 in_X7 0 rfl rfl 19 (by decide) fl_78 (v := .int p0_at) rfl dX7_readPart_92 ?_
        refine lv_iconst (v := 1) hx hb dX7_readPart_95 (by decide) ?_
        refine lv_iadd hx hb dX7_readPart_96 ?_
        obtain ⟨w_33, hw_33, hf⟩ := bnd hf
        refine q_nmI hw_33 ?_
        refine q_put hB hW 7 in_X7 tyX7 tyX7_ok nmX7 0 rfl rfl 19 (by decide) fl_78 rfl (by first | rfl | decide) (by first | rfl | decide) (Nat.le_of_ble_eq_true rfl) (ws' := [(a_p0, .inr (7, [.int p0_persons, .int p0_skies, .int p0_oaths, .ref a_p0_kind, .ref a_p0_skyAt, .ref a_p0_skyLoud, .ref a_p0_one, .ref a_p0_other, .ref a_p0_worth, .ref a_p0_hangs, .ref a_p0_now, .ref a_p0_readPerson, .ref a_p0_readSky, .ref a_p0_readOath, .int p0_readPersons, .int p0_readSkies, .int p0_readOaths, .ref a_p0_text, .int p0_length, .int w_33, .int p0_faultAt, .int p0_acts, .int p0_next, .ref a_p0_row, .int p0_told, .ref a_p0_toldAt, .ref a_p0_toldWool, .ref a_p0_toldHeard, .long p0_seed, .ref a_p0_isKept, .ref a_p0_kept])), (a_p0_readPerson, .inl (cI, 10, .inl p0_readPerson)), (a_p0_readSky, .inl (cI, 10, .inl p0_readSky)), (a_p0_readOath, .inl (cI, 20, .inl p0_readOath)), (a_p0_text, .inl (cI, 60, .inl p0_text))]) rfl dX7_readPart_97 (fun H locs hW => ?_)
        refine lv_aload_n hx hb dX7_readPart_100 rfl (lv_at hl 0 rfl) ?_
        refine q_get hB hW 7 in_X7 0 rfl rfl 12 (by decide) fl_37 (v := .ref a_p0_readSky) rfl dX7_readPart_101 ?_
        refine lv_iconst (v := 2) hx hb dX7_readPart_104 (by decide) ?_
        refine lv_aload_n hx hb dX7_readPart_105 rfl (lv_at hl 0 rfl) ?_
        refine q_get hB hW 7 in_X7 0 rfl rfl 15 (by decide) fl_84 (v := .int p0_readSkies) rfl dX7_readPart_106 ?_
        refine lv_imul hx hb dX7_readPart_109 ?_
        refine lv_bipush (v := -9) hx hb dX7_readPart_110 (by decide) ?_
        obtain ⟨r_34, hr_34, hf⟩ := bnd hf
        refine q_iast hB hW 2 rfl hr_34 (ws' := [(a_p0, .inr (7, [.int p0_persons, .int p0_skies, .int p0_oaths, .ref a_p0_kind, .ref a_p0_skyAt, .ref a_p0_skyLoud, .ref a_p0_one, .ref a_p0_other, .ref a_p0_worth, .ref a_p0_hangs, .ref a_p0_now, .ref a_p0_readPerson, .ref a_p0_readSky, .ref a_p0_readOath, .int p0_readPersons, .int p0_readSkies, .int p0_readOaths, .ref a_p0_text, .int p0_length, .int w_33, .int p0_faultAt, .int p0_acts, .int p0_next, .ref a_p0_row, .int p0_told, .ref a_p0_toldAt, .ref a_p0_toldWool, .ref a_p0_toldHeard, .long p0_seed, .ref a_p0_isKept, .ref a_p0_kept])), (a_p0_readPerson, .inl (cI, 10, .inl p0_readPerson)), (a_p0_readSky, .inl (cI, 10, .inl r_34)), (a_p0_readOath, .inl (cI, 20, .inl p0_readOath)), (a_p0_text, .inl (cI, 60, .inl p0_text))]) rfl dX7_readPart_112 (fun H locs hW => ?_)
        refine lv_aload_n hx hb dX7_readPart_113 rfl (lv_at hl 0 rfl) ?_
        refine lv_dup hx hb dX7_readPart_114 rfl ?_
        refine q_get hB hW 7 in_X7 0 rfl rfl 15 (by decide) fl_84 (v := .int p0_readSkies) rfl dX7_readPart_115 ?_
        refine lv_iconst (v := 1) hx hb dX7_readPart_118 (by decide) ?_
        refine lv_iadd hx hb dX7_readPart_119 ?_
        obtain ⟨w_35, hw_35, hf⟩ := bnd hf
        refine q_nmI hw_35 ?_
        refine q_put hB hW 7 in_X7 tyX7 tyX7_ok nmX7 0 rfl rfl 15 (by decide) fl_84 rfl (by first | rfl | decide) (by first | rfl | decide) (Nat.le_of_ble_eq_true rfl) (ws' := [(a_p0, .inr (7, [.int p0_persons, .int p0_skies, .int p0_oaths, .ref a_p0_kind, .ref a_p0_skyAt, .ref a_p0_skyLoud, .ref a_p0_one, .ref a_p0_other, .ref a_p0_worth, .ref a_p0_hangs, .ref a_p0_now, .ref a_p0_readPerson, .ref a_p0_readSky, .ref a_p0_readOath, .int p0_readPersons, .int w_35, .int p0_readOaths, .ref a_p0_text, .int p0_length, .int w_33, .int p0_faultAt, .int p0_acts, .int p0_next, .ref a_p0_row, .int p0_told, .ref a_p0_toldAt, .ref a_p0_toldWool, .ref a_p0_toldHeard, .long p0_seed, .ref a_p0_isKept, .ref a_p0_kept])), (a_p0_readPerson, .inl (cI, 10, .inl p0_readPerson)), (a_p0_readSky, .inl (cI, 10, .inl r_34)), (a_p0_readOath, .inl (cI, 20, .inl p0_readOath)), (a_p0_text, .inl (cI, 60, .inl p0_text))]) rfl dX7_readPart_120 (fun H locs hW => ?_)
        refine lv_goto (tgt := 250) hx hb dX7_readPart_123 (by decide) ?_
        exact hE _ _ _ _ (p0_readPersons, w_35, p0_readOaths, w_33, p0_faultAt, p0_readPerson, r_34, p0_readOath) (sm hf) hW dX7_readPart_250
  · have hf := it_t c_1 hf
    refine lv_aload_n hx hb dX7_readPart_6 rfl (lv_at hl 0 rfl) ?_
    refine q_get hB hW 7 in_X7 0 rfl rfl 14 (by decide) fl_81 (v := .int p0_readPersons) rfl dX7_readPart_7 ?_
    refine lv_iconst (v := 5) hx hb dX7_readPart_10 (by decide) ?_
    refine lv_icmp_ge (tgt := 76) hx hb dX7_readPart_11 (by decide) (fun c_36 => ?_) (fun c_36 => ?_)
    · have hf := it_t c_36 hf
      refine lv_iload_n hx hb dX7_readPart_76 rfl (lv_at hl 1 rfl) ?_
      refine lv_bipush (v := 81) hx hb dX7_readPart_77 (by decide) ?_
      refine lv_icmp_ne (tgt := 126) hx hb dX7_readPart_79 (by decide) (fun c_37 => ?_) (fun c_37 => ?_)
      · have hf := it_f c_37 hf
        refine lv_iload_n hx hb dX7_readPart_126 rfl (lv_at hl 1 rfl) ?_
        refine lv_bipush (v := 67) hx hb dX7_readPart_127 (by decide) ?_
        refine lv_icmp_ne (tgt := 203) hx hb dX7_readPart_129 (by decide) (fun c_38 => ?_) (fun c_38 => ?_)
        · have hf := it_f c_38 hf
          refine lv_iload_n hx hb dX7_readPart_203 rfl (lv_at hl 1 rfl) ?_
          refine lv_bipush (v := 79) hx hb dX7_readPart_204 (by decide) ?_
          refine lv_icmp_ne (tgt := 242) hx hb dX7_readPart_206 (by decide) (fun c_39 => ?_) (fun c_39 => ?_)
          · have hf := it_f c_39 hf
            refine lv_aload_n hx hb dX7_readPart_242 rfl (lv_at hl 0 rfl) ?_
            refine lv_aload_n hx hb dX7_readPart_243 rfl (lv_at hl 0 rfl) ?_
            refine q_get hB hW 7 in_X7 0 rfl rfl 19 (by decide) fl_78 (v := .int p0_at) rfl dX7_readPart_244 ?_
            refine q_put hB hW 7 in_X7 tyX7 tyX7_ok nmX7 0 rfl rfl 20 (by decide) fl_75 rfl (by first | rfl | decide) (by first | rfl | decide) (Nat.le_of_ble_eq_true rfl) (ws' := [(a_p0, .inr (7, [.int p0_persons, .int p0_skies, .int p0_oaths, .ref a_p0_kind, .ref a_p0_skyAt, .ref a_p0_skyLoud, .ref a_p0_one, .ref a_p0_other, .ref a_p0_worth, .ref a_p0_hangs, .ref a_p0_now, .ref a_p0_readPerson, .ref a_p0_readSky, .ref a_p0_readOath, .int p0_readPersons, .int p0_readSkies, .int p0_readOaths, .ref a_p0_text, .int p0_length, .int p0_at, .int p0_at, .int p0_acts, .int p0_next, .ref a_p0_row, .int p0_told, .ref a_p0_toldAt, .ref a_p0_toldWool, .ref a_p0_toldHeard, .long p0_seed, .ref a_p0_isKept, .ref a_p0_kept])), (a_p0_readPerson, .inl (cI, 10, .inl p0_readPerson)), (a_p0_readSky, .inl (cI, 10, .inl p0_readSky)), (a_p0_readOath, .inl (cI, 20, .inl p0_readOath)), (a_p0_text, .inl (cI, 60, .inl p0_text))]) rfl dX7_readPart_247 (fun H locs hW => ?_)
            exact hE _ _ _ _ (p0_readPersons, p0_readSkies, p0_readOaths, p0_at, p0_at, p0_readPerson, p0_readSky, p0_readOath) (sm hf) hW dX7_readPart_250
          · have hf := it_t c_39 hf
            refine lv_aload_n hx hb dX7_readPart_209 rfl (lv_at hl 0 rfl) ?_
            refine q_get hB hW 7 in_X7 0 rfl rfl 16 (by decide) fl_87 (v := .int p0_readOaths) rfl dX7_readPart_210 ?_
            refine lv_iconst (v := 5) hx hb dX7_readPart_213 (by decide) ?_
            refine lv_icmp_ge (tgt := 242) hx hb dX7_readPart_214 (by decide) (fun c_40 => ?_) (fun c_40 => ?_)
            · have hf := it_t c_40 hf
              refine lv_aload_n hx hb dX7_readPart_242 rfl (lv_at hl 0 rfl) ?_
              refine lv_aload_n hx hb dX7_readPart_243 rfl (lv_at hl 0 rfl) ?_
              refine q_get hB hW 7 in_X7 0 rfl rfl 19 (by decide) fl_78 (v := .int p0_at) rfl dX7_readPart_244 ?_
              refine q_put hB hW 7 in_X7 tyX7 tyX7_ok nmX7 0 rfl rfl 20 (by decide) fl_75 rfl (by first | rfl | decide) (by first | rfl | decide) (Nat.le_of_ble_eq_true rfl) (ws' := [(a_p0, .inr (7, [.int p0_persons, .int p0_skies, .int p0_oaths, .ref a_p0_kind, .ref a_p0_skyAt, .ref a_p0_skyLoud, .ref a_p0_one, .ref a_p0_other, .ref a_p0_worth, .ref a_p0_hangs, .ref a_p0_now, .ref a_p0_readPerson, .ref a_p0_readSky, .ref a_p0_readOath, .int p0_readPersons, .int p0_readSkies, .int p0_readOaths, .ref a_p0_text, .int p0_length, .int p0_at, .int p0_at, .int p0_acts, .int p0_next, .ref a_p0_row, .int p0_told, .ref a_p0_toldAt, .ref a_p0_toldWool, .ref a_p0_toldHeard, .long p0_seed, .ref a_p0_isKept, .ref a_p0_kept])), (a_p0_readPerson, .inl (cI, 10, .inl p0_readPerson)), (a_p0_readSky, .inl (cI, 10, .inl p0_readSky)), (a_p0_readOath, .inl (cI, 20, .inl p0_readOath)), (a_p0_text, .inl (cI, 60, .inl p0_text))]) rfl dX7_readPart_247 (fun H locs hW => ?_)
              exact hE _ _ _ _ (p0_readPersons, p0_readSkies, p0_readOaths, p0_at, p0_at, p0_readPerson, p0_readSky, p0_readOath) (sm hf) hW dX7_readPart_250
            · have hf := it_f c_40 hf
              refine lv_aload_n hx hb dX7_readPart_217 rfl (lv_at hl 0 rfl) ?_
              refine q_get hB hW 7 in_X7 0 rfl rfl 14 (by decide) fl_81 (v := .int p0_readPersons) rfl dX7_readPart_218 ?_
              refine lv_iconst (v := 1) hx hb dX7_readPart_221 (by decide) ?_
              refine lv_icmp_le (tgt := 242) hx hb dX7_readPart_222 (by decide) (fun c_41 => ?_) (fun c_41 => ?_)
              · have hf := it_t c_41 hf
                refine lv_aload_n hx hb dX7_readPart_242 rfl (lv_at hl 0 rfl) ?_
                refine lv_aload_n hx hb dX7_readPart_243 rfl (lv_at hl 0 rfl) ?_
                refine q_get hB hW 7 in_X7 0 rfl rfl 19 (by decide) fl_78 (v := .int p0_at) rfl dX7_readPart_244 ?_
                refine q_put hB hW 7 in_X7 tyX7 tyX7_ok nmX7 0 rfl rfl 20 (by decide) fl_75 rfl (by first | rfl | decide) (by first | rfl | decide) (Nat.le_of_ble_eq_true rfl) (ws' := [(a_p0, .inr (7, [.int p0_persons, .int p0_skies, .int p0_oaths, .ref a_p0_kind, .ref a_p0_skyAt, .ref a_p0_skyLoud, .ref a_p0_one, .ref a_p0_other, .ref a_p0_worth, .ref a_p0_hangs, .ref a_p0_now, .ref a_p0_readPerson, .ref a_p0_readSky, .ref a_p0_readOath, .int p0_readPersons, .int p0_readSkies, .int p0_readOaths, .ref a_p0_text, .int p0_length, .int p0_at, .int p0_at, .int p0_acts, .int p0_next, .ref a_p0_row, .int p0_told, .ref a_p0_toldAt, .ref a_p0_toldWool, .ref a_p0_toldHeard, .long p0_seed, .ref a_p0_isKept, .ref a_p0_kept])), (a_p0_readPerson, .inl (cI, 10, .inl p0_readPerson)), (a_p0_readSky, .inl (cI, 10, .inl p0_readSky)), (a_p0_readOath, .inl (cI, 20, .inl p0_readOath)), (a_p0_text, .inl (cI, 60, .inl p0_text))]) rfl dX7_readPart_247 (fun H locs hW => ?_)
                exact hE _ _ _ _ (p0_readPersons, p0_readSkies, p0_readOaths, p0_at, p0_at, p0_readPerson, p0_readSky, p0_readOath) (sm hf) hW dX7_readPart_250
              · have hf := it_f c_41 hf
                refine lv_aload_n hx hb dX7_readPart_225 rfl (lv_at hl 0 rfl) ?_
                refine lv_dup hx hb dX7_readPart_226 rfl ?_
                refine q_get hB hW 7 in_X7 0 rfl rfl 19 (by decide) fl_78 (v := .int p0_at) rfl dX7_readPart_227 ?_
                refine lv_iconst (v := 1) hx hb dX7_readPart_230 (by decide) ?_
                refine lv_iadd hx hb dX7_readPart_231 ?_
                obtain ⟨w_42, hw_42, hf⟩ := bnd hf
                refine q_nmI hw_42 ?_
                refine q_put hB hW 7 in_X7 tyX7 tyX7_ok nmX7 0 rfl rfl 19 (by decide) fl_78 rfl (by first | rfl | decide) (by first | rfl | decide) (Nat.le_of_ble_eq_true rfl) (ws' := [(a_p0, .inr (7, [.int p0_persons, .int p0_skies, .int p0_oaths, .ref a_p0_kind, .ref a_p0_skyAt, .ref a_p0_skyLoud, .ref a_p0_one, .ref a_p0_other, .ref a_p0_worth, .ref a_p0_hangs, .ref a_p0_now, .ref a_p0_readPerson, .ref a_p0_readSky, .ref a_p0_readOath, .int p0_readPersons, .int p0_readSkies, .int p0_readOaths, .ref a_p0_text, .int p0_length, .int w_42, .int p0_faultAt, .int p0_acts, .int p0_next, .ref a_p0_row, .int p0_told, .ref a_p0_toldAt, .ref a_p0_toldWool, .ref a_p0_toldHeard, .long p0_seed, .ref a_p0_isKept, .ref a_p0_kept])), (a_p0_readPerson, .inl (cI, 10, .inl p0_readPerson)), (a_p0_readSky, .inl (cI, 10, .inl p0_readSky)), (a_p0_readOath, .inl (cI, 20, .inl p0_readOath)), (a_p0_text, .inl (cI, 60, .inl p0_text))]) rfl dX7_readPart_232 (fun H locs hW => ?_)
                refine lv_aload_n hx hb dX7_readPart_235 rfl (lv_at hl 0 rfl) ?_
                obtain ⟨r_43, hr_43, hf⟩ := bnd hf
                refine q_callVV hB hW (ci := 7) (q0 := 0) rfl rfl rfl (As := []) (rest := []) (ws' := [(a_p0, .inr (7, [.int p0_persons, .int p0_skies, .int p0_oaths, .ref a_p0_kind, .ref a_p0_skyAt, .ref a_p0_skyLoud, .ref a_p0_one, .ref a_p0_other, .ref a_p0_worth, .ref a_p0_hangs, .ref a_p0_now, .ref a_p0_readPerson, .ref a_p0_readSky, .ref a_p0_readOath, .int p0_readPersons, .int p0_readSkies, .int r_43.1, .ref a_p0_text, .int p0_length, .int r_43.2.1, .int r_43.2.2.1, .int p0_acts, .int p0_next, .ref a_p0_row, .int p0_told, .ref a_p0_toldAt, .ref a_p0_toldWool, .ref a_p0_toldHeard, .long p0_seed, .ref a_p0_isKept, .ref a_p0_kept])), (a_p0_readPerson, .inl (cI, 10, .inl p0_readPerson)), (a_p0_readSky, .inl (cI, 10, .inl p0_readSky)), (a_p0_readOath, .inl (cI, 20, .inl r_43.2.2.2)), (a_p0_text, .inl (cI, 60, .inl p0_text))]) (c_X7_readSworn l D cI cZ a_p0 a_p0_kind a_p0_skyAt a_p0_skyLoud a_p0_one a_p0_other a_p0_worth a_p0_hangs a_p0_now a_p0_readPerson a_p0_readSky a_p0_readOath a_p0_text a_p0_row a_p0_toldAt a_p0_toldWool a_p0_toldHeard a_p0_isKept a_p0_kept p0_persons p0_skies p0_oaths p0_readPersons p0_readSkies p0_readOaths p0_length w_42 p0_faultAt p0_acts p0_next p0_told p0_seed p0_readOath p0_text r_43 hr_43) (cwV 0 hts gX7_readPart_X7_readSworn rfl rfl rfl (by decide +kernel) ⟨Nat.le_of_ble_eq_true rfl, Nat.le_of_ble_eq_true rfl⟩) [0, 3, 4] rfl rfl rfl rfl rfl hl.1 rfl (Nat.le_of_ble_eq_true rfl) ⟨Nat.le_of_ble_eq_true rfl, Nat.le_of_ble_eq_true rfl⟩ dX7_readPart_236 (fun H locs hW => ?_)
                refine lv_goto (tgt := 250) hx hb dX7_readPart_239 (by decide) ?_
                exact hE _ _ _ _ (p0_readPersons, p0_readSkies, r_43.1, r_43.2.1, r_43.2.2.1, p0_readPerson, p0_readSky, r_43.2.2.2) (sm hf) hW dX7_readPart_250
        · have hf := it_t c_38 hf
          refine lv_aload_n hx hb dX7_readPart_132 rfl (lv_at hl 0 rfl) ?_
          refine q_get hB hW 7 in_X7 0 rfl rfl 15 (by decide) fl_84 (v := .int p0_readSkies) rfl dX7_readPart_133 ?_
          refine lv_iconst (v := 5) hx hb dX7_readPart_136 (by decide) ?_
          refine lv_icmp_ge (tgt := 203) hx hb dX7_readPart_137 (by decide) (fun c_44 => ?_) (fun c_44 => ?_)
          · have hf := it_t c_44 hf
            refine lv_iload_n hx hb dX7_readPart_203 rfl (lv_at hl 1 rfl) ?_
            refine lv_bipush (v := 79) hx hb dX7_readPart_204 (by decide) ?_
            refine lv_icmp_ne (tgt := 242) hx hb dX7_readPart_206 (by decide) (fun c_45 => ?_) (fun c_45 => ?_)
            · have hf := it_f c_45 hf
              refine lv_aload_n hx hb dX7_readPart_242 rfl (lv_at hl 0 rfl) ?_
              refine lv_aload_n hx hb dX7_readPart_243 rfl (lv_at hl 0 rfl) ?_
              refine q_get hB hW 7 in_X7 0 rfl rfl 19 (by decide) fl_78 (v := .int p0_at) rfl dX7_readPart_244 ?_
              refine q_put hB hW 7 in_X7 tyX7 tyX7_ok nmX7 0 rfl rfl 20 (by decide) fl_75 rfl (by first | rfl | decide) (by first | rfl | decide) (Nat.le_of_ble_eq_true rfl) (ws' := [(a_p0, .inr (7, [.int p0_persons, .int p0_skies, .int p0_oaths, .ref a_p0_kind, .ref a_p0_skyAt, .ref a_p0_skyLoud, .ref a_p0_one, .ref a_p0_other, .ref a_p0_worth, .ref a_p0_hangs, .ref a_p0_now, .ref a_p0_readPerson, .ref a_p0_readSky, .ref a_p0_readOath, .int p0_readPersons, .int p0_readSkies, .int p0_readOaths, .ref a_p0_text, .int p0_length, .int p0_at, .int p0_at, .int p0_acts, .int p0_next, .ref a_p0_row, .int p0_told, .ref a_p0_toldAt, .ref a_p0_toldWool, .ref a_p0_toldHeard, .long p0_seed, .ref a_p0_isKept, .ref a_p0_kept])), (a_p0_readPerson, .inl (cI, 10, .inl p0_readPerson)), (a_p0_readSky, .inl (cI, 10, .inl p0_readSky)), (a_p0_readOath, .inl (cI, 20, .inl p0_readOath)), (a_p0_text, .inl (cI, 60, .inl p0_text))]) rfl dX7_readPart_247 (fun H locs hW => ?_)
              exact hE _ _ _ _ (p0_readPersons, p0_readSkies, p0_readOaths, p0_at, p0_at, p0_readPerson, p0_readSky, p0_readOath) (sm hf) hW dX7_readPart_250
            · have hf := it_t c_45 hf
              refine lv_aload_n hx hb dX7_readPart_209 rfl (lv_at hl 0 rfl) ?_
              refine q_get hB hW 7 in_X7 0 rfl rfl 16 (by decide) fl_87 (v := .int p0_readOaths) rfl dX7_readPart_210 ?_
              refine lv_iconst (v := 5) hx hb dX7_readPart_213 (by decide) ?_
              refine lv_icmp_ge (tgt := 242) hx hb dX7_readPart_214 (by decide) (fun c_46 => ?_) (fun c_46 => ?_)
              · have hf := it_t c_46 hf
                refine lv_aload_n hx hb dX7_readPart_242 rfl (lv_at hl 0 rfl) ?_
                refine lv_aload_n hx hb dX7_readPart_243 rfl (lv_at hl 0 rfl) ?_
                refine q_get hB hW 7 in_X7 0 rfl rfl 19 (by decide) fl_78 (v := .int p0_at) rfl dX7_readPart_244 ?_
                refine q_put hB hW 7 in_X7 tyX7 tyX7_ok nmX7 0 rfl rfl 20 (by decide) fl_75 rfl (by first | rfl | decide) (by first | rfl | decide) (Nat.le_of_ble_eq_true rfl) (ws' := [(a_p0, .inr (7, [.int p0_persons, .int p0_skies, .int p0_oaths, .ref a_p0_kind, .ref a_p0_skyAt, .ref a_p0_skyLoud, .ref a_p0_one, .ref a_p0_other, .ref a_p0_worth, .ref a_p0_hangs, .ref a_p0_now, .ref a_p0_readPerson, .ref a_p0_readSky, .ref a_p0_readOath, .int p0_readPersons, .int p0_readSkies, .int p0_readOaths, .ref a_p0_text, .int p0_length, .int p0_at, .int p0_at, .int p0_acts, .int p0_next, .ref a_p0_row, .int p0_told, .ref a_p0_toldAt, .ref a_p0_toldWool, .ref a_p0_toldHeard, .long p0_seed, .ref a_p0_isKept, .ref a_p0_kept])), (a_p0_readPerson, .inl (cI, 10, .inl p0_readPerson)), (a_p0_readSky, .inl (cI, 10, .inl p0_readSky)), (a_p0_readOath, .inl (cI, 20, .inl p0_readOath)), (a_p0_text, .inl (cI, 60, .inl p0_text))]) rfl dX7_readPart_247 (fun H locs hW => ?_)
                exact hE _ _ _ _ (p0_readPersons, p0_readSkies, p0_readOaths, p0_at, p0_at, p0_readPerson, p0_readSky, p0_readOath) (sm hf) hW dX7_readPart_250
              · have hf := it_f c_46 hf
                refine lv_aload_n hx hb dX7_readPart_217 rfl (lv_at hl 0 rfl) ?_
                refine q_get hB hW 7 in_X7 0 rfl rfl 14 (by decide) fl_81 (v := .int p0_readPersons) rfl dX7_readPart_218 ?_
                refine lv_iconst (v := 1) hx hb dX7_readPart_221 (by decide) ?_
                refine lv_icmp_le (tgt := 242) hx hb dX7_readPart_222 (by decide) (fun c_47 => ?_) (fun c_47 => ?_)
                · have hf := it_t c_47 hf
                  refine lv_aload_n hx hb dX7_readPart_242 rfl (lv_at hl 0 rfl) ?_
                  refine lv_aload_n hx hb dX7_readPart_243 rfl (lv_at hl 0 rfl) ?_
                  refine q_get hB hW 7 in_X7 0 rfl rfl 19 (by decide) fl_78 (v := .int p0_at) rfl dX7_readPart_244 ?_
                  refine q_put hB hW 7 in_X7 tyX7 tyX7_ok nmX7 0 rfl rfl 20 (by decide) fl_75 rfl (by first | rfl | decide) (by first | rfl | decide) (Nat.le_of_ble_eq_true rfl) (ws' := [(a_p0, .inr (7, [.int p0_persons, .int p0_skies, .int p0_oaths, .ref a_p0_kind, .ref a_p0_skyAt, .ref a_p0_skyLoud, .ref a_p0_one, .ref a_p0_other, .ref a_p0_worth, .ref a_p0_hangs, .ref a_p0_now, .ref a_p0_readPerson, .ref a_p0_readSky, .ref a_p0_readOath, .int p0_readPersons, .int p0_readSkies, .int p0_readOaths, .ref a_p0_text, .int p0_length, .int p0_at, .int p0_at, .int p0_acts, .int p0_next, .ref a_p0_row, .int p0_told, .ref a_p0_toldAt, .ref a_p0_toldWool, .ref a_p0_toldHeard, .long p0_seed, .ref a_p0_isKept, .ref a_p0_kept])), (a_p0_readPerson, .inl (cI, 10, .inl p0_readPerson)), (a_p0_readSky, .inl (cI, 10, .inl p0_readSky)), (a_p0_readOath, .inl (cI, 20, .inl p0_readOath)), (a_p0_text, .inl (cI, 60, .inl p0_text))]) rfl dX7_readPart_247 (fun H locs hW => ?_)
                  exact hE _ _ _ _ (p0_readPersons, p0_readSkies, p0_readOaths, p0_at, p0_at, p0_readPerson, p0_readSky, p0_readOath) (sm hf) hW dX7_readPart_250
                · have hf := it_f c_47 hf
                  refine lv_aload_n hx hb dX7_readPart_225 rfl (lv_at hl 0 rfl) ?_
                  refine lv_dup hx hb dX7_readPart_226 rfl ?_
                  refine q_get hB hW 7 in_X7 0 rfl rfl 19 (by decide) fl_78 (v := .int p0_at) rfl dX7_readPart_227 ?_
                  refine lv_iconst (v := 1) hx hb dX7_readPart_230 (by decide) ?_
                  refine lv_iadd hx hb dX7_readPart_231 ?_
                  obtain ⟨w_48, hw_48, hf⟩ := bnd hf
                  refine q_nmI hw_48 ?_
                  refine q_put hB hW 7 in_X7 tyX7 tyX7_ok nmX7 0 rfl rfl 19 (by decide) fl_78 rfl (by first | rfl | decide) (by first | rfl | decide) (Nat.le_of_ble_eq_true rfl) (ws' := [(a_p0, .inr (7, [.int p0_persons, .int p0_skies, .int p0_oaths, .ref a_p0_kind, .ref a_p0_skyAt, .ref a_p0_skyLoud, .ref a_p0_one, .ref a_p0_other, .ref a_p0_worth, .ref a_p0_hangs, .ref a_p0_now, .ref a_p0_readPerson, .ref a_p0_readSky, .ref a_p0_readOath, .int p0_readPersons, .int p0_readSkies, .int p0_readOaths, .ref a_p0_text, .int p0_length, .int w_48, .int p0_faultAt, .int p0_acts, .int p0_next, .ref a_p0_row, .int p0_told, .ref a_p0_toldAt, .ref a_p0_toldWool, .ref a_p0_toldHeard, .long p0_seed, .ref a_p0_isKept, .ref a_p0_kept])), (a_p0_readPerson, .inl (cI, 10, .inl p0_readPerson)), (a_p0_readSky, .inl (cI, 10, .inl p0_readSky)), (a_p0_readOath, .inl (cI, 20, .inl p0_readOath)), (a_p0_text, .inl (cI, 60, .inl p0_text))]) rfl dX7_readPart_232 (fun H locs hW => ?_)
                  refine lv_aload_n hx hb dX7_readPart_235 rfl (lv_at hl 0 rfl) ?_
                  obtain ⟨r_49, hr_49, hf⟩ := bnd hf
                  refine q_callVV hB hW (ci := 7) (q0 := 0) rfl rfl rfl (As := []) (rest := []) (ws' := [(a_p0, .inr (7, [.int p0_persons, .int p0_skies, .int p0_oaths, .ref a_p0_kind, .ref a_p0_skyAt, .ref a_p0_skyLoud, .ref a_p0_one, .ref a_p0_other, .ref a_p0_worth, .ref a_p0_hangs, .ref a_p0_now, .ref a_p0_readPerson, .ref a_p0_readSky, .ref a_p0_readOath, .int p0_readPersons, .int p0_readSkies, .int r_49.1, .ref a_p0_text, .int p0_length, .int r_49.2.1, .int r_49.2.2.1, .int p0_acts, .int p0_next, .ref a_p0_row, .int p0_told, .ref a_p0_toldAt, .ref a_p0_toldWool, .ref a_p0_toldHeard, .long p0_seed, .ref a_p0_isKept, .ref a_p0_kept])), (a_p0_readPerson, .inl (cI, 10, .inl p0_readPerson)), (a_p0_readSky, .inl (cI, 10, .inl p0_readSky)), (a_p0_readOath, .inl (cI, 20, .inl r_49.2.2.2)), (a_p0_text, .inl (cI, 60, .inl p0_text))]) (c_X7_readSworn l D cI cZ a_p0 a_p0_kind a_p0_skyAt a_p0_skyLoud a_p0_one a_p0_other a_p0_worth a_p0_hangs a_p0_now a_p0_readPerson a_p0_readSky a_p0_readOath a_p0_text a_p0_row a_p0_toldAt a_p0_toldWool a_p0_toldHeard a_p0_isKept a_p0_kept p0_persons p0_skies p0_oaths p0_readPersons p0_readSkies p0_readOaths p0_length w_48 p0_faultAt p0_acts p0_next p0_told p0_seed p0_readOath p0_text r_49 hr_49) (cwV 0 hts gX7_readPart_X7_readSworn rfl rfl rfl (by decide +kernel) ⟨Nat.le_of_ble_eq_true rfl, Nat.le_of_ble_eq_true rfl⟩) [0, 3, 4] rfl rfl rfl rfl rfl hl.1 rfl (Nat.le_of_ble_eq_true rfl) ⟨Nat.le_of_ble_eq_true rfl, Nat.le_of_ble_eq_true rfl⟩ dX7_readPart_236 (fun H locs hW => ?_)
                  refine lv_goto (tgt := 250) hx hb dX7_readPart_239 (by decide) ?_
                  exact hE _ _ _ _ (p0_readPersons, p0_readSkies, r_49.1, r_49.2.1, r_49.2.2.1, p0_readPerson, p0_readSky, r_49.2.2.2) (sm hf) hW dX7_readPart_250
          · have hf := it_f c_44 hf
            refine lv_aload_n hx hb dX7_readPart_140 rfl (lv_at hl 0 rfl) ?_
            refine lv_dup hx hb dX7_readPart_141 rfl ?_
            refine q_get hB hW 7 in_X7 0 rfl rfl 19 (by decide) fl_78 (v := .int p0_at) rfl dX7_readPart_142 ?_
            refine lv_iconst (v := 1) hx hb dX7_readPart_145 (by decide) ?_
            refine lv_iadd hx hb dX7_readPart_146 ?_
            obtain ⟨w_50, hw_50, hf⟩ := bnd hf
            refine q_nmI hw_50 ?_
            refine q_put hB hW 7 in_X7 tyX7 tyX7_ok nmX7 0 rfl rfl 19 (by decide) fl_78 rfl (by first | rfl | decide) (by first | rfl | decide) (Nat.le_of_ble_eq_true rfl) (ws' := [(a_p0, .inr (7, [.int p0_persons, .int p0_skies, .int p0_oaths, .ref a_p0_kind, .ref a_p0_skyAt, .ref a_p0_skyLoud, .ref a_p0_one, .ref a_p0_other, .ref a_p0_worth, .ref a_p0_hangs, .ref a_p0_now, .ref a_p0_readPerson, .ref a_p0_readSky, .ref a_p0_readOath, .int p0_readPersons, .int p0_readSkies, .int p0_readOaths, .ref a_p0_text, .int p0_length, .int w_50, .int p0_faultAt, .int p0_acts, .int p0_next, .ref a_p0_row, .int p0_told, .ref a_p0_toldAt, .ref a_p0_toldWool, .ref a_p0_toldHeard, .long p0_seed, .ref a_p0_isKept, .ref a_p0_kept])), (a_p0_readPerson, .inl (cI, 10, .inl p0_readPerson)), (a_p0_readSky, .inl (cI, 10, .inl p0_readSky)), (a_p0_readOath, .inl (cI, 20, .inl p0_readOath)), (a_p0_text, .inl (cI, 60, .inl p0_text))]) rfl dX7_readPart_147 (fun H locs hW => ?_)
            refine lv_aload_n hx hb dX7_readPart_150 rfl (lv_at hl 0 rfl) ?_
            refine q_get hB hW 7 in_X7 0 rfl rfl 12 (by decide) fl_37 (v := .ref a_p0_readSky) rfl dX7_readPart_151 ?_
            refine lv_iconst (v := 2) hx hb dX7_readPart_154 (by decide) ?_
            refine lv_aload_n hx hb dX7_readPart_155 rfl (lv_at hl 0 rfl) ?_
            refine q_get hB hW 7 in_X7 0 rfl rfl 15 (by decide) fl_84 (v := .int p0_readSkies) rfl dX7_readPart_156 ?_
            refine lv_imul hx hb dX7_readPart_159 ?_
            refine lv_aload_n hx hb dX7_readPart_160 rfl (lv_at hl 0 rfl) ?_
            refine lv_bipush (v := 9) hx hb dX7_readPart_161 (by decide) ?_
            refine lv_bipush (v := -9) hx hb dX7_readPart_163 (by decide) ?_
            obtain ⟨r_51, hr_51, hf⟩ := bnd hf
            refine q_callVI hB hW (ci := 7) (q0 := 0) rfl rfl rfl (As := [.int (9 : Int32), .int (-9 : Int32)]) (rest := [.int ((2 : Int32) * p0_readSkies), .ref a_p0_readSky]) (ws' := [(a_p0, .inr (7, [.int p0_persons, .int p0_skies, .int p0_oaths, .ref a_p0_kind, .ref a_p0_skyAt, .ref a_p0_skyLoud, .ref a_p0_one, .ref a_p0_other, .ref a_p0_worth, .ref a_p0_hangs, .ref a_p0_now, .ref a_p0_readPerson, .ref a_p0_readSky, .ref a_p0_readOath, .int p0_readPersons, .int p0_readSkies, .int p0_readOaths, .ref a_p0_text, .int p0_length, .int r_51.2.1, .int r_51.2.2, .int p0_acts, .int p0_next, .ref a_p0_row, .int p0_told, .ref a_p0_toldAt, .ref a_p0_toldWool, .ref a_p0_toldHeard, .long p0_seed, .ref a_p0_isKept, .ref a_p0_kept])), (a_p0_readPerson, .inl (cI, 10, .inl p0_readPerson)), (a_p0_readSky, .inl (cI, 10, .inl p0_readSky)), (a_p0_readOath, .inl (cI, 20, .inl p0_readOath)), (a_p0_text, .inl (cI, 60, .inl p0_text))]) (c_X7_figureOf l D cI cZ a_p0 a_p0_kind a_p0_skyAt a_p0_skyLoud a_p0_one a_p0_other a_p0_worth a_p0_hangs a_p0_now a_p0_readPerson a_p0_readSky a_p0_readOath a_p0_text a_p0_row a_p0_toldAt a_p0_toldWool a_p0_toldHeard a_p0_isKept a_p0_kept p0_persons p0_skies p0_oaths p0_readPersons p0_readSkies p0_readOaths p0_length w_50 p0_faultAt p0_acts p0_next p0_told p0_seed p0_text (9 : Int32) (-9 : Int32) r_51 hr_51) (cwV 2 hts gX7_readPart_X7_figureOf rfl rfl rfl (by decide +kernel) ⟨Nat.le_of_ble_eq_true rfl, Nat.le_of_ble_eq_true rfl⟩) [0, 4] rfl rfl rfl rfl rfl hl.1 rfl (Nat.le_of_ble_eq_true rfl) ⟨Nat.le_of_ble_eq_true rfl, Nat.le_of_ble_eq_true rfl⟩ dX7_readPart_165 (fun H locs hW => ?_)
            obtain ⟨r_52, hr_52, hf⟩ := bnd hf
            refine q_iast hB hW 2 rfl hr_52 (ws' := [(a_p0, .inr (7, [.int p0_persons, .int p0_skies, .int p0_oaths, .ref a_p0_kind, .ref a_p0_skyAt, .ref a_p0_skyLoud, .ref a_p0_one, .ref a_p0_other, .ref a_p0_worth, .ref a_p0_hangs, .ref a_p0_now, .ref a_p0_readPerson, .ref a_p0_readSky, .ref a_p0_readOath, .int p0_readPersons, .int p0_readSkies, .int p0_readOaths, .ref a_p0_text, .int p0_length, .int r_51.2.1, .int r_51.2.2, .int p0_acts, .int p0_next, .ref a_p0_row, .int p0_told, .ref a_p0_toldAt, .ref a_p0_toldWool, .ref a_p0_toldHeard, .long p0_seed, .ref a_p0_isKept, .ref a_p0_kept])), (a_p0_readPerson, .inl (cI, 10, .inl p0_readPerson)), (a_p0_readSky, .inl (cI, 10, .inl r_52)), (a_p0_readOath, .inl (cI, 20, .inl p0_readOath)), (a_p0_text, .inl (cI, 60, .inl p0_text))]) rfl dX7_readPart_168 (fun H locs hW => ?_)
            refine lv_aload_n hx hb dX7_readPart_169 rfl (lv_at hl 0 rfl) ?_
            refine q_get hB hW 7 in_X7 0 rfl rfl 12 (by decide) fl_37 (v := .ref a_p0_readSky) rfl dX7_readPart_170 ?_
            refine lv_iconst (v := 2) hx hb dX7_readPart_173 (by decide) ?_
            refine lv_aload_n hx hb dX7_readPart_174 rfl (lv_at hl 0 rfl) ?_
            refine q_get hB hW 7 in_X7 0 rfl rfl 15 (by decide) fl_84 (v := .int p0_readSkies) rfl dX7_readPart_175 ?_
            refine lv_imul hx hb dX7_readPart_178 ?_
            refine lv_iconst (v := 1) hx hb dX7_readPart_179 (by decide) ?_
            refine lv_iadd hx hb dX7_readPart_180 ?_
            refine lv_aload_n hx hb dX7_readPart_181 rfl (lv_at hl 0 rfl) ?_
            refine lv_bipush (v := 9) hx hb dX7_readPart_182 (by decide) ?_
            refine lv_bipush (v := -9) hx hb dX7_readPart_184 (by decide) ?_
            obtain ⟨r_53, hr_53, hf⟩ := bnd hf
            refine q_callVI hB hW (ci := 7) (q0 := 0) rfl rfl rfl (As := [.int (9 : Int32), .int (-9 : Int32)]) (rest := [.int (((2 : Int32) * p0_readSkies) + (1 : Int32)), .ref a_p0_readSky]) (ws' := [(a_p0, .inr (7, [.int p0_persons, .int p0_skies, .int p0_oaths, .ref a_p0_kind, .ref a_p0_skyAt, .ref a_p0_skyLoud, .ref a_p0_one, .ref a_p0_other, .ref a_p0_worth, .ref a_p0_hangs, .ref a_p0_now, .ref a_p0_readPerson, .ref a_p0_readSky, .ref a_p0_readOath, .int p0_readPersons, .int p0_readSkies, .int p0_readOaths, .ref a_p0_text, .int p0_length, .int r_53.2.1, .int r_53.2.2, .int p0_acts, .int p0_next, .ref a_p0_row, .int p0_told, .ref a_p0_toldAt, .ref a_p0_toldWool, .ref a_p0_toldHeard, .long p0_seed, .ref a_p0_isKept, .ref a_p0_kept])), (a_p0_readPerson, .inl (cI, 10, .inl p0_readPerson)), (a_p0_readSky, .inl (cI, 10, .inl r_52)), (a_p0_readOath, .inl (cI, 20, .inl p0_readOath)), (a_p0_text, .inl (cI, 60, .inl p0_text))]) (c_X7_figureOf l D cI cZ a_p0 a_p0_kind a_p0_skyAt a_p0_skyLoud a_p0_one a_p0_other a_p0_worth a_p0_hangs a_p0_now a_p0_readPerson a_p0_readSky a_p0_readOath a_p0_text a_p0_row a_p0_toldAt a_p0_toldWool a_p0_toldHeard a_p0_isKept a_p0_kept p0_persons p0_skies p0_oaths p0_readPersons p0_readSkies p0_readOaths p0_length r_51.2.1 r_51.2.2 p0_acts p0_next p0_told p0_seed p0_text (9 : Int32) (-9 : Int32) r_53 hr_53) (cwV 2 hts gX7_readPart_X7_figureOf rfl rfl rfl (by decide +kernel) ⟨Nat.le_of_ble_eq_true rfl, Nat.le_of_ble_eq_true rfl⟩) [0, 4] rfl rfl rfl rfl rfl hl.1 rfl (Nat.le_of_ble_eq_true rfl) ⟨Nat.le_of_ble_eq_true rfl, Nat.le_of_ble_eq_true rfl⟩ dX7_readPart_186 (fun H locs hW => ?_)
            obtain ⟨r_54, hr_54, hf⟩ := bnd hf
            refine q_iast hB hW 2 rfl hr_54 (ws' := [(a_p0, .inr (7, [.int p0_persons, .int p0_skies, .int p0_oaths, .ref a_p0_kind, .ref a_p0_skyAt, .ref a_p0_skyLoud, .ref a_p0_one, .ref a_p0_other, .ref a_p0_worth, .ref a_p0_hangs, .ref a_p0_now, .ref a_p0_readPerson, .ref a_p0_readSky, .ref a_p0_readOath, .int p0_readPersons, .int p0_readSkies, .int p0_readOaths, .ref a_p0_text, .int p0_length, .int r_53.2.1, .int r_53.2.2, .int p0_acts, .int p0_next, .ref a_p0_row, .int p0_told, .ref a_p0_toldAt, .ref a_p0_toldWool, .ref a_p0_toldHeard, .long p0_seed, .ref a_p0_isKept, .ref a_p0_kept])), (a_p0_readPerson, .inl (cI, 10, .inl p0_readPerson)), (a_p0_readSky, .inl (cI, 10, .inl r_54)), (a_p0_readOath, .inl (cI, 20, .inl p0_readOath)), (a_p0_text, .inl (cI, 60, .inl p0_text))]) rfl dX7_readPart_189 (fun H locs hW => ?_)
            refine lv_aload_n hx hb dX7_readPart_190 rfl (lv_at hl 0 rfl) ?_
            refine lv_dup hx hb dX7_readPart_191 rfl ?_
            refine q_get hB hW 7 in_X7 0 rfl rfl 15 (by decide) fl_84 (v := .int p0_readSkies) rfl dX7_readPart_192 ?_
            refine lv_iconst (v := 1) hx hb dX7_readPart_195 (by decide) ?_
            refine lv_iadd hx hb dX7_readPart_196 ?_
            obtain ⟨w_55, hw_55, hf⟩ := bnd hf
            refine q_nmI hw_55 ?_
            refine q_put hB hW 7 in_X7 tyX7 tyX7_ok nmX7 0 rfl rfl 15 (by decide) fl_84 rfl (by first | rfl | decide) (by first | rfl | decide) (Nat.le_of_ble_eq_true rfl) (ws' := [(a_p0, .inr (7, [.int p0_persons, .int p0_skies, .int p0_oaths, .ref a_p0_kind, .ref a_p0_skyAt, .ref a_p0_skyLoud, .ref a_p0_one, .ref a_p0_other, .ref a_p0_worth, .ref a_p0_hangs, .ref a_p0_now, .ref a_p0_readPerson, .ref a_p0_readSky, .ref a_p0_readOath, .int p0_readPersons, .int w_55, .int p0_readOaths, .ref a_p0_text, .int p0_length, .int r_53.2.1, .int r_53.2.2, .int p0_acts, .int p0_next, .ref a_p0_row, .int p0_told, .ref a_p0_toldAt, .ref a_p0_toldWool, .ref a_p0_toldHeard, .long p0_seed, .ref a_p0_isKept, .ref a_p0_kept])), (a_p0_readPerson, .inl (cI, 10, .inl p0_readPerson)), (a_p0_readSky, .inl (cI, 10, .inl r_54)), (a_p0_readOath, .inl (cI, 20, .inl p0_readOath)), (a_p0_text, .inl (cI, 60, .inl p0_text))]) rfl dX7_readPart_197 (fun H locs hW => ?_)
            refine lv_goto (tgt := 250) hx hb dX7_readPart_200 (by decide) ?_
            exact hE _ _ _ _ (p0_readPersons, w_55, p0_readOaths, r_53.2.1, r_53.2.2, p0_readPerson, r_54, p0_readOath) (sm hf) hW dX7_readPart_250
      · have hf := it_t c_37 hf
        refine lv_aload_n hx hb dX7_readPart_82 rfl (lv_at hl 0 rfl) ?_
        refine q_get hB hW 7 in_X7 0 rfl rfl 15 (by decide) fl_84 (v := .int p0_readSkies) rfl dX7_readPart_83 ?_
        refine lv_iconst (v := 5) hx hb dX7_readPart_86 (by decide) ?_
        refine lv_icmp_ge (tgt := 126) hx hb dX7_readPart_87 (by decide) (fun c_56 => ?_) (fun c_56 => ?_)
        · have hf := it_t c_56 hf
          refine lv_iload_n hx hb dX7_readPart_126 rfl (lv_at hl 1 rfl) ?_
          refine lv_bipush (v := 67) hx hb dX7_readPart_127 (by decide) ?_
          refine lv_icmp_ne (tgt := 203) hx hb dX7_readPart_129 (by decide) (fun c_57 => ?_) (fun c_57 => ?_)
          · have hf := it_f c_57 hf
            refine lv_iload_n hx hb dX7_readPart_203 rfl (lv_at hl 1 rfl) ?_
            refine lv_bipush (v := 79) hx hb dX7_readPart_204 (by decide) ?_
            refine lv_icmp_ne (tgt := 242) hx hb dX7_readPart_206 (by decide) (fun c_58 => ?_) (fun c_58 => ?_)
            · have hf := it_f c_58 hf
              refine lv_aload_n hx hb dX7_readPart_242 rfl (lv_at hl 0 rfl) ?_
              refine lv_aload_n hx hb dX7_readPart_243 rfl (lv_at hl 0 rfl) ?_
              refine q_get hB hW 7 in_X7 0 rfl rfl 19 (by decide) fl_78 (v := .int p0_at) rfl dX7_readPart_244 ?_
              refine q_put hB hW 7 in_X7 tyX7 tyX7_ok nmX7 0 rfl rfl 20 (by decide) fl_75 rfl (by first | rfl | decide) (by first | rfl | decide) (Nat.le_of_ble_eq_true rfl) (ws' := [(a_p0, .inr (7, [.int p0_persons, .int p0_skies, .int p0_oaths, .ref a_p0_kind, .ref a_p0_skyAt, .ref a_p0_skyLoud, .ref a_p0_one, .ref a_p0_other, .ref a_p0_worth, .ref a_p0_hangs, .ref a_p0_now, .ref a_p0_readPerson, .ref a_p0_readSky, .ref a_p0_readOath, .int p0_readPersons, .int p0_readSkies, .int p0_readOaths, .ref a_p0_text, .int p0_length, .int p0_at, .int p0_at, .int p0_acts, .int p0_next, .ref a_p0_row, .int p0_told, .ref a_p0_toldAt, .ref a_p0_toldWool, .ref a_p0_toldHeard, .long p0_seed, .ref a_p0_isKept, .ref a_p0_kept])), (a_p0_readPerson, .inl (cI, 10, .inl p0_readPerson)), (a_p0_readSky, .inl (cI, 10, .inl p0_readSky)), (a_p0_readOath, .inl (cI, 20, .inl p0_readOath)), (a_p0_text, .inl (cI, 60, .inl p0_text))]) rfl dX7_readPart_247 (fun H locs hW => ?_)
              exact hE _ _ _ _ (p0_readPersons, p0_readSkies, p0_readOaths, p0_at, p0_at, p0_readPerson, p0_readSky, p0_readOath) (sm hf) hW dX7_readPart_250
            · have hf := it_t c_58 hf
              refine lv_aload_n hx hb dX7_readPart_209 rfl (lv_at hl 0 rfl) ?_
              refine q_get hB hW 7 in_X7 0 rfl rfl 16 (by decide) fl_87 (v := .int p0_readOaths) rfl dX7_readPart_210 ?_
              refine lv_iconst (v := 5) hx hb dX7_readPart_213 (by decide) ?_
              refine lv_icmp_ge (tgt := 242) hx hb dX7_readPart_214 (by decide) (fun c_59 => ?_) (fun c_59 => ?_)
              · have hf := it_t c_59 hf
                refine lv_aload_n hx hb dX7_readPart_242 rfl (lv_at hl 0 rfl) ?_
                refine lv_aload_n hx hb dX7_readPart_243 rfl (lv_at hl 0 rfl) ?_
                refine q_get hB hW 7 in_X7 0 rfl rfl 19 (by decide) fl_78 (v := .int p0_at) rfl dX7_readPart_244 ?_
                refine q_put hB hW 7 in_X7 tyX7 tyX7_ok nmX7 0 rfl rfl 20 (by decide) fl_75 rfl (by first | rfl | decide) (by first | rfl | decide) (Nat.le_of_ble_eq_true rfl) (ws' := [(a_p0, .inr (7, [.int p0_persons, .int p0_skies, .int p0_oaths, .ref a_p0_kind, .ref a_p0_skyAt, .ref a_p0_skyLoud, .ref a_p0_one, .ref a_p0_other, .ref a_p0_worth, .ref a_p0_hangs, .ref a_p0_now, .ref a_p0_readPerson, .ref a_p0_readSky, .ref a_p0_readOath, .int p0_readPersons, .int p0_readSkies, .int p0_readOaths, .ref a_p0_text, .int p0_length, .int p0_at, .int p0_at, .int p0_acts, .int p0_next, .ref a_p0_row, .int p0_told, .ref a_p0_toldAt, .ref a_p0_toldWool, .ref a_p0_toldHeard, .long p0_seed, .ref a_p0_isKept, .ref a_p0_kept])), (a_p0_readPerson, .inl (cI, 10, .inl p0_readPerson)), (a_p0_readSky, .inl (cI, 10, .inl p0_readSky)), (a_p0_readOath, .inl (cI, 20, .inl p0_readOath)), (a_p0_text, .inl (cI, 60, .inl p0_text))]) rfl dX7_readPart_247 (fun H locs hW => ?_)
                exact hE _ _ _ _ (p0_readPersons, p0_readSkies, p0_readOaths, p0_at, p0_at, p0_readPerson, p0_readSky, p0_readOath) (sm hf) hW dX7_readPart_250
              · have hf := it_f c_59 hf
                refine lv_aload_n hx hb dX7_readPart_217 rfl (lv_at hl 0 rfl) ?_
                refine q_get hB hW 7 in_X7 0 rfl rfl 14 (by decide) fl_81 (v := .int p0_readPersons) rfl dX7_readPart_218 ?_
                refine lv_iconst (v := 1) hx hb dX7_readPart_221 (by decide) ?_
                refine lv_icmp_le (tgt := 242) hx hb dX7_readPart_222 (by decide) (fun c_60 => ?_) (fun c_60 => ?_)
                · have hf := it_t c_60 hf
                  refine lv_aload_n hx hb dX7_readPart_242 rfl (lv_at hl 0 rfl) ?_
                  refine lv_aload_n hx hb dX7_readPart_243 rfl (lv_at hl 0 rfl) ?_
                  refine q_get hB hW 7 in_X7 0 rfl rfl 19 (by decide) fl_78 (v := .int p0_at) rfl dX7_readPart_244 ?_
                  refine q_put hB hW 7 in_X7 tyX7 tyX7_ok nmX7 0 rfl rfl 20 (by decide) fl_75 rfl (by first | rfl | decide) (by first | rfl | decide) (Nat.le_of_ble_eq_true rfl) (ws' := [(a_p0, .inr (7, [.int p0_persons, .int p0_skies, .int p0_oaths, .ref a_p0_kind, .ref a_p0_skyAt, .ref a_p0_skyLoud, .ref a_p0_one, .ref a_p0_other, .ref a_p0_worth, .ref a_p0_hangs, .ref a_p0_now, .ref a_p0_readPerson, .ref a_p0_readSky, .ref a_p0_readOath, .int p0_readPersons, .int p0_readSkies, .int p0_readOaths, .ref a_p0_text, .int p0_length, .int p0_at, .int p0_at, .int p0_acts, .int p0_next, .ref a_p0_row, .int p0_told, .ref a_p0_toldAt, .ref a_p0_toldWool, .ref a_p0_toldHeard, .long p0_seed, .ref a_p0_isKept, .ref a_p0_kept])), (a_p0_readPerson, .inl (cI, 10, .inl p0_readPerson)), (a_p0_readSky, .inl (cI, 10, .inl p0_readSky)), (a_p0_readOath, .inl (cI, 20, .inl p0_readOath)), (a_p0_text, .inl (cI, 60, .inl p0_text))]) rfl dX7_readPart_247 (fun H locs hW => ?_)
                  exact hE _ _ _ _ (p0_readPersons, p0_readSkies, p0_readOaths, p0_at, p0_at, p0_readPerson, p0_readSky, p0_readOath) (sm hf) hW dX7_readPart_250
                · have hf := it_f c_60 hf
                  refine lv_aload_n hx hb dX7_readPart_225 rfl (lv_at hl 0 rfl) ?_
                  refine lv_dup hx hb dX7_readPart_226 rfl ?_
                  refine q_get hB hW 7 in_X7 0 rfl rfl 19 (by decide) fl_78 (v := .int p0_at) rfl dX7_readPart_227 ?_
                  refine lv_iconst (v := 1) hx hb dX7_readPart_230 (by decide) ?_
                  refine lv_iadd hx hb dX7_readPart_231 ?_
                  obtain ⟨w_61, hw_61, hf⟩ := bnd hf
                  refine q_nmI hw_61 ?_
                  refine q_put hB hW 7 in_X7 tyX7 tyX7_ok nmX7 0 rfl rfl 19 (by decide) fl_78 rfl (by first | rfl | decide) (by first | rfl | decide) (Nat.le_of_ble_eq_true rfl) (ws' := [(a_p0, .inr (7, [.int p0_persons, .int p0_skies, .int p0_oaths, .ref a_p0_kind, .ref a_p0_skyAt, .ref a_p0_skyLoud, .ref a_p0_one, .ref a_p0_other, .ref a_p0_worth, .ref a_p0_hangs, .ref a_p0_now, .ref a_p0_readPerson, .ref a_p0_readSky, .ref a_p0_readOath, .int p0_readPersons, .int p0_readSkies, .int p0_readOaths, .ref a_p0_text, .int p0_length, .int w_61, .int p0_faultAt, .int p0_acts, .int p0_next, .ref a_p0_row, .int p0_told, .ref a_p0_toldAt, .ref a_p0_toldWool, .ref a_p0_toldHeard, .long p0_seed, .ref a_p0_isKept, .ref a_p0_kept])), (a_p0_readPerson, .inl (cI, 10, .inl p0_readPerson)), (a_p0_readSky, .inl (cI, 10, .inl p0_readSky)), (a_p0_readOath, .inl (cI, 20, .inl p0_readOath)), (a_p0_text, .inl (cI, 60, .inl p0_text))]) rfl dX7_readPart_232 (fun H locs hW => ?_)
                  refine lv_aload_n hx hb dX7_readPart_235 rfl (lv_at hl 0 rfl) ?_
                  obtain ⟨r_62, hr_62, hf⟩ := bnd hf
                  refine q_callVV hB hW (ci := 7) (q0 := 0) rfl rfl rfl (As := []) (rest := []) (ws' := [(a_p0, .inr (7, [.int p0_persons, .int p0_skies, .int p0_oaths, .ref a_p0_kind, .ref a_p0_skyAt, .ref a_p0_skyLoud, .ref a_p0_one, .ref a_p0_other, .ref a_p0_worth, .ref a_p0_hangs, .ref a_p0_now, .ref a_p0_readPerson, .ref a_p0_readSky, .ref a_p0_readOath, .int p0_readPersons, .int p0_readSkies, .int r_62.1, .ref a_p0_text, .int p0_length, .int r_62.2.1, .int r_62.2.2.1, .int p0_acts, .int p0_next, .ref a_p0_row, .int p0_told, .ref a_p0_toldAt, .ref a_p0_toldWool, .ref a_p0_toldHeard, .long p0_seed, .ref a_p0_isKept, .ref a_p0_kept])), (a_p0_readPerson, .inl (cI, 10, .inl p0_readPerson)), (a_p0_readSky, .inl (cI, 10, .inl p0_readSky)), (a_p0_readOath, .inl (cI, 20, .inl r_62.2.2.2)), (a_p0_text, .inl (cI, 60, .inl p0_text))]) (c_X7_readSworn l D cI cZ a_p0 a_p0_kind a_p0_skyAt a_p0_skyLoud a_p0_one a_p0_other a_p0_worth a_p0_hangs a_p0_now a_p0_readPerson a_p0_readSky a_p0_readOath a_p0_text a_p0_row a_p0_toldAt a_p0_toldWool a_p0_toldHeard a_p0_isKept a_p0_kept p0_persons p0_skies p0_oaths p0_readPersons p0_readSkies p0_readOaths p0_length w_61 p0_faultAt p0_acts p0_next p0_told p0_seed p0_readOath p0_text r_62 hr_62) (cwV 0 hts gX7_readPart_X7_readSworn rfl rfl rfl (by decide +kernel) ⟨Nat.le_of_ble_eq_true rfl, Nat.le_of_ble_eq_true rfl⟩) [0, 3, 4] rfl rfl rfl rfl rfl hl.1 rfl (Nat.le_of_ble_eq_true rfl) ⟨Nat.le_of_ble_eq_true rfl, Nat.le_of_ble_eq_true rfl⟩ dX7_readPart_236 (fun H locs hW => ?_)
                  refine lv_goto (tgt := 250) hx hb dX7_readPart_239 (by decide) ?_
                  exact hE _ _ _ _ (p0_readPersons, p0_readSkies, r_62.1, r_62.2.1, r_62.2.2.1, p0_readPerson, p0_readSky, r_62.2.2.2) (sm hf) hW dX7_readPart_250
          · have hf := it_t c_57 hf
            refine lv_aload_n hx hb dX7_readPart_132 rfl (lv_at hl 0 rfl) ?_
            refine q_get hB hW 7 in_X7 0 rfl rfl 15 (by decide) fl_84 (v := .int p0_readSkies) rfl dX7_readPart_133 ?_
            refine lv_iconst (v := 5) hx hb dX7_readPart_136 (by decide) ?_
            refine lv_icmp_ge (tgt := 203) hx hb dX7_readPart_137 (by decide) (fun _ => ?_) (fun c9 => absurd c_56 c9)
            refine lv_iload_n hx hb dX7_readPart_203 rfl (lv_at hl 1 rfl) ?_
            refine lv_bipush (v := 79) hx hb dX7_readPart_204 (by decide) ?_
            refine lv_icmp_ne (tgt := 242) hx hb dX7_readPart_206 (by decide) (fun c_63 => ?_) (fun c_63 => ?_)
            · have hf := it_f c_63 hf
              refine lv_aload_n hx hb dX7_readPart_242 rfl (lv_at hl 0 rfl) ?_
              refine lv_aload_n hx hb dX7_readPart_243 rfl (lv_at hl 0 rfl) ?_
              refine q_get hB hW 7 in_X7 0 rfl rfl 19 (by decide) fl_78 (v := .int p0_at) rfl dX7_readPart_244 ?_
              refine q_put hB hW 7 in_X7 tyX7 tyX7_ok nmX7 0 rfl rfl 20 (by decide) fl_75 rfl (by first | rfl | decide) (by first | rfl | decide) (Nat.le_of_ble_eq_true rfl) (ws' := [(a_p0, .inr (7, [.int p0_persons, .int p0_skies, .int p0_oaths, .ref a_p0_kind, .ref a_p0_skyAt, .ref a_p0_skyLoud, .ref a_p0_one, .ref a_p0_other, .ref a_p0_worth, .ref a_p0_hangs, .ref a_p0_now, .ref a_p0_readPerson, .ref a_p0_readSky, .ref a_p0_readOath, .int p0_readPersons, .int p0_readSkies, .int p0_readOaths, .ref a_p0_text, .int p0_length, .int p0_at, .int p0_at, .int p0_acts, .int p0_next, .ref a_p0_row, .int p0_told, .ref a_p0_toldAt, .ref a_p0_toldWool, .ref a_p0_toldHeard, .long p0_seed, .ref a_p0_isKept, .ref a_p0_kept])), (a_p0_readPerson, .inl (cI, 10, .inl p0_readPerson)), (a_p0_readSky, .inl (cI, 10, .inl p0_readSky)), (a_p0_readOath, .inl (cI, 20, .inl p0_readOath)), (a_p0_text, .inl (cI, 60, .inl p0_text))]) rfl dX7_readPart_247 (fun H locs hW => ?_)
              exact hE _ _ _ _ (p0_readPersons, p0_readSkies, p0_readOaths, p0_at, p0_at, p0_readPerson, p0_readSky, p0_readOath) (sm hf) hW dX7_readPart_250
            · have hf := it_t c_63 hf
              refine lv_aload_n hx hb dX7_readPart_209 rfl (lv_at hl 0 rfl) ?_
              refine q_get hB hW 7 in_X7 0 rfl rfl 16 (by decide) fl_87 (v := .int p0_readOaths) rfl dX7_readPart_210 ?_
              refine lv_iconst (v := 5) hx hb dX7_readPart_213 (by decide) ?_
              refine lv_icmp_ge (tgt := 242) hx hb dX7_readPart_214 (by decide) (fun c_64 => ?_) (fun c_64 => ?_)
              · have hf := it_t c_64 hf
                refine lv_aload_n hx hb dX7_readPart_242 rfl (lv_at hl 0 rfl) ?_
                refine lv_aload_n hx hb dX7_readPart_243 rfl (lv_at hl 0 rfl) ?_
                refine q_get hB hW 7 in_X7 0 rfl rfl 19 (by decide) fl_78 (v := .int p0_at) rfl dX7_readPart_244 ?_
                refine q_put hB hW 7 in_X7 tyX7 tyX7_ok nmX7 0 rfl rfl 20 (by decide) fl_75 rfl (by first | rfl | decide) (by first | rfl | decide) (Nat.le_of_ble_eq_true rfl) (ws' := [(a_p0, .inr (7, [.int p0_persons, .int p0_skies, .int p0_oaths, .ref a_p0_kind, .ref a_p0_skyAt, .ref a_p0_skyLoud, .ref a_p0_one, .ref a_p0_other, .ref a_p0_worth, .ref a_p0_hangs, .ref a_p0_now, .ref a_p0_readPerson, .ref a_p0_readSky, .ref a_p0_readOath, .int p0_readPersons, .int p0_readSkies, .int p0_readOaths, .ref a_p0_text, .int p0_length, .int p0_at, .int p0_at, .int p0_acts, .int p0_next, .ref a_p0_row, .int p0_told, .ref a_p0_toldAt, .ref a_p0_toldWool, .ref a_p0_toldHeard, .long p0_seed, .ref a_p0_isKept, .ref a_p0_kept])), (a_p0_readPerson, .inl (cI, 10, .inl p0_readPerson)), (a_p0_readSky, .inl (cI, 10, .inl p0_readSky)), (a_p0_readOath, .inl (cI, 20, .inl p0_readOath)), (a_p0_text, .inl (cI, 60, .inl p0_text))]) rfl dX7_readPart_247 (fun H locs hW => ?_)
                exact hE _ _ _ _ (p0_readPersons, p0_readSkies, p0_readOaths, p0_at, p0_at, p0_readPerson, p0_readSky, p0_readOath) (sm hf) hW dX7_readPart_250
              · have hf := it_f c_64 hf
                refine lv_aload_n hx hb dX7_readPart_217 rfl (lv_at hl 0 rfl) ?_
                refine q_get hB hW 7 in_X7 0 rfl rfl 14 (by decide) fl_81 (v := .int p0_readPersons) rfl dX7_readPart_218 ?_
                refine lv_iconst (v := 1) hx hb dX7_readPart_221 (by decide) ?_
                refine lv_icmp_le (tgt := 242) hx hb dX7_readPart_222 (by decide) (fun c_65 => ?_) (fun c_65 => ?_)
                · have hf := it_t c_65 hf
                  refine lv_aload_n hx hb dX7_readPart_242 rfl (lv_at hl 0 rfl) ?_
                  refine lv_aload_n hx hb dX7_readPart_243 rfl (lv_at hl 0 rfl) ?_
                  refine q_get hB hW 7 in_X7 0 rfl rfl 19 (by decide) fl_78 (v := .int p0_at) rfl dX7_readPart_244 ?_
                  refine q_put hB hW 7 in_X7 tyX7 tyX7_ok nmX7 0 rfl rfl 20 (by decide) fl_75 rfl (by first | rfl | decide) (by first | rfl | decide) (Nat.le_of_ble_eq_true rfl) (ws' := [(a_p0, .inr (7, [.int p0_persons, .int p0_skies, .int p0_oaths, .ref a_p0_kind, .ref a_p0_skyAt, .ref a_p0_skyLoud, .ref a_p0_one, .ref a_p0_other, .ref a_p0_worth, .ref a_p0_hangs, .ref a_p0_now, .ref a_p0_readPerson, .ref a_p0_readSky, .ref a_p0_readOath, .int p0_readPersons, .int p0_readSkies, .int p0_readOaths, .ref a_p0_text, .int p0_length, .int p0_at, .int p0_at, .int p0_acts, .int p0_next, .ref a_p0_row, .int p0_told, .ref a_p0_toldAt, .ref a_p0_toldWool, .ref a_p0_toldHeard, .long p0_seed, .ref a_p0_isKept, .ref a_p0_kept])), (a_p0_readPerson, .inl (cI, 10, .inl p0_readPerson)), (a_p0_readSky, .inl (cI, 10, .inl p0_readSky)), (a_p0_readOath, .inl (cI, 20, .inl p0_readOath)), (a_p0_text, .inl (cI, 60, .inl p0_text))]) rfl dX7_readPart_247 (fun H locs hW => ?_)
                  exact hE _ _ _ _ (p0_readPersons, p0_readSkies, p0_readOaths, p0_at, p0_at, p0_readPerson, p0_readSky, p0_readOath) (sm hf) hW dX7_readPart_250
                · have hf := it_f c_65 hf
                  refine lv_aload_n hx hb dX7_readPart_225 rfl (lv_at hl 0 rfl) ?_
                  refine lv_dup hx hb dX7_readPart_226 rfl ?_
                  refine q_get hB hW 7 in_X7 0 rfl rfl 19 (by decide) fl_78 (v := .int p0_at) rfl dX7_readPart_227 ?_
                  refine lv_iconst (v := 1) hx hb dX7_readPart_230 (by decide) ?_
                  refine lv_iadd hx hb dX7_readPart_231 ?_
                  obtain ⟨w_66, hw_66, hf⟩ := bnd hf
                  refine q_nmI hw_66 ?_
                  refine q_put hB hW 7 in_X7 tyX7 tyX7_ok nmX7 0 rfl rfl 19 (by decide) fl_78 rfl (by first | rfl | decide) (by first | rfl | decide) (Nat.le_of_ble_eq_true rfl) (ws' := [(a_p0, .inr (7, [.int p0_persons, .int p0_skies, .int p0_oaths, .ref a_p0_kind, .ref a_p0_skyAt, .ref a_p0_skyLoud, .ref a_p0_one, .ref a_p0_other, .ref a_p0_worth, .ref a_p0_hangs, .ref a_p0_now, .ref a_p0_readPerson, .ref a_p0_readSky, .ref a_p0_readOath, .int p0_readPersons, .int p0_readSkies, .int p0_readOaths, .ref a_p0_text, .int p0_length, .int w_66, .int p0_faultAt, .int p0_acts, .int p0_next, .ref a_p0_row, .int p0_told, .ref a_p0_toldAt, .ref a_p0_toldWool, .ref a_p0_toldHeard, .long p0_seed, .ref a_p0_isKept, .ref a_p0_kept])), (a_p0_readPerson, .inl (cI, 10, .inl p0_readPerson)), (a_p0_readSky, .inl (cI, 10, .inl p0_readSky)), (a_p0_readOath, .inl (cI, 20, .inl p0_readOath)), (a_p0_text, .inl (cI, 60, .inl p0_text))]) rfl dX7_readPart_232 (fun H locs hW => ?_)
                  refine lv_aload_n hx hb dX7_readPart_235 rfl (lv_at hl 0 rfl) ?_
                  obtain ⟨r_67, hr_67, hf⟩ := bnd hf
                  refine q_callVV hB hW (ci := 7) (q0 := 0) rfl rfl rfl (As := []) (rest := []) (ws' := [(a_p0, .inr (7, [.int p0_persons, .int p0_skies, .int p0_oaths, .ref a_p0_kind, .ref a_p0_skyAt, .ref a_p0_skyLoud, .ref a_p0_one, .ref a_p0_other, .ref a_p0_worth, .ref a_p0_hangs, .ref a_p0_now, .ref a_p0_readPerson, .ref a_p0_readSky, .ref a_p0_readOath, .int p0_readPersons, .int p0_readSkies, .int r_67.1, .ref a_p0_text, .int p0_length, .int r_67.2.1, .int r_67.2.2.1, .int p0_acts, .int p0_next, .ref a_p0_row, .int p0_told, .ref a_p0_toldAt, .ref a_p0_toldWool, .ref a_p0_toldHeard, .long p0_seed, .ref a_p0_isKept, .ref a_p0_kept])), (a_p0_readPerson, .inl (cI, 10, .inl p0_readPerson)), (a_p0_readSky, .inl (cI, 10, .inl p0_readSky)), (a_p0_readOath, .inl (cI, 20, .inl r_67.2.2.2)), (a_p0_text, .inl (cI, 60, .inl p0_text))]) (c_X7_readSworn l D cI cZ a_p0 a_p0_kind a_p0_skyAt a_p0_skyLoud a_p0_one a_p0_other a_p0_worth a_p0_hangs a_p0_now a_p0_readPerson a_p0_readSky a_p0_readOath a_p0_text a_p0_row a_p0_toldAt a_p0_toldWool a_p0_toldHeard a_p0_isKept a_p0_kept p0_persons p0_skies p0_oaths p0_readPersons p0_readSkies p0_readOaths p0_length w_66 p0_faultAt p0_acts p0_next p0_told p0_seed p0_readOath p0_text r_67 hr_67) (cwV 0 hts gX7_readPart_X7_readSworn rfl rfl rfl (by decide +kernel) ⟨Nat.le_of_ble_eq_true rfl, Nat.le_of_ble_eq_true rfl⟩) [0, 3, 4] rfl rfl rfl rfl rfl hl.1 rfl (Nat.le_of_ble_eq_true rfl) ⟨Nat.le_of_ble_eq_true rfl, Nat.le_of_ble_eq_true rfl⟩ dX7_readPart_236 (fun H locs hW => ?_)
                  refine lv_goto (tgt := 250) hx hb dX7_readPart_239 (by decide) ?_
                  exact hE _ _ _ _ (p0_readPersons, p0_readSkies, r_67.1, r_67.2.1, r_67.2.2.1, p0_readPerson, p0_readSky, r_67.2.2.2) (sm hf) hW dX7_readPart_250
        · have hf := it_f c_56 hf
          refine lv_aload_n hx hb dX7_readPart_90 rfl (lv_at hl 0 rfl) ?_
          refine lv_dup hx hb dX7_readPart_91 rfl ?_
          refine q_get hB hW 7 in_X7 0 rfl rfl 19 (by decide) fl_78 (v := .int p0_at) rfl dX7_readPart_92 ?_
          refine lv_iconst (v := 1) hx hb dX7_readPart_95 (by decide) ?_
          refine lv_iadd hx hb dX7_readPart_96 ?_
          obtain ⟨w_68, hw_68, hf⟩ := bnd hf
          refine q_nmI hw_68 ?_
          refine q_put hB hW 7 in_X7 tyX7 tyX7_ok nmX7 0 rfl rfl 19 (by decide) fl_78 rfl (by first | rfl | decide) (by first | rfl | decide) (Nat.le_of_ble_eq_true rfl) (ws' := [(a_p0, .inr (7, [.int p0_persons, .int p0_skies, .int p0_oaths, .ref a_p0_kind, .ref a_p0_skyAt, .ref a_p0_skyLoud, .ref a_p0_one, .ref a_p0_other, .ref a_p0_worth, .ref a_p0_hangs, .ref a_p0_now, .ref a_p0_readPerson, .ref a_p0_readSky, .ref a_p0_readOath, .int p0_readPersons, .int p0_readSkies, .int p0_readOaths, .ref a_p0_text, .int p0_length, .int w_68, .int p0_faultAt, .int p0_acts, .int p0_next, .ref a_p0_row, .int p0_told, .ref a_p0_toldAt, .ref a_p0_toldWool, .ref a_p0_toldHeard, .long p0_seed, .ref a_p0_isKept, .ref a_p0_kept])), (a_p0_readPerson, .inl (cI, 10, .inl p0_readPerson)), (a_p0_readSky, .inl (cI, 10, .inl p0_readSky)), (a_p0_readOath, .inl (cI, 20, .inl p0_readOath)), (a_p0_text, .inl (cI, 60, .inl p0_text))]) rfl dX7_readPart_97 (fun H locs hW => ?_)
          refine lv_aload_n hx hb dX7_readPart_100 rfl (lv_at hl 0 rfl) ?_
          refine q_get hB hW 7 in_X7 0 rfl rfl 12 (by decide) fl_37 (v := .ref a_p0_readSky) rfl dX7_readPart_101 ?_
          refine lv_iconst (v := 2) hx hb dX7_readPart_104 (by decide) ?_
          refine lv_aload_n hx hb dX7_readPart_105 rfl (lv_at hl 0 rfl) ?_
          refine q_get hB hW 7 in_X7 0 rfl rfl 15 (by decide) fl_84 (v := .int p0_readSkies) rfl dX7_readPart_106 ?_
          refine lv_imul hx hb dX7_readPart_109 ?_
          refine lv_bipush (v := -9) hx hb dX7_readPart_110 (by decide) ?_
          obtain ⟨r_69, hr_69, hf⟩ := bnd hf
          refine q_iast hB hW 2 rfl hr_69 (ws' := [(a_p0, .inr (7, [.int p0_persons, .int p0_skies, .int p0_oaths, .ref a_p0_kind, .ref a_p0_skyAt, .ref a_p0_skyLoud, .ref a_p0_one, .ref a_p0_other, .ref a_p0_worth, .ref a_p0_hangs, .ref a_p0_now, .ref a_p0_readPerson, .ref a_p0_readSky, .ref a_p0_readOath, .int p0_readPersons, .int p0_readSkies, .int p0_readOaths, .ref a_p0_text, .int p0_length, .int w_68, .int p0_faultAt, .int p0_acts, .int p0_next, .ref a_p0_row, .int p0_told, .ref a_p0_toldAt, .ref a_p0_toldWool, .ref a_p0_toldHeard, .long p0_seed, .ref a_p0_isKept, .ref a_p0_kept])), (a_p0_readPerson, .inl (cI, 10, .inl p0_readPerson)), (a_p0_readSky, .inl (cI, 10, .inl r_69)), (a_p0_readOath, .inl (cI, 20, .inl p0_readOath)), (a_p0_text, .inl (cI, 60, .inl p0_text))]) rfl dX7_readPart_112 (fun H locs hW => ?_)
          refine lv_aload_n hx hb dX7_readPart_113 rfl (lv_at hl 0 rfl) ?_
          refine lv_dup hx hb dX7_readPart_114 rfl ?_
          refine q_get hB hW 7 in_X7 0 rfl rfl 15 (by decide) fl_84 (v := .int p0_readSkies) rfl dX7_readPart_115 ?_
          refine lv_iconst (v := 1) hx hb dX7_readPart_118 (by decide) ?_
          refine lv_iadd hx hb dX7_readPart_119 ?_
          obtain ⟨w_70, hw_70, hf⟩ := bnd hf
          refine q_nmI hw_70 ?_
          refine q_put hB hW 7 in_X7 tyX7 tyX7_ok nmX7 0 rfl rfl 15 (by decide) fl_84 rfl (by first | rfl | decide) (by first | rfl | decide) (Nat.le_of_ble_eq_true rfl) (ws' := [(a_p0, .inr (7, [.int p0_persons, .int p0_skies, .int p0_oaths, .ref a_p0_kind, .ref a_p0_skyAt, .ref a_p0_skyLoud, .ref a_p0_one, .ref a_p0_other, .ref a_p0_worth, .ref a_p0_hangs, .ref a_p0_now, .ref a_p0_readPerson, .ref a_p0_readSky, .ref a_p0_readOath, .int p0_readPersons, .int w_70, .int p0_readOaths, .ref a_p0_text, .int p0_length, .int w_68, .int p0_faultAt, .int p0_acts, .int p0_next, .ref a_p0_row, .int p0_told, .ref a_p0_toldAt, .ref a_p0_toldWool, .ref a_p0_toldHeard, .long p0_seed, .ref a_p0_isKept, .ref a_p0_kept])), (a_p0_readPerson, .inl (cI, 10, .inl p0_readPerson)), (a_p0_readSky, .inl (cI, 10, .inl r_69)), (a_p0_readOath, .inl (cI, 20, .inl p0_readOath)), (a_p0_text, .inl (cI, 60, .inl p0_text))]) rfl dX7_readPart_120 (fun H locs hW => ?_)
          refine lv_goto (tgt := 250) hx hb dX7_readPart_123 (by decide) ?_
          exact hE _ _ _ _ (p0_readPersons, w_70, p0_readOaths, w_68, p0_faultAt, p0_readPerson, r_69, p0_readOath) (sm hf) hW dX7_readPart_250
    · have hf := it_f c_36 hf
      refine lv_aload_n hx hb dX7_readPart_14 rfl (lv_at hl 0 rfl) ?_
      refine lv_dup hx hb dX7_readPart_15 rfl ?_
      refine q_get hB hW 7 in_X7 0 rfl rfl 19 (by decide) fl_78 (v := .int p0_at) rfl dX7_readPart_16 ?_
      refine lv_iconst (v := 1) hx hb dX7_readPart_19 (by decide) ?_
      refine lv_iadd hx hb dX7_readPart_20 ?_
      obtain ⟨w_71, hw_71, hf⟩ := bnd hf
      refine q_nmI hw_71 ?_
      refine q_put hB hW 7 in_X7 tyX7 tyX7_ok nmX7 0 rfl rfl 19 (by decide) fl_78 rfl (by first | rfl | decide) (by first | rfl | decide) (Nat.le_of_ble_eq_true rfl) (ws' := [(a_p0, .inr (7, [.int p0_persons, .int p0_skies, .int p0_oaths, .ref a_p0_kind, .ref a_p0_skyAt, .ref a_p0_skyLoud, .ref a_p0_one, .ref a_p0_other, .ref a_p0_worth, .ref a_p0_hangs, .ref a_p0_now, .ref a_p0_readPerson, .ref a_p0_readSky, .ref a_p0_readOath, .int p0_readPersons, .int p0_readSkies, .int p0_readOaths, .ref a_p0_text, .int p0_length, .int w_71, .int p0_faultAt, .int p0_acts, .int p0_next, .ref a_p0_row, .int p0_told, .ref a_p0_toldAt, .ref a_p0_toldWool, .ref a_p0_toldHeard, .long p0_seed, .ref a_p0_isKept, .ref a_p0_kept])), (a_p0_readPerson, .inl (cI, 10, .inl p0_readPerson)), (a_p0_readSky, .inl (cI, 10, .inl p0_readSky)), (a_p0_readOath, .inl (cI, 20, .inl p0_readOath)), (a_p0_text, .inl (cI, 60, .inl p0_text))]) rfl dX7_readPart_21 (fun H locs hW => ?_)
      refine lv_aload_n hx hb dX7_readPart_24 rfl (lv_at hl 0 rfl) ?_
      refine q_get hB hW 7 in_X7 0 rfl rfl 11 (by decide) fl_34 (v := .ref a_p0_readPerson) rfl dX7_readPart_25 ?_
      refine lv_iconst (v := 2) hx hb dX7_readPart_28 (by decide) ?_
      refine lv_aload_n hx hb dX7_readPart_29 rfl (lv_at hl 0 rfl) ?_
      refine q_get hB hW 7 in_X7 0 rfl rfl 14 (by decide) fl_81 (v := .int p0_readPersons) rfl dX7_readPart_30 ?_
      refine lv_imul hx hb dX7_readPart_33 ?_
      refine lv_aload_n hx hb dX7_readPart_34 rfl (lv_at hl 0 rfl) ?_
      refine lv_bipush (v := 9) hx hb dX7_readPart_35 (by decide) ?_
      refine lv_bipush (v := -9) hx hb dX7_readPart_37 (by decide) ?_
      obtain ⟨r_72, hr_72, hf⟩ := bnd hf
      refine q_callVI hB hW (ci := 7) (q0 := 0) rfl rfl rfl (As := [.int (9 : Int32), .int (-9 : Int32)]) (rest := [.int ((2 : Int32) * p0_readPersons), .ref a_p0_readPerson]) (ws' := [(a_p0, .inr (7, [.int p0_persons, .int p0_skies, .int p0_oaths, .ref a_p0_kind, .ref a_p0_skyAt, .ref a_p0_skyLoud, .ref a_p0_one, .ref a_p0_other, .ref a_p0_worth, .ref a_p0_hangs, .ref a_p0_now, .ref a_p0_readPerson, .ref a_p0_readSky, .ref a_p0_readOath, .int p0_readPersons, .int p0_readSkies, .int p0_readOaths, .ref a_p0_text, .int p0_length, .int r_72.2.1, .int r_72.2.2, .int p0_acts, .int p0_next, .ref a_p0_row, .int p0_told, .ref a_p0_toldAt, .ref a_p0_toldWool, .ref a_p0_toldHeard, .long p0_seed, .ref a_p0_isKept, .ref a_p0_kept])), (a_p0_readPerson, .inl (cI, 10, .inl p0_readPerson)), (a_p0_readSky, .inl (cI, 10, .inl p0_readSky)), (a_p0_readOath, .inl (cI, 20, .inl p0_readOath)), (a_p0_text, .inl (cI, 60, .inl p0_text))]) (c_X7_figureOf l D cI cZ a_p0 a_p0_kind a_p0_skyAt a_p0_skyLoud a_p0_one a_p0_other a_p0_worth a_p0_hangs a_p0_now a_p0_readPerson a_p0_readSky a_p0_readOath a_p0_text a_p0_row a_p0_toldAt a_p0_toldWool a_p0_toldHeard a_p0_isKept a_p0_kept p0_persons p0_skies p0_oaths p0_readPersons p0_readSkies p0_readOaths p0_length w_71 p0_faultAt p0_acts p0_next p0_told p0_seed p0_text (9 : Int32) (-9 : Int32) r_72 hr_72) (cwV 2 hts gX7_readPart_X7_figureOf rfl rfl rfl (by decide +kernel) ⟨Nat.le_of_ble_eq_true rfl, Nat.le_of_ble_eq_true rfl⟩) [0, 4] rfl rfl rfl rfl rfl hl.1 rfl (Nat.le_of_ble_eq_true rfl) ⟨Nat.le_of_ble_eq_true rfl, Nat.le_of_ble_eq_true rfl⟩ dX7_readPart_39 (fun H locs hW => ?_)
      obtain ⟨r_73, hr_73, hf⟩ := bnd hf
      refine q_iast hB hW 1 rfl hr_73 (ws' := [(a_p0, .inr (7, [.int p0_persons, .int p0_skies, .int p0_oaths, .ref a_p0_kind, .ref a_p0_skyAt, .ref a_p0_skyLoud, .ref a_p0_one, .ref a_p0_other, .ref a_p0_worth, .ref a_p0_hangs, .ref a_p0_now, .ref a_p0_readPerson, .ref a_p0_readSky, .ref a_p0_readOath, .int p0_readPersons, .int p0_readSkies, .int p0_readOaths, .ref a_p0_text, .int p0_length, .int r_72.2.1, .int r_72.2.2, .int p0_acts, .int p0_next, .ref a_p0_row, .int p0_told, .ref a_p0_toldAt, .ref a_p0_toldWool, .ref a_p0_toldHeard, .long p0_seed, .ref a_p0_isKept, .ref a_p0_kept])), (a_p0_readPerson, .inl (cI, 10, .inl r_73)), (a_p0_readSky, .inl (cI, 10, .inl p0_readSky)), (a_p0_readOath, .inl (cI, 20, .inl p0_readOath)), (a_p0_text, .inl (cI, 60, .inl p0_text))]) rfl dX7_readPart_42 (fun H locs hW => ?_)
      refine lv_aload_n hx hb dX7_readPart_43 rfl (lv_at hl 0 rfl) ?_
      refine q_get hB hW 7 in_X7 0 rfl rfl 11 (by decide) fl_34 (v := .ref a_p0_readPerson) rfl dX7_readPart_44 ?_
      refine lv_iconst (v := 2) hx hb dX7_readPart_47 (by decide) ?_
      refine lv_aload_n hx hb dX7_readPart_48 rfl (lv_at hl 0 rfl) ?_
      refine q_get hB hW 7 in_X7 0 rfl rfl 14 (by decide) fl_81 (v := .int p0_readPersons) rfl dX7_readPart_49 ?_
      refine lv_imul hx hb dX7_readPart_52 ?_
      refine lv_iconst (v := 1) hx hb dX7_readPart_53 (by decide) ?_
      refine lv_iadd hx hb dX7_readPart_54 ?_
      refine lv_aload_n hx hb dX7_readPart_55 rfl (lv_at hl 0 rfl) ?_
      refine lv_iconst (v := 3) hx hb dX7_readPart_56 (by decide) ?_
      refine lv_bipush (v := -9) hx hb dX7_readPart_57 (by decide) ?_
      obtain ⟨r_74, hr_74, hf⟩ := bnd hf
      refine q_callVI hB hW (ci := 7) (q0 := 0) rfl rfl rfl (As := [.int (3 : Int32), .int (-9 : Int32)]) (rest := [.int (((2 : Int32) * p0_readPersons) + (1 : Int32)), .ref a_p0_readPerson]) (ws' := [(a_p0, .inr (7, [.int p0_persons, .int p0_skies, .int p0_oaths, .ref a_p0_kind, .ref a_p0_skyAt, .ref a_p0_skyLoud, .ref a_p0_one, .ref a_p0_other, .ref a_p0_worth, .ref a_p0_hangs, .ref a_p0_now, .ref a_p0_readPerson, .ref a_p0_readSky, .ref a_p0_readOath, .int p0_readPersons, .int p0_readSkies, .int p0_readOaths, .ref a_p0_text, .int p0_length, .int r_74.2.1, .int r_74.2.2, .int p0_acts, .int p0_next, .ref a_p0_row, .int p0_told, .ref a_p0_toldAt, .ref a_p0_toldWool, .ref a_p0_toldHeard, .long p0_seed, .ref a_p0_isKept, .ref a_p0_kept])), (a_p0_readPerson, .inl (cI, 10, .inl r_73)), (a_p0_readSky, .inl (cI, 10, .inl p0_readSky)), (a_p0_readOath, .inl (cI, 20, .inl p0_readOath)), (a_p0_text, .inl (cI, 60, .inl p0_text))]) (c_X7_figureOf l D cI cZ a_p0 a_p0_kind a_p0_skyAt a_p0_skyLoud a_p0_one a_p0_other a_p0_worth a_p0_hangs a_p0_now a_p0_readPerson a_p0_readSky a_p0_readOath a_p0_text a_p0_row a_p0_toldAt a_p0_toldWool a_p0_toldHeard a_p0_isKept a_p0_kept p0_persons p0_skies p0_oaths p0_readPersons p0_readSkies p0_readOaths p0_length r_72.2.1 r_72.2.2 p0_acts p0_next p0_told p0_seed p0_text (3 : Int32) (-9 : Int32) r_74 hr_74) (cwV 2 hts gX7_readPart_X7_figureOf rfl rfl rfl (by decide +kernel) ⟨Nat.le_of_ble_eq_true rfl, Nat.le_of_ble_eq_true rfl⟩) [0, 4] rfl rfl rfl rfl rfl hl.1 rfl (Nat.le_of_ble_eq_true rfl) ⟨Nat.le_of_ble_eq_true rfl, Nat.le_of_ble_eq_true rfl⟩ dX7_readPart_59 (fun H locs hW => ?_)
      obtain ⟨r_75, hr_75, hf⟩ := bnd hf
      refine q_iast hB hW 1 rfl hr_75 (ws' := [(a_p0, .inr (7, [.int p0_persons, .int p0_skies, .int p0_oaths, .ref a_p0_kind, .ref a_p0_skyAt, .ref a_p0_skyLoud, .ref a_p0_one, .ref a_p0_other, .ref a_p0_worth, .ref a_p0_hangs, .ref a_p0_now, .ref a_p0_readPerson, .ref a_p0_readSky, .ref a_p0_readOath, .int p0_readPersons, .int p0_readSkies, .int p0_readOaths, .ref a_p0_text, .int p0_length, .int r_74.2.1, .int r_74.2.2, .int p0_acts, .int p0_next, .ref a_p0_row, .int p0_told, .ref a_p0_toldAt, .ref a_p0_toldWool, .ref a_p0_toldHeard, .long p0_seed, .ref a_p0_isKept, .ref a_p0_kept])), (a_p0_readPerson, .inl (cI, 10, .inl r_75)), (a_p0_readSky, .inl (cI, 10, .inl p0_readSky)), (a_p0_readOath, .inl (cI, 20, .inl p0_readOath)), (a_p0_text, .inl (cI, 60, .inl p0_text))]) rfl dX7_readPart_62 (fun H locs hW => ?_)
      refine lv_aload_n hx hb dX7_readPart_63 rfl (lv_at hl 0 rfl) ?_
      refine lv_dup hx hb dX7_readPart_64 rfl ?_
      refine q_get hB hW 7 in_X7 0 rfl rfl 14 (by decide) fl_81 (v := .int p0_readPersons) rfl dX7_readPart_65 ?_
      refine lv_iconst (v := 1) hx hb dX7_readPart_68 (by decide) ?_
      refine lv_iadd hx hb dX7_readPart_69 ?_
      obtain ⟨w_76, hw_76, hf⟩ := bnd hf
      refine q_nmI hw_76 ?_
      refine q_put hB hW 7 in_X7 tyX7 tyX7_ok nmX7 0 rfl rfl 14 (by decide) fl_81 rfl (by first | rfl | decide) (by first | rfl | decide) (Nat.le_of_ble_eq_true rfl) (ws' := [(a_p0, .inr (7, [.int p0_persons, .int p0_skies, .int p0_oaths, .ref a_p0_kind, .ref a_p0_skyAt, .ref a_p0_skyLoud, .ref a_p0_one, .ref a_p0_other, .ref a_p0_worth, .ref a_p0_hangs, .ref a_p0_now, .ref a_p0_readPerson, .ref a_p0_readSky, .ref a_p0_readOath, .int w_76, .int p0_readSkies, .int p0_readOaths, .ref a_p0_text, .int p0_length, .int r_74.2.1, .int r_74.2.2, .int p0_acts, .int p0_next, .ref a_p0_row, .int p0_told, .ref a_p0_toldAt, .ref a_p0_toldWool, .ref a_p0_toldHeard, .long p0_seed, .ref a_p0_isKept, .ref a_p0_kept])), (a_p0_readPerson, .inl (cI, 10, .inl r_75)), (a_p0_readSky, .inl (cI, 10, .inl p0_readSky)), (a_p0_readOath, .inl (cI, 20, .inl p0_readOath)), (a_p0_text, .inl (cI, 60, .inl p0_text))]) rfl dX7_readPart_70 (fun H locs hW => ?_)
      refine lv_goto (tgt := 250) hx hb dX7_readPart_73 (by decide) ?_
      exact hE _ _ _ _ (w_76, p0_readSkies, p0_readOaths, r_74.2.1, r_74.2.2, r_75, p0_readSky, p0_readOath) (sm hf) hW dX7_readPart_250
def b_X7_readText_51 (p0_length : Int32) (p0_text : Nat → Int32) (p0_readPersons : Int32) (p0_readSkies : Int32) (p0_readOaths : Int32) (p0_at : Int32) (p0_faultAt : Int32) (p0_readPerson : Nat → Int32) (p0_readSky : Nat → Int32) (p0_readOath : Nat → Int32) : Option ((Int32 × Int32 × Int32 × Int32 × Int32 × (Nat → Int32) × (Nat → Int32) × (Nat → Int32)) ⊕ (Int32 × Int32 × Int32 × Int32 × Int32 × (Nat → Int32) × (Nat → Int32) × (Nat → Int32))) := if p0_faultAt = (-9 : Int32) then if p0_length ≤ p0_at then some (.inr (p0_readPersons, p0_readSkies, p0_readOaths, p0_at, p0_faultAt, p0_readPerson, p0_readSky, p0_readOath)) else (ald p0_text 60 p0_at).bind fun r_554 => (f_X7_readPart r_554 p0_readPersons p0_readSkies p0_readOaths p0_length p0_at p0_faultAt p0_readPerson p0_readSky p0_readOath p0_text).bind fun r_555 => some (.inl (r_555.1, r_555.2.1, r_555.2.2.1, r_555.2.2.2.1, r_555.2.2.2.2.1, r_555.2.2.2.2.2.1, r_555.2.2.2.2.2.2.1, r_555.2.2.2.2.2.2.2)) else some (.inr (p0_readPersons, p0_readSkies, p0_readOaths, p0_at, p0_faultAt, p0_readPerson, p0_readSky, p0_readOath))
def f_X7_readText (p0_readPersons : Int32) (p0_readSkies : Int32) (p0_readOaths : Int32) (p0_length : Int32) (p0_at : Int32) (p0_faultAt : Int32) (p0_readPerson : Nat → Int32) (p0_readSky : Nat → Int32) (p0_readOath : Nat → Int32) (p0_text : Nat → Int32) : Option (Int32 × Int32 × Int32 × Int32 × Int32 × Int32 × (Nat → Int32) × (Nat → Int32) × (Nat → Int32)) := if p0_length = (0 : Int32) then some ((0 : Int32), (0 : Int32), (0 : Int32), (0 : Int32), (0 : Int32), (-9 : Int32), p0_readPerson, p0_readSky, p0_readOath) else (ald p0_text 60 (0 : Int32)).bind fun r_2 => if r_2 = (76 : Int32) then (itr (fun s => b_X7_readText_51 p0_length p0_text s.1 s.2.1 s.2.2.1 s.2.2.2.1 s.2.2.2.2.1 s.2.2.2.2.2.1 s.2.2.2.2.2.2.1 s.2.2.2.2.2.2.2) FU ((0 : Int32), (0 : Int32), (0 : Int32), (1 : Int32), (-9 : Int32), p0_readPerson, p0_readSky, p0_readOath)).bind fun x_51 => some (x_51.2.2.2.2.1, x_51.1, x_51.2.1, x_51.2.2.1, x_51.2.2.2.1, x_51.2.2.2.2.1, x_51.2.2.2.2.2.1, x_51.2.2.2.2.2.2.1, x_51.2.2.2.2.2.2.2) else some ((0 : Int32), (0 : Int32), (0 : Int32), (0 : Int32), (0 : Int32), (-9 : Int32), p0_readPerson, p0_readSky, p0_readOath)
set_option maxHeartbeats 4000000 in
set_option maxRecDepth 100000 in
theorem c_X7_readText (l : Launch) (D : va_G) (cI cZ : ClassId) (a_p0 a_p0_kind a_p0_skyAt a_p0_skyLoud a_p0_one a_p0_other a_p0_worth a_p0_hangs a_p0_now a_p0_readPerson a_p0_readSky a_p0_readOath a_p0_text a_p0_row a_p0_toldAt a_p0_toldWool a_p0_toldHeard a_p0_isKept a_p0_kept : Nat) (p0_persons : Int32) (p0_skies : Int32) (p0_oaths : Int32) (p0_readPersons : Int32) (p0_readSkies : Int32) (p0_readOaths : Int32) (p0_length : Int32) (p0_at : Int32) (p0_faultAt : Int32) (p0_acts : Int32) (p0_next : Int32) (p0_told : Int32) (p0_seed : Int64) (p0_readPerson : Nat → Int32) (p0_readSky : Nat → Int32) (p0_readOath : Nat → Int32) (p0_text : Nat → Int32) (q : Int32 × Int32 × Int32 × Int32 × Int32 × Int32 × (Nat → Int32) × (Nat → Int32) × (Nat → Int32)) (hf : f_X7_readText p0_readPersons p0_readSkies p0_readOaths p0_length p0_at p0_faultAt p0_readPerson p0_readSky p0_readOath p0_text = some q) : CtI l D cI cZ yX7_readText wsX7_readText 4 91 [.ref a_p0] [(a_p0, .inr (7, [.int p0_persons, .int p0_skies, .int p0_oaths, .ref a_p0_kind, .ref a_p0_skyAt, .ref a_p0_skyLoud, .ref a_p0_one, .ref a_p0_other, .ref a_p0_worth, .ref a_p0_hangs, .ref a_p0_now, .ref a_p0_readPerson, .ref a_p0_readSky, .ref a_p0_readOath, .int p0_readPersons, .int p0_readSkies, .int p0_readOaths, .ref a_p0_text, .int p0_length, .int p0_at, .int p0_faultAt, .int p0_acts, .int p0_next, .ref a_p0_row, .int p0_told, .ref a_p0_toldAt, .ref a_p0_toldWool, .ref a_p0_toldHeard, .long p0_seed, .ref a_p0_isKept, .ref a_p0_kept])), (a_p0_readPerson, .inl (cI, 10, .inl p0_readPerson)), (a_p0_readSky, .inl (cI, 10, .inl p0_readSky)), (a_p0_readOath, .inl (cI, 20, .inl p0_readOath)), (a_p0_text, .inl (cI, 60, .inl p0_text))] (fun q => [(a_p0, .inr (7, [.int p0_persons, .int p0_skies, .int p0_oaths, .ref a_p0_kind, .ref a_p0_skyAt, .ref a_p0_skyLoud, .ref a_p0_one, .ref a_p0_other, .ref a_p0_worth, .ref a_p0_hangs, .ref a_p0_now, .ref a_p0_readPerson, .ref a_p0_readSky, .ref a_p0_readOath, .int q.2.1, .int q.2.2.1, .int q.2.2.2.1, .ref a_p0_text, .int p0_length, .int q.2.2.2.2.1, .int q.2.2.2.2.2.1, .int p0_acts, .int p0_next, .ref a_p0_row, .int p0_told, .ref a_p0_toldAt, .ref a_p0_toldWool, .ref a_p0_toldHeard, .long p0_seed, .ref a_p0_isKept, .ref a_p0_kept])), (a_p0_readPerson, .inl (cI, 10, .inl q.2.2.2.2.2.2.1)), (a_p0_readSky, .inl (cI, 10, .inl q.2.2.2.2.2.2.2.1)), (a_p0_readOath, .inl (cI, 20, .inl q.2.2.2.2.2.2.2.2)), (a_p0_text, .inl (cI, 60, .inl p0_text))]) (fun q => q.1) q := by
  refine CtI.of (cc := cX7_readText) (maxL := 1) (plainFor_of_name (by decide)) rfl (Nat.le_of_ble_eq_true rfl) ?_
  intro p e s m args below meth c A Q H ls hB hE hW hl
  have hx := hB.1
  have hb := hB.2.1
  have hml := hB.2.2.2.1
  have hown : s.vm.findClass RX7 = some m.cls := hB.2.2.2.2.1
  have hts := hB.2.2.2.2.2.1
  have hK := hB.2.2.2.2.2.2.2.1.1
  have hl : lv_has ls 1 [(0, .ref a_p0)] := hl
  have in_X7 : ∀ w ∈ wsX70, w ∈ wsX7_readText := fun w h => List.mem_cons_of_mem _ (List.mem_append_right _ h)
  have fl_43 : (Cond.fieldLink RX7 43 (TX7 17).1 (TX7 17).2.1 (TX7 17).2.2.1).before args s = true := hts (.fieldLink RX7 43 "ClapOathsModel" "text" "[I") (by decide +kernel)
  have fl_71 : (Cond.fieldLink RX7 71 (TX7 18).1 (TX7 18).2.1 (TX7 18).2.2.1).before args s = true := hts (.fieldLink RX7 71 "ClapOathsModel" "length" "I") (by decide +kernel)
  have fl_75 : (Cond.fieldLink RX7 75 (TX7 20).1 (TX7 20).2.1 (TX7 20).2.2.1).before args s = true := hts (.fieldLink RX7 75 "ClapOathsModel" "faultAt" "I") (by decide +kernel)
  have fl_78 : (Cond.fieldLink RX7 78 (TX7 19).1 (TX7 19).2.1 (TX7 19).2.2.1).before args s = true := hts (.fieldLink RX7 78 "ClapOathsModel" "at" "I") (by decide +kernel)
  have fl_81 : (Cond.fieldLink RX7 81 (TX7 14).1 (TX7 14).2.1 (TX7 14).2.2.1).before args s = true := hts (.fieldLink RX7 81 "ClapOathsModel" "readPersons" "I") (by decide +kernel)
  have fl_84 : (Cond.fieldLink RX7 84 (TX7 15).1 (TX7 15).2.1 (TX7 15).2.2.1).before args s = true := hts (.fieldLink RX7 84 "ClapOathsModel" "readSkies" "I") (by decide +kernel)
  have fl_87 : (Cond.fieldLink RX7 87 (TX7 16).1 (TX7 16).2.1 (TX7 16).2.2.1).before args s = true := hts (.fieldLink RX7 87 "ClapOathsModel" "readOaths" "I") (by decide +kernel)
  unfold f_X7_readText at hf
  refine lv_aload_n hx hb dX7_readText_0 rfl (lv_at hl 0 rfl) ?_
  refine lv_iconst (v := 0) hx hb dX7_readText_1 (by decide) ?_
  refine q_put hB hW 7 in_X7 tyX7 tyX7_ok nmX7 0 rfl rfl 19 (by decide) fl_78 rfl (by first | rfl | decide) (by first | rfl | decide) (Nat.le_of_ble_eq_true rfl) (ws' := [(a_p0, .inr (7, [.int p0_persons, .int p0_skies, .int p0_oaths, .ref a_p0_kind, .ref a_p0_skyAt, .ref a_p0_skyLoud, .ref a_p0_one, .ref a_p0_other, .ref a_p0_worth, .ref a_p0_hangs, .ref a_p0_now, .ref a_p0_readPerson, .ref a_p0_readSky, .ref a_p0_readOath, .int p0_readPersons, .int p0_readSkies, .int p0_readOaths, .ref a_p0_text, .int p0_length, .int (0 : Int32), .int p0_faultAt, .int p0_acts, .int p0_next, .ref a_p0_row, .int p0_told, .ref a_p0_toldAt, .ref a_p0_toldWool, .ref a_p0_toldHeard, .long p0_seed, .ref a_p0_isKept, .ref a_p0_kept])), (a_p0_readPerson, .inl (cI, 10, .inl p0_readPerson)), (a_p0_readSky, .inl (cI, 10, .inl p0_readSky)), (a_p0_readOath, .inl (cI, 20, .inl p0_readOath)), (a_p0_text, .inl (cI, 60, .inl p0_text))]) rfl dX7_readText_2 (fun H locs hW => ?_)
  refine lv_aload_n hx hb dX7_readText_5 rfl (lv_at hl 0 rfl) ?_
  refine lv_bipush (v := -9) hx hb dX7_readText_6 (by decide) ?_
  refine q_put hB hW 7 in_X7 tyX7 tyX7_ok nmX7 0 rfl rfl 20 (by decide) fl_75 rfl (by first | rfl | decide) (by first | rfl | decide) (Nat.le_of_ble_eq_true rfl) (ws' := [(a_p0, .inr (7, [.int p0_persons, .int p0_skies, .int p0_oaths, .ref a_p0_kind, .ref a_p0_skyAt, .ref a_p0_skyLoud, .ref a_p0_one, .ref a_p0_other, .ref a_p0_worth, .ref a_p0_hangs, .ref a_p0_now, .ref a_p0_readPerson, .ref a_p0_readSky, .ref a_p0_readOath, .int p0_readPersons, .int p0_readSkies, .int p0_readOaths, .ref a_p0_text, .int p0_length, .int (0 : Int32), .int (-9 : Int32), .int p0_acts, .int p0_next, .ref a_p0_row, .int p0_told, .ref a_p0_toldAt, .ref a_p0_toldWool, .ref a_p0_toldHeard, .long p0_seed, .ref a_p0_isKept, .ref a_p0_kept])), (a_p0_readPerson, .inl (cI, 10, .inl p0_readPerson)), (a_p0_readSky, .inl (cI, 10, .inl p0_readSky)), (a_p0_readOath, .inl (cI, 20, .inl p0_readOath)), (a_p0_text, .inl (cI, 60, .inl p0_text))]) rfl dX7_readText_8 (fun H locs hW => ?_)
  refine lv_aload_n hx hb dX7_readText_11 rfl (lv_at hl 0 rfl) ?_
  refine lv_iconst (v := 0) hx hb dX7_readText_12 (by decide) ?_
  refine q_put hB hW 7 in_X7 tyX7 tyX7_ok nmX7 0 rfl rfl 14 (by decide) fl_81 rfl (by first | rfl | decide) (by first | rfl | decide) (Nat.le_of_ble_eq_true rfl) (ws' := [(a_p0, .inr (7, [.int p0_persons, .int p0_skies, .int p0_oaths, .ref a_p0_kind, .ref a_p0_skyAt, .ref a_p0_skyLoud, .ref a_p0_one, .ref a_p0_other, .ref a_p0_worth, .ref a_p0_hangs, .ref a_p0_now, .ref a_p0_readPerson, .ref a_p0_readSky, .ref a_p0_readOath, .int (0 : Int32), .int p0_readSkies, .int p0_readOaths, .ref a_p0_text, .int p0_length, .int (0 : Int32), .int (-9 : Int32), .int p0_acts, .int p0_next, .ref a_p0_row, .int p0_told, .ref a_p0_toldAt, .ref a_p0_toldWool, .ref a_p0_toldHeard, .long p0_seed, .ref a_p0_isKept, .ref a_p0_kept])), (a_p0_readPerson, .inl (cI, 10, .inl p0_readPerson)), (a_p0_readSky, .inl (cI, 10, .inl p0_readSky)), (a_p0_readOath, .inl (cI, 20, .inl p0_readOath)), (a_p0_text, .inl (cI, 60, .inl p0_text))]) rfl dX7_readText_13 (fun H locs hW => ?_)
  refine lv_aload_n hx hb dX7_readText_16 rfl (lv_at hl 0 rfl) ?_
  refine lv_iconst (v := 0) hx hb dX7_readText_17 (by decide) ?_
  refine q_put hB hW 7 in_X7 tyX7 tyX7_ok nmX7 0 rfl rfl 15 (by decide) fl_84 rfl (by first | rfl | decide) (by first | rfl | decide) (Nat.le_of_ble_eq_true rfl) (ws' := [(a_p0, .inr (7, [.int p0_persons, .int p0_skies, .int p0_oaths, .ref a_p0_kind, .ref a_p0_skyAt, .ref a_p0_skyLoud, .ref a_p0_one, .ref a_p0_other, .ref a_p0_worth, .ref a_p0_hangs, .ref a_p0_now, .ref a_p0_readPerson, .ref a_p0_readSky, .ref a_p0_readOath, .int (0 : Int32), .int (0 : Int32), .int p0_readOaths, .ref a_p0_text, .int p0_length, .int (0 : Int32), .int (-9 : Int32), .int p0_acts, .int p0_next, .ref a_p0_row, .int p0_told, .ref a_p0_toldAt, .ref a_p0_toldWool, .ref a_p0_toldHeard, .long p0_seed, .ref a_p0_isKept, .ref a_p0_kept])), (a_p0_readPerson, .inl (cI, 10, .inl p0_readPerson)), (a_p0_readSky, .inl (cI, 10, .inl p0_readSky)), (a_p0_readOath, .inl (cI, 20, .inl p0_readOath)), (a_p0_text, .inl (cI, 60, .inl p0_text))]) rfl dX7_readText_18 (fun H locs hW => ?_)
  refine lv_aload_n hx hb dX7_readText_21 rfl (lv_at hl 0 rfl) ?_
  refine lv_iconst (v := 0) hx hb dX7_readText_22 (by decide) ?_
  refine q_put hB hW 7 in_X7 tyX7 tyX7_ok nmX7 0 rfl rfl 16 (by decide) fl_87 rfl (by first | rfl | decide) (by first | rfl | decide) (Nat.le_of_ble_eq_true rfl) (ws' := [(a_p0, .inr (7, [.int p0_persons, .int p0_skies, .int p0_oaths, .ref a_p0_kind, .ref a_p0_skyAt, .ref a_p0_skyLoud, .ref a_p0_one, .ref a_p0_other, .ref a_p0_worth, .ref a_p0_hangs, .ref a_p0_now, .ref a_p0_readPerson, .ref a_p0_readSky, .ref a_p0_readOath, .int (0 : Int32), .int (0 : Int32), .int (0 : Int32), .ref a_p0_text, .int p0_length, .int (0 : Int32), .int (-9 : Int32), .int p0_acts, .int p0_next, .ref a_p0_row, .int p0_told, .ref a_p0_toldAt, .ref a_p0_toldWool, .ref a_p0_toldHeard, .long p0_seed, .ref a_p0_isKept, .ref a_p0_kept])), (a_p0_readPerson, .inl (cI, 10, .inl p0_readPerson)), (a_p0_readSky, .inl (cI, 10, .inl p0_readSky)), (a_p0_readOath, .inl (cI, 20, .inl p0_readOath)), (a_p0_text, .inl (cI, 60, .inl p0_text))]) rfl dX7_readText_23 (fun H locs hW => ?_)
  refine lv_aload_n hx hb dX7_readText_26 rfl (lv_at hl 0 rfl) ?_
  refine q_get hB hW 7 in_X7 0 rfl rfl 18 (by decide) fl_71 (v := .int p0_length) rfl dX7_readText_27 ?_
  refine lv_if_eq (tgt := 44) hx hb dX7_readText_30 (by decide) (fun c_1 => ?_) (fun c_1 => ?_)
  · have hf := it_t c_1 hf
    refine lv_iconst (v := 0) hx hb dX7_readText_44 (by decide) ?_
    exact hE _ _ _ _ _ ((0 : Int32), (0 : Int32), (0 : Int32), (0 : Int32), (0 : Int32), (-9 : Int32), p0_readPerson, p0_readSky, p0_readOath) (sm hf) hW rfl dX7_readText_45
  · have hf := it_f c_1 hf
    refine lv_aload_n hx hb dX7_readText_33 rfl (lv_at hl 0 rfl) ?_
    refine q_get hB hW 7 in_X7 0 rfl rfl 17 (by decide) fl_43 (v := .ref a_p0_text) rfl dX7_readText_34 ?_
    refine lv_iconst (v := 0) hx hb dX7_readText_37 (by decide) ?_
    obtain ⟨r_2, hr_2, hf⟩ := bnd hf
    refine q_iald hB hW 4 rfl hr_2 dX7_readText_38 ?_
    refine lv_bipush (v := 76) hx hb dX7_readText_39 (by decide) ?_
    refine lv_icmp_eq (tgt := 46) hx hb dX7_readText_41 (by decide) (fun c_3 => ?_) (fun c_3 => ?_)
    · have hf := it_t c_3 hf
      refine lv_aload_n hx hb dX7_readText_46 rfl (lv_at hl 0 rfl) ?_
      refine lv_iconst (v := 1) hx hb dX7_readText_47 (by decide) ?_
      refine q_put hB hW 7 in_X7 tyX7 tyX7_ok nmX7 0 rfl rfl 19 (by decide) fl_78 rfl (by first | rfl | decide) (by first | rfl | decide) (Nat.le_of_ble_eq_true rfl) (ws' := [(a_p0, .inr (7, [.int p0_persons, .int p0_skies, .int p0_oaths, .ref a_p0_kind, .ref a_p0_skyAt, .ref a_p0_skyLoud, .ref a_p0_one, .ref a_p0_other, .ref a_p0_worth, .ref a_p0_hangs, .ref a_p0_now, .ref a_p0_readPerson, .ref a_p0_readSky, .ref a_p0_readOath, .int (0 : Int32), .int (0 : Int32), .int (0 : Int32), .ref a_p0_text, .int p0_length, .int (1 : Int32), .int (-9 : Int32), .int p0_acts, .int p0_next, .ref a_p0_row, .int p0_told, .ref a_p0_toldAt, .ref a_p0_toldWool, .ref a_p0_toldHeard, .long p0_seed, .ref a_p0_isKept, .ref a_p0_kept])), (a_p0_readPerson, .inl (cI, 10, .inl p0_readPerson)), (a_p0_readSky, .inl (cI, 10, .inl p0_readSky)), (a_p0_readOath, .inl (cI, 20, .inl p0_readOath)), (a_p0_text, .inl (cI, 60, .inl p0_text))]) rfl dX7_readText_48 (fun H locs hW => ?_)
      obtain ⟨e_51, hl_51, hk_51⟩ := bnd hf
      have K_51 : ∀ x_51 : Int32 × Int32 × Int32 × Int32 × Int32 × (Nat → Int32) × (Nat → Int32) × (Nat → Int32), x_51 = e_51 → ∀ (H : Heap) (locs : List Loc) (ls : Array Slot), Wl D A s.heap [(a_p0, .inr (7, [.int p0_persons, .int p0_skies, .int p0_oaths, .ref a_p0_kind, .ref a_p0_skyAt, .ref a_p0_skyLoud, .ref a_p0_one, .ref a_p0_other, .ref a_p0_worth, .ref a_p0_hangs, .ref a_p0_now, .ref a_p0_readPerson, .ref a_p0_readSky, .ref a_p0_readOath, .int x_51.1, .int x_51.2.1, .int x_51.2.2.1, .ref a_p0_text, .int p0_length, .int x_51.2.2.2.1, .int x_51.2.2.2.2.1, .int p0_acts, .int p0_next, .ref a_p0_row, .int p0_told, .ref a_p0_toldAt, .ref a_p0_toldWool, .ref a_p0_toldHeard, .long p0_seed, .ref a_p0_isKept, .ref a_p0_kept])), (a_p0_readPerson, .inl (cI, 10, .inl x_51.2.2.2.2.2.1)), (a_p0_readSky, .inl (cI, 10, .inl x_51.2.2.2.2.2.2.1)), (a_p0_readOath, .inl (cI, 20, .inl x_51.2.2.2.2.2.2.2)), (a_p0_text, .inl (cI, 60, .inl p0_text))] H locs → lv_has ls 1 [(0, .ref a_p0)] → W p l e (Rm 4 91) s m args below meth c H locs 0 0 Q (F0 m 87 ls []) := by
        intro x_51 hx_51 H locs ls hW hl
        have hf := hk_51
        rw [← hx_51] at hf
        refine lv_aload_n hx hb dX7_readText_87 rfl (lv_at hl 0 rfl) ?_
        refine q_get hB hW 7 in_X7 0 rfl rfl 20 (by decide) fl_75 (v := .int x_51.2.2.2.2.1) rfl dX7_readText_88 ?_
        exact hE _ _ _ _ _ (x_51.2.2.2.2.1, x_51.1, x_51.2.1, x_51.2.2.1, x_51.2.2.2.1, x_51.2.2.2.2.1, x_51.2.2.2.2.2.1, x_51.2.2.2.2.2.2.1, x_51.2.2.2.2.2.2.2) (sm hf) hW rfl dX7_readText_91
      have L_51 : ∀ (n : Nat) (y51_p0_readPersons : Int32) (y51_p0_readSkies : Int32) (y51_p0_readOaths : Int32) (y51_p0_at : Int32) (y51_p0_faultAt : Int32) (y51_p0_readPerson : Nat → Int32) (y51_p0_readSky : Nat → Int32) (y51_p0_readOath : Nat → Int32) (H : Heap) (locs : List Loc) (ls : Array Slot), itr (fun s => b_X7_readText_51 p0_length p0_text s.1 s.2.1 s.2.2.1 s.2.2.2.1 s.2.2.2.2.1 s.2.2.2.2.2.1 s.2.2.2.2.2.2.1 s.2.2.2.2.2.2.2) n (y51_p0_readPersons, y51_p0_readSkies, y51_p0_readOaths, y51_p0_at, y51_p0_faultAt, y51_p0_readPerson, y51_p0_readSky, y51_p0_readOath) = some e_51 → Wl D A s.heap [(a_p0, .inr (7, [.int p0_persons, .int p0_skies, .int p0_oaths, .ref a_p0_kind, .ref a_p0_skyAt, .ref a_p0_skyLoud, .ref a_p0_one, .ref a_p0_other, .ref a_p0_worth, .ref a_p0_hangs, .ref a_p0_now, .ref a_p0_readPerson, .ref a_p0_readSky, .ref a_p0_readOath, .int y51_p0_readPersons, .int y51_p0_readSkies, .int y51_p0_readOaths, .ref a_p0_text, .int p0_length, .int y51_p0_at, .int y51_p0_faultAt, .int p0_acts, .int p0_next, .ref a_p0_row, .int p0_told, .ref a_p0_toldAt, .ref a_p0_toldWool, .ref a_p0_toldHeard, .long p0_seed, .ref a_p0_isKept, .ref a_p0_kept])), (a_p0_readPerson, .inl (cI, 10, .inl y51_p0_readPerson)), (a_p0_readSky, .inl (cI, 10, .inl y51_p0_readSky)), (a_p0_readOath, .inl (cI, 20, .inl y51_p0_readOath)), (a_p0_text, .inl (cI, 60, .inl p0_text))] H locs → lv_has ls 1 [(0, .ref a_p0)] → W p l e (Rm 4 91) s m args below meth c H locs 0 0 Q (F0 m 51 ls []) := by
        intro n
        induction n with
        | zero => intro y51_p0_readPersons y51_p0_readSkies y51_p0_readOaths y51_p0_at y51_p0_faultAt y51_p0_readPerson y51_p0_readSky y51_p0_readOath H locs ls h9; exact itr_0 h9
        | succ n ih =>
          intro y51_p0_readPersons y51_p0_readSkies y51_p0_readOaths y51_p0_at y51_p0_faultAt y51_p0_readPerson y51_p0_readSky y51_p0_readOath H locs ls hf hW hl
          obtain ⟨o_51, hf, ho_51⟩ := itr_inv hf
          have hf : b_X7_readText_51 p0_length p0_text y51_p0_readPersons y51_p0_readSkies y51_p0_readOaths y51_p0_at y51_p0_faultAt y51_p0_readPerson y51_p0_readSky y51_p0_readOath = some o_51 := hf
          unfold b_X7_readText_51 at hf
          refine lv_aload_n hx hb dX7_readText_51 rfl (lv_at hl 0 rfl) ?_
          refine q_get hB hW 7 in_X7 0 rfl rfl 20 (by decide) fl_75 (v := .int y51_p0_faultAt) rfl dX7_readText_52 ?_
          refine lv_bipush (v := -9) hx hb dX7_readText_55 (by decide) ?_
          refine lv_icmp_ne (tgt := 87) hx hb dX7_readText_57 (by decide) (fun c_4 => ?_) (fun c_4 => ?_)
          · have hf := it_f c_4 hf
            have h9 := o_inr hf ho_51
            exact K_51 (y51_p0_readPersons, y51_p0_readSkies, y51_p0_readOaths, y51_p0_at, y51_p0_faultAt, y51_p0_readPerson, y51_p0_readSky, y51_p0_readOath) h9 _ _ _ hW (lv_sub hl [0] rfl)
          · have hf := it_t c_4 hf
            refine lv_aload_n hx hb dX7_readText_60 rfl (lv_at hl 0 rfl) ?_
            refine q_get hB hW 7 in_X7 0 rfl rfl 19 (by decide) fl_78 (v := .int y51_p0_at) rfl dX7_readText_61 ?_
            refine lv_aload_n hx hb dX7_readText_64 rfl (lv_at hl 0 rfl) ?_
            refine q_get hB hW 7 in_X7 0 rfl rfl 18 (by decide) fl_71 (v := .int p0_length) rfl dX7_readText_65 ?_
            refine lv_icmp_ge (tgt := 87) hx hb dX7_readText_68 (by decide) (fun c_5 => ?_) (fun c_5 => ?_)
            · have hf := it_t c_5 hf
              have h9 := o_inr hf ho_51
              exact K_51 (y51_p0_readPersons, y51_p0_readSkies, y51_p0_readOaths, y51_p0_at, y51_p0_faultAt, y51_p0_readPerson, y51_p0_readSky, y51_p0_readOath) h9 _ _ _ hW (lv_sub hl [0] rfl)
            · have hf := it_f c_5 hf
              refine lv_aload_n hx hb dX7_readText_71 rfl (lv_at hl 0 rfl) ?_
              refine lv_aload_n hx hb dX7_readText_72 rfl (lv_at hl 0 rfl) ?_
              refine q_get hB hW 7 in_X7 0 rfl rfl 17 (by decide) fl_43 (v := .ref a_p0_text) rfl dX7_readText_73 ?_
              refine lv_aload_n hx hb dX7_readText_76 rfl (lv_at hl 0 rfl) ?_
              refine q_get hB hW 7 in_X7 0 rfl rfl 19 (by decide) fl_78 (v := .int y51_p0_at) rfl dX7_readText_77 ?_
              obtain ⟨r_6, hr_6, hf⟩ := bnd hf
              refine q_iald hB hW 4 rfl hr_6 dX7_readText_80 ?_
              obtain ⟨r_7, hr_7, hf⟩ := bnd hf
              refine q_callVV hB hW (ci := 7) (q0 := 0) rfl rfl rfl (As := [.int r_6]) (rest := []) (ws' := [(a_p0, .inr (7, [.int p0_persons, .int p0_skies, .int p0_oaths, .ref a_p0_kind, .ref a_p0_skyAt, .ref a_p0_skyLoud, .ref a_p0_one, .ref a_p0_other, .ref a_p0_worth, .ref a_p0_hangs, .ref a_p0_now, .ref a_p0_readPerson, .ref a_p0_readSky, .ref a_p0_readOath, .int r_7.1, .int r_7.2.1, .int r_7.2.2.1, .ref a_p0_text, .int p0_length, .int r_7.2.2.2.1, .int r_7.2.2.2.2.1, .int p0_acts, .int p0_next, .ref a_p0_row, .int p0_told, .ref a_p0_toldAt, .ref a_p0_toldWool, .ref a_p0_toldHeard, .long p0_seed, .ref a_p0_isKept, .ref a_p0_kept])), (a_p0_readPerson, .inl (cI, 10, .inl r_7.2.2.2.2.2.1)), (a_p0_readSky, .inl (cI, 10, .inl r_7.2.2.2.2.2.2.1)), (a_p0_readOath, .inl (cI, 20, .inl r_7.2.2.2.2.2.2.2)), (a_p0_text, .inl (cI, 60, .inl p0_text))]) (c_X7_readPart l D cI cZ a_p0 a_p0_kind a_p0_skyAt a_p0_skyLoud a_p0_one a_p0_other a_p0_worth a_p0_hangs a_p0_now a_p0_readPerson a_p0_readSky a_p0_readOath a_p0_text a_p0_row a_p0_toldAt a_p0_toldWool a_p0_toldHeard a_p0_isKept a_p0_kept p0_persons p0_skies p0_oaths y51_p0_readPersons y51_p0_readSkies y51_p0_readOaths p0_length y51_p0_at y51_p0_faultAt p0_acts p0_next p0_told p0_seed y51_p0_readPerson y51_p0_readSky y51_p0_readOath p0_text r_6 r_7 hr_7) (cwV 1 hts gX7_readText_X7_readPart rfl rfl rfl (by decide +kernel) ⟨Nat.le_of_ble_eq_true rfl, Nat.le_of_ble_eq_true rfl⟩) [0, 1, 2, 3, 4] rfl rfl rfl rfl rfl hl.1 rfl (Nat.le_of_ble_eq_true rfl) ⟨Nat.le_of_ble_eq_true rfl, Nat.le_of_ble_eq_true rfl⟩ dX7_readText_81 (fun H locs hW => ?_)
              refine lv_goto (tgt := 51) hx hb dX7_readText_84 (by decide) ?_
              have h9 := o_inl hf ho_51
              exact ih r_7.1 r_7.2.1 r_7.2.2.1 r_7.2.2.2.1 r_7.2.2.2.2.1 r_7.2.2.2.2.2.1 r_7.2.2.2.2.2.2.1 r_7.2.2.2.2.2.2.2 _ _ _ h9 hW (lv_sub hl [0] rfl)
      exact L_51 FU (0 : Int32) (0 : Int32) (0 : Int32) (1 : Int32) (-9 : Int32) p0_readPerson p0_readSky p0_readOath _ _ _ hl_51 hW (lv_sub hl [0] rfl)
    · have hf := it_f c_3 hf
      refine lv_iconst (v := 0) hx hb dX7_readText_44 (by decide) ?_
      exact hE _ _ _ _ _ ((0 : Int32), (0 : Int32), (0 : Int32), (0 : Int32), (0 : Int32), (-9 : Int32), p0_readPerson, p0_readSky, p0_readOath) (sm hf) hW rfl dX7_readText_45
def f_X7_fault (p0_readPersons : Int32) (p0_readSkies : Int32) (p0_readOaths : Int32) (p0_length : Int32) (p0_at : Int32) (p0_faultAt : Int32) (p0_readPerson : Nat → Int32) (p0_readSky : Nat → Int32) (p0_readOath : Nat → Int32) (p0_text : Nat → Int32) : Option (Int32 × Int32 × Int32 × Int32 × Int32 × Int32 × (Nat → Int32) × (Nat → Int32) × (Nat → Int32)) := (f_X7_readText p0_readPersons p0_readSkies p0_readOaths p0_length p0_at p0_faultAt p0_readPerson p0_readSky p0_readOath p0_text).bind fun r_1 => some (r_1.1, r_1.2.1, r_1.2.2.1, r_1.2.2.2.1, r_1.2.2.2.2.1, r_1.2.2.2.2.2.1, r_1.2.2.2.2.2.2.1, r_1.2.2.2.2.2.2.2.1, r_1.2.2.2.2.2.2.2.2)
set_option maxHeartbeats 4000000 in
set_option maxRecDepth 100000 in
theorem c_X7_fault (l : Launch) (D : va_G) (cI cZ : ClassId) (a_p0 a_p0_kind a_p0_skyAt a_p0_skyLoud a_p0_one a_p0_other a_p0_worth a_p0_hangs a_p0_now a_p0_readPerson a_p0_readSky a_p0_readOath a_p0_text a_p0_row a_p0_toldAt a_p0_toldWool a_p0_toldHeard a_p0_isKept a_p0_kept : Nat) (p0_persons : Int32) (p0_skies : Int32) (p0_oaths : Int32) (p0_readPersons : Int32) (p0_readSkies : Int32) (p0_readOaths : Int32) (p0_length : Int32) (p0_at : Int32) (p0_faultAt : Int32) (p0_acts : Int32) (p0_next : Int32) (p0_told : Int32) (p0_seed : Int64) (p0_readPerson : Nat → Int32) (p0_readSky : Nat → Int32) (p0_readOath : Nat → Int32) (p0_text : Nat → Int32) (q : Int32 × Int32 × Int32 × Int32 × Int32 × Int32 × (Nat → Int32) × (Nat → Int32) × (Nat → Int32)) (hf : f_X7_fault p0_readPersons p0_readSkies p0_readOaths p0_length p0_at p0_faultAt p0_readPerson p0_readSky p0_readOath p0_text = some q) : CtI l D cI cZ yX7_fault wsX7_fault 5 111 [.ref a_p0] [(a_p0, .inr (7, [.int p0_persons, .int p0_skies, .int p0_oaths, .ref a_p0_kind, .ref a_p0_skyAt, .ref a_p0_skyLoud, .ref a_p0_one, .ref a_p0_other, .ref a_p0_worth, .ref a_p0_hangs, .ref a_p0_now, .ref a_p0_readPerson, .ref a_p0_readSky, .ref a_p0_readOath, .int p0_readPersons, .int p0_readSkies, .int p0_readOaths, .ref a_p0_text, .int p0_length, .int p0_at, .int p0_faultAt, .int p0_acts, .int p0_next, .ref a_p0_row, .int p0_told, .ref a_p0_toldAt, .ref a_p0_toldWool, .ref a_p0_toldHeard, .long p0_seed, .ref a_p0_isKept, .ref a_p0_kept])), (a_p0_readPerson, .inl (cI, 10, .inl p0_readPerson)), (a_p0_readSky, .inl (cI, 10, .inl p0_readSky)), (a_p0_readOath, .inl (cI, 20, .inl p0_readOath)), (a_p0_text, .inl (cI, 60, .inl p0_text))] (fun q => [(a_p0, .inr (7, [.int p0_persons, .int p0_skies, .int p0_oaths, .ref a_p0_kind, .ref a_p0_skyAt, .ref a_p0_skyLoud, .ref a_p0_one, .ref a_p0_other, .ref a_p0_worth, .ref a_p0_hangs, .ref a_p0_now, .ref a_p0_readPerson, .ref a_p0_readSky, .ref a_p0_readOath, .int q.2.1, .int q.2.2.1, .int q.2.2.2.1, .ref a_p0_text, .int p0_length, .int q.2.2.2.2.1, .int q.2.2.2.2.2.1, .int p0_acts, .int p0_next, .ref a_p0_row, .int p0_told, .ref a_p0_toldAt, .ref a_p0_toldWool, .ref a_p0_toldHeard, .long p0_seed, .ref a_p0_isKept, .ref a_p0_kept])), (a_p0_readPerson, .inl (cI, 10, .inl q.2.2.2.2.2.2.1)), (a_p0_readSky, .inl (cI, 10, .inl q.2.2.2.2.2.2.2.1)), (a_p0_readOath, .inl (cI, 20, .inl q.2.2.2.2.2.2.2.2)), (a_p0_text, .inl (cI, 60, .inl p0_text))]) (fun q => q.1) q := by
  refine CtI.of (cc := cX7_fault) (maxL := 1) (plainFor_of_name (by decide)) rfl (Nat.le_of_ble_eq_true rfl) ?_
  intro p e s m args below meth c A Q H ls hB hE hW hl
  have hx := hB.1
  have hb := hB.2.1
  have hml := hB.2.2.2.1
  have hown : s.vm.findClass RX7 = some m.cls := hB.2.2.2.2.1
  have hts := hB.2.2.2.2.2.1
  have hK := hB.2.2.2.2.2.2.2.1.1
  have hl : lv_has ls 1 [(0, .ref a_p0)] := hl
  unfold f_X7_fault at hf
  refine lv_aload_n hx hb dX7_fault_0 rfl (lv_at hl 0 rfl) ?_
  obtain ⟨r_1, hr_1, hf⟩ := bnd hf
  refine q_callVI hB hW (ci := 7) (q0 := 0) rfl rfl rfl (As := []) (rest := []) (ws' := [(a_p0, .inr (7, [.int p0_persons, .int p0_skies, .int p0_oaths, .ref a_p0_kind, .ref a_p0_skyAt, .ref a_p0_skyLoud, .ref a_p0_one, .ref a_p0_other, .ref a_p0_worth, .ref a_p0_hangs, .ref a_p0_now, .ref a_p0_readPerson, .ref a_p0_readSky, .ref a_p0_readOath, .int r_1.2.1, .int r_1.2.2.1, .int r_1.2.2.2.1, .ref a_p0_text, .int p0_length, .int r_1.2.2.2.2.1, .int r_1.2.2.2.2.2.1, .int p0_acts, .int p0_next, .ref a_p0_row, .int p0_told, .ref a_p0_toldAt, .ref a_p0_toldWool, .ref a_p0_toldHeard, .long p0_seed, .ref a_p0_isKept, .ref a_p0_kept])), (a_p0_readPerson, .inl (cI, 10, .inl r_1.2.2.2.2.2.2.1)), (a_p0_readSky, .inl (cI, 10, .inl r_1.2.2.2.2.2.2.2.1)), (a_p0_readOath, .inl (cI, 20, .inl r_1.2.2.2.2.2.2.2.2)), (a_p0_text, .inl (cI, 60, .inl p0_text))]) (c_X7_readText l D cI cZ a_p0 a_p0_kind a_p0_skyAt a_p0_skyLoud a_p0_one a_p0_other a_p0_worth a_p0_hangs a_p0_now a_p0_readPerson a_p0_readSky a_p0_readOath a_p0_text a_p0_row a_p0_toldAt a_p0_toldWool a_p0_toldHeard a_p0_isKept a_p0_kept p0_persons p0_skies p0_oaths p0_readPersons p0_readSkies p0_readOaths p0_length p0_at p0_faultAt p0_acts p0_next p0_told p0_seed p0_readPerson p0_readSky p0_readOath p0_text r_1 hr_1) (cwV 0 hts gX7_fault_X7_readText rfl rfl rfl (by decide +kernel) ⟨Nat.le_of_ble_eq_true rfl, Nat.le_of_ble_eq_true rfl⟩) [0, 1, 2, 3, 4] rfl rfl rfl rfl rfl hl.1 rfl (Nat.le_of_ble_eq_true rfl) ⟨Nat.le_of_ble_eq_true rfl, Nat.le_of_ble_eq_true rfl⟩ dX7_fault_1 (fun H locs hW => ?_)
  exact hE _ _ _ _ _ (r_1.1, r_1.2.1, r_1.2.2.1, r_1.2.2.2.1, r_1.2.2.2.2.1, r_1.2.2.2.2.2.1, r_1.2.2.2.2.2.2.1, r_1.2.2.2.2.2.2.2.1, r_1.2.2.2.2.2.2.2.2) (sm hf) hW rfl dX7_fault_4
