def f_X7_later (v1 : Int32) (v2 : Int32) (p0_persons : Int32) (p0_skies : Int32) (p0_oaths : Int32) (p0_kind : Nat → Int32) (p0_skyAt : Nat → Int32) (p0_skyLoud : Nat → Int32) (p0_one : Nat → Int32) (p0_other : Nat → Int32) (p0_worth : Nat → Int32) (p0_hangs : Nat → Int32) (p0_now : Nat → Int32) : Option (Int32 × (Nat → Int32)) := (f_X7_in (Int32.toInt64 v1) (0 : Int64) (30 : Int64)).bind fun r_1 => if r_1 = (0 : Int32) then some ((-2 : Int32), p0_now) else (f_X7_in (Int32.toInt64 v2) (0 : Int64) (1 : Int64)).bind fun r_3 => if r_3 = (0 : Int32) then some ((-2 : Int32), p0_now) else (f_X7_layTrial p0_now).bind fun r_5 => (f_X7_goOn v1 p0_persons p0_skies p0_oaths p0_kind p0_skyAt p0_skyLoud p0_one p0_other p0_worth p0_hangs r_5).bind fun r_6 => if v2 = (0 : Int32) then (ald r_6 18 ((9 : Int32) + (6 : Int32))).bind fun r_9 => some (r_9, r_6) else (ald r_6 18 ((9 : Int32) + (7 : Int32))).bind fun r_8 => some (r_8, r_6)
set_option maxHeartbeats 4000000 in
set_option maxRecDepth 100000 in
theorem c_X7_later (l : Launch) (D : va_G) (cI cZ : ClassId) (a_p0 a_p0_kind a_p0_skyAt a_p0_skyLoud a_p0_one a_p0_other a_p0_worth a_p0_hangs a_p0_now a_p0_readPerson a_p0_readSky a_p0_readOath a_p0_text a_p0_row a_p0_toldAt a_p0_toldWool a_p0_toldHeard a_p0_isKept a_p0_kept : Nat) (p0_persons : Int32) (p0_skies : Int32) (p0_oaths : Int32) (p0_readPersons : Int32) (p0_readSkies : Int32) (p0_readOaths : Int32) (p0_length : Int32) (p0_at : Int32) (p0_faultAt : Int32) (p0_acts : Int32) (p0_next : Int32) (p0_told : Int32) (p0_seed : Int64) (p0_kind : Nat → Int32) (p0_skyAt : Nat → Int32) (p0_skyLoud : Nat → Int32) (p0_one : Nat → Int32) (p0_other : Nat → Int32) (p0_worth : Nat → Int32) (p0_hangs : Nat → Int32) (p0_now : Nat → Int32) (v1 : Int32) (v2 : Int32) (q : Int32 × (Nat → Int32)) (hf : f_X7_later v1 v2 p0_persons p0_skies p0_oaths p0_kind p0_skyAt p0_skyLoud p0_one p0_other p0_worth p0_hangs p0_now = some q) : CtI l D cI cZ yX7_later wsX7_later 6 148 [.ref a_p0, .int v1, .int v2] [(a_p0, .inr (7, [.int p0_persons, .int p0_skies, .int p0_oaths, .ref a_p0_kind, .ref a_p0_skyAt, .ref a_p0_skyLoud, .ref a_p0_one, .ref a_p0_other, .ref a_p0_worth, .ref a_p0_hangs, .ref a_p0_now, .ref a_p0_readPerson, .ref a_p0_readSky, .ref a_p0_readOath, .int p0_readPersons, .int p0_readSkies, .int p0_readOaths, .ref a_p0_text, .int p0_length, .int p0_at, .int p0_faultAt, .int p0_acts, .int p0_next, .ref a_p0_row, .int p0_told, .ref a_p0_toldAt, .ref a_p0_toldWool, .ref a_p0_toldHeard, .long p0_seed, .ref a_p0_isKept, .ref a_p0_kept])), (a_p0_kind, .inl (cI, 5, .inl p0_kind)), (a_p0_skyAt, .inl (cI, 5, .inl p0_skyAt)), (a_p0_skyLoud, .inl (cI, 5, .inl p0_skyLoud)), (a_p0_one, .inl (cI, 5, .inl p0_one)), (a_p0_other, .inl (cI, 5, .inl p0_other)), (a_p0_worth, .inl (cI, 5, .inl p0_worth)), (a_p0_hangs, .inl (cI, 5, .inl p0_hangs)), (a_p0_now, .inl (cI, 18, .inl p0_now))] (fun q => [(a_p0, .inr (7, [.int p0_persons, .int p0_skies, .int p0_oaths, .ref a_p0_kind, .ref a_p0_skyAt, .ref a_p0_skyLoud, .ref a_p0_one, .ref a_p0_other, .ref a_p0_worth, .ref a_p0_hangs, .ref a_p0_now, .ref a_p0_readPerson, .ref a_p0_readSky, .ref a_p0_readOath, .int p0_readPersons, .int p0_readSkies, .int p0_readOaths, .ref a_p0_text, .int p0_length, .int p0_at, .int p0_faultAt, .int p0_acts, .int p0_next, .ref a_p0_row, .int p0_told, .ref a_p0_toldAt, .ref a_p0_toldWool, .ref a_p0_toldHeard, .long p0_seed, .ref a_p0_isKept, .ref a_p0_kept])), (a_p0_kind, .inl (cI, 5, .inl p0_kind)), (a_p0_skyAt, .inl (cI, 5, .inl p0_skyAt)), (a_p0_skyLoud, .inl (cI, 5, .inl p0_skyLoud)), (a_p0_one, .inl (cI, 5, .inl p0_one)), (a_p0_other, .inl (cI, 5, .inl p0_other)), (a_p0_worth, .inl (cI, 5, .inl p0_worth)), (a_p0_hangs, .inl (cI, 5, .inl p0_hangs)), (a_p0_now, .inl (cI, 18, .inl q.2))]) (fun q => q.1) q := by
  refine CtI.of (cc := cX7_later) (maxL := 3) (plainFor_of_name (by decide)) rfl (Nat.le_of_ble_eq_true rfl) ?_
  intro p e s m args below meth c A Q H ls hB hE hW hl
  have hx := hB.1
  have hb := hB.2.1
  have hml := hB.2.2.2.1
  have hown : s.vm.findClass RX7 = some m.cls := hB.2.2.2.2.1
  have hts := hB.2.2.2.2.2.1
  have hK := hB.2.2.2.2.2.2.2.1.1
  have hl : lv_has ls 3 [(0, .ref a_p0), (1, .int v1), (2, .int v2)] := hl
  have in_X7 : ∀ w ∈ wsX70, w ∈ wsX7_later := fun w h => List.mem_cons_of_mem _ (List.mem_append_right _ h)
  have fl_31 : (Cond.fieldLink RX7 31 (TX7 10).1 (TX7 10).2.1 (TX7 10).2.2.1).before args s = true := hts (.fieldLink RX7 31 "ClapOathsModel" "now" "[I") (by decide +kernel)
  unfold f_X7_later at hf
  refine lv_iload_n hx hb dX7_later_0 rfl (lv_at hl 1 rfl) ?_
  refine lv_i2l (v := (Int32.toInt64 v1)) hx hb dX7_later_1 rfl ?_
  refine lv_lconst (v := 0) hx hb dX7_later_2 (by decide) ?_
  refine lv_ldc2 (v := 30) hx hb hown (hts (.constantLong RX7 188 (30)) (by decide +kernel)) dX7_later_3 ?_
  obtain ⟨r_1, hr_1, hf⟩ := bnd hf
  refine q_callSZ hB hW (As := [.long (Int32.toInt64 v1), .long (0 : Int64), .long (30 : Int64)]) (rest := []) (ws' := [(a_p0, .inr (7, [.int p0_persons, .int p0_skies, .int p0_oaths, .ref a_p0_kind, .ref a_p0_skyAt, .ref a_p0_skyLoud, .ref a_p0_one, .ref a_p0_other, .ref a_p0_worth, .ref a_p0_hangs, .ref a_p0_now, .ref a_p0_readPerson, .ref a_p0_readSky, .ref a_p0_readOath, .int p0_readPersons, .int p0_readSkies, .int p0_readOaths, .ref a_p0_text, .int p0_length, .int p0_at, .int p0_faultAt, .int p0_acts, .int p0_next, .ref a_p0_row, .int p0_told, .ref a_p0_toldAt, .ref a_p0_toldWool, .ref a_p0_toldHeard, .long p0_seed, .ref a_p0_isKept, .ref a_p0_kept])), (a_p0_kind, .inl (cI, 5, .inl p0_kind)), (a_p0_skyAt, .inl (cI, 5, .inl p0_skyAt)), (a_p0_skyLoud, .inl (cI, 5, .inl p0_skyLoud)), (a_p0_one, .inl (cI, 5, .inl p0_one)), (a_p0_other, .inl (cI, 5, .inl p0_other)), (a_p0_worth, .inl (cI, 5, .inl p0_worth)), (a_p0_hangs, .inl (cI, 5, .inl p0_hangs)), (a_p0_now, .inl (cI, 18, .inl p0_now))]) (c_X7_in l D cI cZ (Int32.toInt64 v1) (0 : Int64) (30 : Int64) r_1 hr_1) (va_cwS 3 hts gX7_later_X7_in rfl rfl rfl (by decide +kernel) ⟨Nat.le_of_ble_eq_true rfl, Nat.le_of_ble_eq_true rfl⟩) [] rfl rfl rfl rfl rfl hl.1 rfl (Nat.le_of_ble_eq_true rfl) ⟨Nat.le_of_ble_eq_true rfl, Nat.le_of_ble_eq_true rfl⟩ dX7_later_6 (fun hzr_1 H locs hW => ?_)
  refine lv_if_eq (tgt := 22) hx hb dX7_later_9 (by decide) (fun c_2 => ?_) (fun c_2 => ?_)
  · have hf := it_t c_2 hf
    refine lv_bipush (v := -2) hx hb dX7_later_22 (by decide) ?_
    exact hE _ _ _ _ _ ((-2 : Int32), p0_now) (sm hf) hW rfl dX7_later_24
  · have hf := it_f c_2 hf
    refine lv_iload_n hx hb dX7_later_12 rfl (lv_at hl 2 rfl) ?_
    refine lv_i2l (v := (Int32.toInt64 v2)) hx hb dX7_later_13 rfl ?_
    refine lv_lconst (v := 0) hx hb dX7_later_14 (by decide) ?_
    refine lv_lconst (v := 1) hx hb dX7_later_15 (by decide) ?_
    obtain ⟨r_3, hr_3, hf⟩ := bnd hf
    refine q_callSZ hB hW (As := [.long (Int32.toInt64 v2), .long (0 : Int64), .long (1 : Int64)]) (rest := []) (ws' := [(a_p0, .inr (7, [.int p0_persons, .int p0_skies, .int p0_oaths, .ref a_p0_kind, .ref a_p0_skyAt, .ref a_p0_skyLoud, .ref a_p0_one, .ref a_p0_other, .ref a_p0_worth, .ref a_p0_hangs, .ref a_p0_now, .ref a_p0_readPerson, .ref a_p0_readSky, .ref a_p0_readOath, .int p0_readPersons, .int p0_readSkies, .int p0_readOaths, .ref a_p0_text, .int p0_length, .int p0_at, .int p0_faultAt, .int p0_acts, .int p0_next, .ref a_p0_row, .int p0_told, .ref a_p0_toldAt, .ref a_p0_toldWool, .ref a_p0_toldHeard, .long p0_seed, .ref a_p0_isKept, .ref a_p0_kept])), (a_p0_kind, .inl (cI, 5, .inl p0_kind)), (a_p0_skyAt, .inl (cI, 5, .inl p0_skyAt)), (a_p0_skyLoud, .inl (cI, 5, .inl p0_skyLoud)), (a_p0_one, .inl (cI, 5, .inl p0_one)), (a_p0_other, .inl (cI, 5, .inl p0_other)), (a_p0_worth, .inl (cI, 5, .inl p0_worth)), (a_p0_hangs, .inl (cI, 5, .inl p0_hangs)), (a_p0_now, .inl (cI, 18, .inl p0_now))]) (c_X7_in l D cI cZ (Int32.toInt64 v2) (0 : Int64) (1 : Int64) r_3 hr_3) (va_cwS 3 hts gX7_later_X7_in rfl rfl rfl (by decide +kernel) ⟨Nat.le_of_ble_eq_true rfl, Nat.le_of_ble_eq_true rfl⟩) [] rfl rfl rfl rfl rfl hl.1 rfl (Nat.le_of_ble_eq_true rfl) ⟨Nat.le_of_ble_eq_true rfl, Nat.le_of_ble_eq_true rfl⟩ dX7_later_16 (fun hzr_3 H locs hW => ?_)
    refine lv_if_ne (tgt := 25) hx hb dX7_later_19 (by decide) (fun c_4 => ?_) (fun c_4 => ?_)
    · have hf := it_f c_4 hf
      refine lv_aload_n hx hb dX7_later_25 rfl (lv_at hl 0 rfl) ?_
      obtain ⟨r_5, hr_5, hf⟩ := bnd hf
      refine q_callVV hB hW (ci := 7) (q0 := 0) rfl rfl rfl (As := []) (rest := []) (ws' := [(a_p0, .inr (7, [.int p0_persons, .int p0_skies, .int p0_oaths, .ref a_p0_kind, .ref a_p0_skyAt, .ref a_p0_skyLoud, .ref a_p0_one, .ref a_p0_other, .ref a_p0_worth, .ref a_p0_hangs, .ref a_p0_now, .ref a_p0_readPerson, .ref a_p0_readSky, .ref a_p0_readOath, .int p0_readPersons, .int p0_readSkies, .int p0_readOaths, .ref a_p0_text, .int p0_length, .int p0_at, .int p0_faultAt, .int p0_acts, .int p0_next, .ref a_p0_row, .int p0_told, .ref a_p0_toldAt, .ref a_p0_toldWool, .ref a_p0_toldHeard, .long p0_seed, .ref a_p0_isKept, .ref a_p0_kept])), (a_p0_kind, .inl (cI, 5, .inl p0_kind)), (a_p0_skyAt, .inl (cI, 5, .inl p0_skyAt)), (a_p0_skyLoud, .inl (cI, 5, .inl p0_skyLoud)), (a_p0_one, .inl (cI, 5, .inl p0_one)), (a_p0_other, .inl (cI, 5, .inl p0_other)), (a_p0_worth, .inl (cI, 5, .inl p0_worth)), (a_p0_hangs, .inl (cI, 5, .inl p0_hangs)), (a_p0_now, .inl (cI, 18, .inl r_5))]) (c_X7_layTrial l D cI cZ a_p0 a_p0_kind a_p0_skyAt a_p0_skyLoud a_p0_one a_p0_other a_p0_worth a_p0_hangs a_p0_now a_p0_readPerson a_p0_readSky a_p0_readOath a_p0_text a_p0_row a_p0_toldAt a_p0_toldWool a_p0_toldHeard a_p0_isKept a_p0_kept p0_persons p0_skies p0_oaths p0_readPersons p0_readSkies p0_readOaths p0_length p0_at p0_faultAt p0_acts p0_next p0_told p0_seed p0_now r_5 hr_5) (cwV 0 hts gX7_later_X7_layTrial rfl rfl rfl (by decide +kernel) ⟨Nat.le_of_ble_eq_true rfl, Nat.le_of_ble_eq_true rfl⟩) [0, 8] rfl rfl rfl rfl rfl hl.1 rfl (Nat.le_of_ble_eq_true rfl) ⟨Nat.le_of_ble_eq_true rfl, Nat.le_of_ble_eq_true rfl⟩ dX7_later_26 (fun H locs hW => ?_)
      refine lv_aload_n hx hb dX7_later_29 rfl (lv_at hl 0 rfl) ?_
      refine lv_iload_n hx hb dX7_later_30 rfl (lv_at hl 1 rfl) ?_
      obtain ⟨r_6, hr_6, hf⟩ := bnd hf
      refine q_callVV hB hW (ci := 7) (q0 := 0) rfl rfl rfl (As := [.int v1]) (rest := []) (ws' := [(a_p0, .inr (7, [.int p0_persons, .int p0_skies, .int p0_oaths, .ref a_p0_kind, .ref a_p0_skyAt, .ref a_p0_skyLoud, .ref a_p0_one, .ref a_p0_other, .ref a_p0_worth, .ref a_p0_hangs, .ref a_p0_now, .ref a_p0_readPerson, .ref a_p0_readSky, .ref a_p0_readOath, .int p0_readPersons, .int p0_readSkies, .int p0_readOaths, .ref a_p0_text, .int p0_length, .int p0_at, .int p0_faultAt, .int p0_acts, .int p0_next, .ref a_p0_row, .int p0_told, .ref a_p0_toldAt, .ref a_p0_toldWool, .ref a_p0_toldHeard, .long p0_seed, .ref a_p0_isKept, .ref a_p0_kept])), (a_p0_kind, .inl (cI, 5, .inl p0_kind)), (a_p0_skyAt, .inl (cI, 5, .inl p0_skyAt)), (a_p0_skyLoud, .inl (cI, 5, .inl p0_skyLoud)), (a_p0_one, .inl (cI, 5, .inl p0_one)), (a_p0_other, .inl (cI, 5, .inl p0_other)), (a_p0_worth, .inl (cI, 5, .inl p0_worth)), (a_p0_hangs, .inl (cI, 5, .inl p0_hangs)), (a_p0_now, .inl (cI, 18, .inl r_6))]) (c_X7_goOn l D cI cZ a_p0 a_p0_kind a_p0_skyAt a_p0_skyLoud a_p0_one a_p0_other a_p0_worth a_p0_hangs a_p0_now a_p0_readPerson a_p0_readSky a_p0_readOath a_p0_text a_p0_row a_p0_toldAt a_p0_toldWool a_p0_toldHeard a_p0_isKept a_p0_kept p0_persons p0_skies p0_oaths p0_readPersons p0_readSkies p0_readOaths p0_length p0_at p0_faultAt p0_acts p0_next p0_told p0_seed p0_kind p0_skyAt p0_skyLoud p0_one p0_other p0_worth p0_hangs r_5 v1 r_6 hr_6) (cwV 1 hts gX7_later_X7_goOn rfl rfl rfl (by decide +kernel) ⟨Nat.le_of_ble_eq_true rfl, Nat.le_of_ble_eq_true rfl⟩) [0, 1, 2, 3, 4, 5, 6, 7, 8] rfl rfl rfl rfl rfl hl.1 rfl (Nat.le_of_ble_eq_true rfl) ⟨Nat.le_of_ble_eq_true rfl, Nat.le_of_ble_eq_true rfl⟩ dX7_later_31 (fun H locs hW => ?_)
      refine lv_aload_n hx hb dX7_later_34 rfl (lv_at hl 0 rfl) ?_
      refine q_get hB hW 7 in_X7 0 rfl rfl 10 (by decide) fl_31 (v := .ref a_p0_now) rfl dX7_later_35 ?_
      refine lv_bipush (v := 9) hx hb dX7_later_38 (by decide) ?_
      refine lv_iload_n hx hb dX7_later_40 rfl (lv_at hl 2 rfl) ?_
      refine lv_if_ne (tgt := 49) hx hb dX7_later_41 (by decide) (fun c_7 => ?_) (fun c_7 => ?_)
      · have hf := it_f c_7 hf
        refine lv_bipush (v := 7) hx hb dX7_later_49 (by decide) ?_
        refine lv_iadd hx hb dX7_later_51 ?_
        obtain ⟨r_8, hr_8, hf⟩ := bnd hf
        refine q_iald hB hW 8 rfl hr_8 dX7_later_52 ?_
        exact hE _ _ _ _ _ (r_8, r_6) (sm hf) hW rfl dX7_later_53
      · have hf := it_t c_7 hf
        refine lv_bipush (v := 6) hx hb dX7_later_44 (by decide) ?_
        refine lv_goto (tgt := 51) hx hb dX7_later_46 (by decide) ?_
        refine lv_iadd hx hb dX7_later_51 ?_
        obtain ⟨r_9, hr_9, hf⟩ := bnd hf
        refine q_iald hB hW 8 rfl hr_9 dX7_later_52 ?_
        exact hE _ _ _ _ _ (r_9, r_6) (sm hf) hW rfl dX7_later_53
    · have hf := it_t c_4 hf
      refine lv_bipush (v := -2) hx hb dX7_later_22 (by decide) ?_
      exact hE _ _ _ _ _ ((-2 : Int32), p0_now) (sm hf) hW rfl dX7_later_24
def b_X7_lasts_33 (v1 : Int32) (p0_persons : Int32) (p0_skies : Int32) (p0_oaths : Int32) (p0_kind : Nat → Int32) (p0_skyAt : Nat → Int32) (p0_skyLoud : Nat → Int32) (p0_one : Nat → Int32) (p0_other : Nat → Int32) (p0_worth : Nat → Int32) (p0_hangs : Nat → Int32) (v2 : Int32) (p0_now : Nat → Int32) : Option ((Int32 × (Nat → Int32)) ⊕ (((Nat → Int32) ⊕ (Int32 × (Nat → Int32))))) := if (31 : Int32) ≤ v2 then some (.inr (.inl p0_now)) else (f_X7_passOn (1 : Int32) (1 : Int32) p0_persons p0_skies p0_oaths p0_kind p0_skyAt p0_skyLoud p0_one p0_other p0_worth p0_hangs p0_now).bind fun r_535 => (ald r_535.2 18 (15 : Int32)).bind fun r_536 => (f_X7_has r_536 v1).bind fun r_537 => if r_537 = (0 : Int32) then some (.inr (.inr (v2, r_535.2))) else some (.inl ((v2 + (1 : Int32)), r_535.2))
def f_X7_lasts (v1 : Int32) (p0_persons : Int32) (p0_skies : Int32) (p0_oaths : Int32) (p0_kind : Nat → Int32) (p0_skyAt : Nat → Int32) (p0_skyLoud : Nat → Int32) (p0_one : Nat → Int32) (p0_other : Nat → Int32) (p0_worth : Nat → Int32) (p0_hangs : Nat → Int32) (p0_now : Nat → Int32) : Option (Int32 × (Nat → Int32)) := (f_X7_isOath v1 p0_oaths).bind fun r_1 => if r_1 = (0 : Int32) then some ((-1 : Int32), p0_now) else (ald p0_now 18 (6 : Int32)).bind fun r_3 => (f_X7_has r_3 v1).bind fun r_4 => if r_4 = (0 : Int32) then some ((-3 : Int32), p0_now) else (f_X7_layTrial p0_now).bind fun r_6 => (itr (fun s => b_X7_lasts_33 v1 p0_persons p0_skies p0_oaths p0_kind p0_skyAt p0_skyLoud p0_one p0_other p0_worth p0_hangs s.1 s.2) FU ((1 : Int32), r_6)).bind fun e_33 => Sum.elim (fun x_33 => some ((-9 : Int32), x_33)) (fun r_33 => some r_33) e_33
set_option maxHeartbeats 4000000 in
set_option maxRecDepth 100000 in
theorem c_X7_lasts (l : Launch) (D : va_G) (cI cZ : ClassId) (a_p0 a_p0_kind a_p0_skyAt a_p0_skyLoud a_p0_one a_p0_other a_p0_worth a_p0_hangs a_p0_now a_p0_readPerson a_p0_readSky a_p0_readOath a_p0_text a_p0_row a_p0_toldAt a_p0_toldWool a_p0_toldHeard a_p0_isKept a_p0_kept : Nat) (p0_persons : Int32) (p0_skies : Int32) (p0_oaths : Int32) (p0_readPersons : Int32) (p0_readSkies : Int32) (p0_readOaths : Int32) (p0_length : Int32) (p0_at : Int32) (p0_faultAt : Int32) (p0_acts : Int32) (p0_next : Int32) (p0_told : Int32) (p0_seed : Int64) (p0_kind : Nat → Int32) (p0_skyAt : Nat → Int32) (p0_skyLoud : Nat → Int32) (p0_one : Nat → Int32) (p0_other : Nat → Int32) (p0_worth : Nat → Int32) (p0_hangs : Nat → Int32) (p0_now : Nat → Int32) (v1 : Int32) (q : Int32 × (Nat → Int32)) (hf : f_X7_lasts v1 p0_persons p0_skies p0_oaths p0_kind p0_skyAt p0_skyLoud p0_one p0_other p0_worth p0_hangs p0_now = some q) : CtI l D cI cZ yX7_lasts wsX7_lasts 5 126 [.ref a_p0, .int v1] [(a_p0, .inr (7, [.int p0_persons, .int p0_skies, .int p0_oaths, .ref a_p0_kind, .ref a_p0_skyAt, .ref a_p0_skyLoud, .ref a_p0_one, .ref a_p0_other, .ref a_p0_worth, .ref a_p0_hangs, .ref a_p0_now, .ref a_p0_readPerson, .ref a_p0_readSky, .ref a_p0_readOath, .int p0_readPersons, .int p0_readSkies, .int p0_readOaths, .ref a_p0_text, .int p0_length, .int p0_at, .int p0_faultAt, .int p0_acts, .int p0_next, .ref a_p0_row, .int p0_told, .ref a_p0_toldAt, .ref a_p0_toldWool, .ref a_p0_toldHeard, .long p0_seed, .ref a_p0_isKept, .ref a_p0_kept])), (a_p0_kind, .inl (cI, 5, .inl p0_kind)), (a_p0_skyAt, .inl (cI, 5, .inl p0_skyAt)), (a_p0_skyLoud, .inl (cI, 5, .inl p0_skyLoud)), (a_p0_one, .inl (cI, 5, .inl p0_one)), (a_p0_other, .inl (cI, 5, .inl p0_other)), (a_p0_worth, .inl (cI, 5, .inl p0_worth)), (a_p0_hangs, .inl (cI, 5, .inl p0_hangs)), (a_p0_now, .inl (cI, 18, .inl p0_now))] (fun q => [(a_p0, .inr (7, [.int p0_persons, .int p0_skies, .int p0_oaths, .ref a_p0_kind, .ref a_p0_skyAt, .ref a_p0_skyLoud, .ref a_p0_one, .ref a_p0_other, .ref a_p0_worth, .ref a_p0_hangs, .ref a_p0_now, .ref a_p0_readPerson, .ref a_p0_readSky, .ref a_p0_readOath, .int p0_readPersons, .int p0_readSkies, .int p0_readOaths, .ref a_p0_text, .int p0_length, .int p0_at, .int p0_faultAt, .int p0_acts, .int p0_next, .ref a_p0_row, .int p0_told, .ref a_p0_toldAt, .ref a_p0_toldWool, .ref a_p0_toldHeard, .long p0_seed, .ref a_p0_isKept, .ref a_p0_kept])), (a_p0_kind, .inl (cI, 5, .inl p0_kind)), (a_p0_skyAt, .inl (cI, 5, .inl p0_skyAt)), (a_p0_skyLoud, .inl (cI, 5, .inl p0_skyLoud)), (a_p0_one, .inl (cI, 5, .inl p0_one)), (a_p0_other, .inl (cI, 5, .inl p0_other)), (a_p0_worth, .inl (cI, 5, .inl p0_worth)), (a_p0_hangs, .inl (cI, 5, .inl p0_hangs)), (a_p0_now, .inl (cI, 18, .inl q.2))]) (fun q => q.1) q := by
  refine CtI.of (cc := cX7_lasts) (maxL := 3) (plainFor_of_name (by decide)) rfl (Nat.le_of_ble_eq_true rfl) ?_
  intro p e s m args below meth c A Q H ls hB hE hW hl
  have hx := hB.1
  have hb := hB.2.1
  have hml := hB.2.2.2.1
  have hown : s.vm.findClass RX7 = some m.cls := hB.2.2.2.2.1
  have hts := hB.2.2.2.2.2.1
  have hK := hB.2.2.2.2.2.2.2.1.1
  have hl : lv_has ls 3 [(0, .ref a_p0), (1, .int v1)] := hl
  have in_X7 : ∀ w ∈ wsX70, w ∈ wsX7_lasts := fun w h => List.mem_cons_of_mem _ (List.mem_append_right _ h)
  have fl_31 : (Cond.fieldLink RX7 31 (TX7 10).1 (TX7 10).2.1 (TX7 10).2.2.1).before args s = true := hts (.fieldLink RX7 31 "ClapOathsModel" "now" "[I") (by decide +kernel)
  unfold f_X7_lasts at hf
  refine lv_aload_n hx hb dX7_lasts_0 rfl (lv_at hl 0 rfl) ?_
  refine lv_iload_n hx hb dX7_lasts_1 rfl (lv_at hl 1 rfl) ?_
  obtain ⟨r_1, hr_1, hf⟩ := bnd hf
  refine q_callVZ hB hW (ci := 7) (q0 := 0) rfl rfl rfl (As := [.int v1]) (rest := []) (ws' := [(a_p0, .inr (7, [.int p0_persons, .int p0_skies, .int p0_oaths, .ref a_p0_kind, .ref a_p0_skyAt, .ref a_p0_skyLoud, .ref a_p0_one, .ref a_p0_other, .ref a_p0_worth, .ref a_p0_hangs, .ref a_p0_now, .ref a_p0_readPerson, .ref a_p0_readSky, .ref a_p0_readOath, .int p0_readPersons, .int p0_readSkies, .int p0_readOaths, .ref a_p0_text, .int p0_length, .int p0_at, .int p0_faultAt, .int p0_acts, .int p0_next, .ref a_p0_row, .int p0_told, .ref a_p0_toldAt, .ref a_p0_toldWool, .ref a_p0_toldHeard, .long p0_seed, .ref a_p0_isKept, .ref a_p0_kept])), (a_p0_kind, .inl (cI, 5, .inl p0_kind)), (a_p0_skyAt, .inl (cI, 5, .inl p0_skyAt)), (a_p0_skyLoud, .inl (cI, 5, .inl p0_skyLoud)), (a_p0_one, .inl (cI, 5, .inl p0_one)), (a_p0_other, .inl (cI, 5, .inl p0_other)), (a_p0_worth, .inl (cI, 5, .inl p0_worth)), (a_p0_hangs, .inl (cI, 5, .inl p0_hangs)), (a_p0_now, .inl (cI, 18, .inl p0_now))]) (c_X7_isOath l D cI cZ a_p0 a_p0_kind a_p0_skyAt a_p0_skyLoud a_p0_one a_p0_other a_p0_worth a_p0_hangs a_p0_now a_p0_readPerson a_p0_readSky a_p0_readOath a_p0_text a_p0_row a_p0_toldAt a_p0_toldWool a_p0_toldHeard a_p0_isKept a_p0_kept p0_persons p0_skies p0_oaths p0_readPersons p0_readSkies p0_readOaths p0_length p0_at p0_faultAt p0_acts p0_next p0_told p0_seed v1 r_1 hr_1) (cwV 1 hts gX7_lasts_X7_isOath rfl rfl rfl (by decide +kernel) ⟨Nat.le_of_ble_eq_true rfl, Nat.le_of_ble_eq_true rfl⟩) [0] rfl rfl rfl rfl rfl hl.1 rfl (Nat.le_of_ble_eq_true rfl) ⟨Nat.le_of_ble_eq_true rfl, Nat.le_of_ble_eq_true rfl⟩ dX7_lasts_2 (fun hzr_1 H locs hW => ?_)
  refine lv_if_ne (tgt := 10) hx hb dX7_lasts_5 (by decide) (fun c_2 => ?_) (fun c_2 => ?_)
  · have hf := it_f c_2 hf
    refine lv_aload_n hx hb dX7_lasts_10 rfl (lv_at hl 0 rfl) ?_
    refine q_get hB hW 7 in_X7 0 rfl rfl 10 (by decide) fl_31 (v := .ref a_p0_now) rfl dX7_lasts_11 ?_
    refine lv_bipush (v := 6) hx hb dX7_lasts_14 (by decide) ?_
    obtain ⟨r_3, hr_3, hf⟩ := bnd hf
    refine q_iald hB hW 8 rfl hr_3 dX7_lasts_16 ?_
    refine lv_iload_n hx hb dX7_lasts_17 rfl (lv_at hl 1 rfl) ?_
    obtain ⟨r_4, hr_4, hf⟩ := bnd hf
    refine q_callSZ hB hW (As := [.int r_3, .int v1]) (rest := []) (ws' := [(a_p0, .inr (7, [.int p0_persons, .int p0_skies, .int p0_oaths, .ref a_p0_kind, .ref a_p0_skyAt, .ref a_p0_skyLoud, .ref a_p0_one, .ref a_p0_other, .ref a_p0_worth, .ref a_p0_hangs, .ref a_p0_now, .ref a_p0_readPerson, .ref a_p0_readSky, .ref a_p0_readOath, .int p0_readPersons, .int p0_readSkies, .int p0_readOaths, .ref a_p0_text, .int p0_length, .int p0_at, .int p0_faultAt, .int p0_acts, .int p0_next, .ref a_p0_row, .int p0_told, .ref a_p0_toldAt, .ref a_p0_toldWool, .ref a_p0_toldHeard, .long p0_seed, .ref a_p0_isKept, .ref a_p0_kept])), (a_p0_kind, .inl (cI, 5, .inl p0_kind)), (a_p0_skyAt, .inl (cI, 5, .inl p0_skyAt)), (a_p0_skyLoud, .inl (cI, 5, .inl p0_skyLoud)), (a_p0_one, .inl (cI, 5, .inl p0_one)), (a_p0_other, .inl (cI, 5, .inl p0_other)), (a_p0_worth, .inl (cI, 5, .inl p0_worth)), (a_p0_hangs, .inl (cI, 5, .inl p0_hangs)), (a_p0_now, .inl (cI, 18, .inl p0_now))]) (c_X7_has l D cI cZ r_3 v1 r_4 hr_4) (va_cwS 2 hts gX7_lasts_X7_has rfl rfl rfl (by decide +kernel) ⟨Nat.le_of_ble_eq_true rfl, Nat.le_of_ble_eq_true rfl⟩) [] rfl rfl rfl rfl rfl hl.1 rfl (Nat.le_of_ble_eq_true rfl) ⟨Nat.le_of_ble_eq_true rfl, Nat.le_of_ble_eq_true rfl⟩ dX7_lasts_18 (fun hzr_4 H locs hW => ?_)
    refine lv_if_ne (tgt := 27) hx hb dX7_lasts_21 (by decide) (fun c_5 => ?_) (fun c_5 => ?_)
    · have hf := it_f c_5 hf
      refine lv_aload_n hx hb dX7_lasts_27 rfl (lv_at hl 0 rfl) ?_
      obtain ⟨r_6, hr_6, hf⟩ := bnd hf
      refine q_callVV hB hW (ci := 7) (q0 := 0) rfl rfl rfl (As := []) (rest := []) (ws' := [(a_p0, .inr (7, [.int p0_persons, .int p0_skies, .int p0_oaths, .ref a_p0_kind, .ref a_p0_skyAt, .ref a_p0_skyLoud, .ref a_p0_one, .ref a_p0_other, .ref a_p0_worth, .ref a_p0_hangs, .ref a_p0_now, .ref a_p0_readPerson, .ref a_p0_readSky, .ref a_p0_readOath, .int p0_readPersons, .int p0_readSkies, .int p0_readOaths, .ref a_p0_text, .int p0_length, .int p0_at, .int p0_faultAt, .int p0_acts, .int p0_next, .ref a_p0_row, .int p0_told, .ref a_p0_toldAt, .ref a_p0_toldWool, .ref a_p0_toldHeard, .long p0_seed, .ref a_p0_isKept, .ref a_p0_kept])), (a_p0_kind, .inl (cI, 5, .inl p0_kind)), (a_p0_skyAt, .inl (cI, 5, .inl p0_skyAt)), (a_p0_skyLoud, .inl (cI, 5, .inl p0_skyLoud)), (a_p0_one, .inl (cI, 5, .inl p0_one)), (a_p0_other, .inl (cI, 5, .inl p0_other)), (a_p0_worth, .inl (cI, 5, .inl p0_worth)), (a_p0_hangs, .inl (cI, 5, .inl p0_hangs)), (a_p0_now, .inl (cI, 18, .inl r_6))]) (c_X7_layTrial l D cI cZ a_p0 a_p0_kind a_p0_skyAt a_p0_skyLoud a_p0_one a_p0_other a_p0_worth a_p0_hangs a_p0_now a_p0_readPerson a_p0_readSky a_p0_readOath a_p0_text a_p0_row a_p0_toldAt a_p0_toldWool a_p0_toldHeard a_p0_isKept a_p0_kept p0_persons p0_skies p0_oaths p0_readPersons p0_readSkies p0_readOaths p0_length p0_at p0_faultAt p0_acts p0_next p0_told p0_seed p0_now r_6 hr_6) (cwV 0 hts gX7_lasts_X7_layTrial rfl rfl rfl (by decide +kernel) ⟨Nat.le_of_ble_eq_true rfl, Nat.le_of_ble_eq_true rfl⟩) [0, 8] rfl rfl rfl rfl rfl hl.1 rfl (Nat.le_of_ble_eq_true rfl) ⟨Nat.le_of_ble_eq_true rfl, Nat.le_of_ble_eq_true rfl⟩ dX7_lasts_28 (fun H locs hW => ?_)
      refine lv_iconst (v := 1) hx hb dX7_lasts_31 (by decide) ?_
      refine lv_istore_n (lv' := [(2, .int (1 : Int32)), (0, .ref a_p0), (1, .int v1)]) hx hb dX7_lasts_32 rfl hl (by decide) rfl (fun ls hl => ?_)
      obtain ⟨e_33, hl_33, hk_33⟩ := bnd hf
      have K_33 : ∀ x_33 : Nat → Int32, Sum.inl x_33 = e_33 → ∀ (H : Heap) (locs : List Loc) (ls : Array Slot), Wl D A s.heap [(a_p0, .inr (7, [.int p0_persons, .int p0_skies, .int p0_oaths, .ref a_p0_kind, .ref a_p0_skyAt, .ref a_p0_skyLoud, .ref a_p0_one, .ref a_p0_other, .ref a_p0_worth, .ref a_p0_hangs, .ref a_p0_now, .ref a_p0_readPerson, .ref a_p0_readSky, .ref a_p0_readOath, .int p0_readPersons, .int p0_readSkies, .int p0_readOaths, .ref a_p0_text, .int p0_length, .int p0_at, .int p0_faultAt, .int p0_acts, .int p0_next, .ref a_p0_row, .int p0_told, .ref a_p0_toldAt, .ref a_p0_toldWool, .ref a_p0_toldHeard, .long p0_seed, .ref a_p0_isKept, .ref a_p0_kept])), (a_p0_kind, .inl (cI, 5, .inl p0_kind)), (a_p0_skyAt, .inl (cI, 5, .inl p0_skyAt)), (a_p0_skyLoud, .inl (cI, 5, .inl p0_skyLoud)), (a_p0_one, .inl (cI, 5, .inl p0_one)), (a_p0_other, .inl (cI, 5, .inl p0_other)), (a_p0_worth, .inl (cI, 5, .inl p0_worth)), (a_p0_hangs, .inl (cI, 5, .inl p0_hangs)), (a_p0_now, .inl (cI, 18, .inl x_33))] H locs → lv_has ls 3 [] → W p l e (Rm 5 126) s m args below meth c H locs 0 0 Q (F0 m 68 ls []) := by
        intro x_33 hx_33 H locs ls hW hl
        have hf := s_inl hx_33 hk_33
        refine lv_bipush (v := -9) hx hb dX7_lasts_68 (by decide) ?_
        exact hE _ _ _ _ _ ((-9 : Int32), x_33) (sm hf) hW rfl dX7_lasts_70
      have L_33 : ∀ (n : Nat) (y33_2 : Int32) (y33_p0_now : Nat → Int32) (H : Heap) (locs : List Loc) (ls : Array Slot), itr (fun s => b_X7_lasts_33 v1 p0_persons p0_skies p0_oaths p0_kind p0_skyAt p0_skyLoud p0_one p0_other p0_worth p0_hangs s.1 s.2) n (y33_2, y33_p0_now) = some e_33 → Wl D A s.heap [(a_p0, .inr (7, [.int p0_persons, .int p0_skies, .int p0_oaths, .ref a_p0_kind, .ref a_p0_skyAt, .ref a_p0_skyLoud, .ref a_p0_one, .ref a_p0_other, .ref a_p0_worth, .ref a_p0_hangs, .ref a_p0_now, .ref a_p0_readPerson, .ref a_p0_readSky, .ref a_p0_readOath, .int p0_readPersons, .int p0_readSkies, .int p0_readOaths, .ref a_p0_text, .int p0_length, .int p0_at, .int p0_faultAt, .int p0_acts, .int p0_next, .ref a_p0_row, .int p0_told, .ref a_p0_toldAt, .ref a_p0_toldWool, .ref a_p0_toldHeard, .long p0_seed, .ref a_p0_isKept, .ref a_p0_kept])), (a_p0_kind, .inl (cI, 5, .inl p0_kind)), (a_p0_skyAt, .inl (cI, 5, .inl p0_skyAt)), (a_p0_skyLoud, .inl (cI, 5, .inl p0_skyLoud)), (a_p0_one, .inl (cI, 5, .inl p0_one)), (a_p0_other, .inl (cI, 5, .inl p0_other)), (a_p0_worth, .inl (cI, 5, .inl p0_worth)), (a_p0_hangs, .inl (cI, 5, .inl p0_hangs)), (a_p0_now, .inl (cI, 18, .inl y33_p0_now))] H locs → lv_has ls 3 [(0, .ref a_p0), (1, .int v1), (2, .int y33_2)] → W p l e (Rm 5 126) s m args below meth c H locs 0 0 Q (F0 m 33 ls []) := by
        intro n
        induction n with
        | zero => intro y33_2 y33_p0_now H locs ls h9; exact itr_0 h9
        | succ n ih =>
          intro y33_2 y33_p0_now H locs ls hf hW hl
          obtain ⟨o_33, hf, ho_33⟩ := itr_inv hf
          have hf : b_X7_lasts_33 v1 p0_persons p0_skies p0_oaths p0_kind p0_skyAt p0_skyLoud p0_one p0_other p0_worth p0_hangs y33_2 y33_p0_now = some o_33 := hf
          unfold b_X7_lasts_33 at hf
          refine lv_iload_n hx hb dX7_lasts_33 rfl (lv_at hl 2 rfl) ?_
          refine lv_bipush (v := 31) hx hb dX7_lasts_34 (by decide) ?_
          refine lv_icmp_ge (tgt := 68) hx hb dX7_lasts_36 (by decide) (fun c_7 => ?_) (fun c_7 => ?_)
          · have hf := it_t c_7 hf
            have h9 := o_inr hf ho_33
            exact K_33 y33_p0_now h9 _ _ _ hW (lv_sub hl [] rfl)
          · have hf := it_f c_7 hf
            refine lv_aload_n hx hb dX7_lasts_39 rfl (lv_at hl 0 rfl) ?_
            refine lv_iconst (v := 1) hx hb dX7_lasts_40 (by decide) ?_
            refine lv_iconst (v := 1) hx hb dX7_lasts_41 (by decide) ?_
            obtain ⟨r_8, hr_8, hf⟩ := bnd hf
            refine q_callVI hB hW (ci := 7) (q0 := 0) rfl rfl rfl (As := [.int (1 : Int32), .int (1 : Int32)]) (rest := []) (ws' := [(a_p0, .inr (7, [.int p0_persons, .int p0_skies, .int p0_oaths, .ref a_p0_kind, .ref a_p0_skyAt, .ref a_p0_skyLoud, .ref a_p0_one, .ref a_p0_other, .ref a_p0_worth, .ref a_p0_hangs, .ref a_p0_now, .ref a_p0_readPerson, .ref a_p0_readSky, .ref a_p0_readOath, .int p0_readPersons, .int p0_readSkies, .int p0_readOaths, .ref a_p0_text, .int p0_length, .int p0_at, .int p0_faultAt, .int p0_acts, .int p0_next, .ref a_p0_row, .int p0_told, .ref a_p0_toldAt, .ref a_p0_toldWool, .ref a_p0_toldHeard, .long p0_seed, .ref a_p0_isKept, .ref a_p0_kept])), (a_p0_kind, .inl (cI, 5, .inl p0_kind)), (a_p0_skyAt, .inl (cI, 5, .inl p0_skyAt)), (a_p0_skyLoud, .inl (cI, 5, .inl p0_skyLoud)), (a_p0_one, .inl (cI, 5, .inl p0_one)), (a_p0_other, .inl (cI, 5, .inl p0_other)), (a_p0_worth, .inl (cI, 5, .inl p0_worth)), (a_p0_hangs, .inl (cI, 5, .inl p0_hangs)), (a_p0_now, .inl (cI, 18, .inl r_8.2))]) (c_X7_passOn l D cI cZ a_p0 a_p0_kind a_p0_skyAt a_p0_skyLoud a_p0_one a_p0_other a_p0_worth a_p0_hangs a_p0_now a_p0_readPerson a_p0_readSky a_p0_readOath a_p0_text a_p0_row a_p0_toldAt a_p0_toldWool a_p0_toldHeard a_p0_isKept a_p0_kept p0_persons p0_skies p0_oaths p0_readPersons p0_readSkies p0_readOaths p0_length p0_at p0_faultAt p0_acts p0_next p0_told p0_seed p0_kind p0_skyAt p0_skyLoud p0_one p0_other p0_worth p0_hangs y33_p0_now (1 : Int32) (1 : Int32) r_8 hr_8) (cwV 2 hts gX7_lasts_X7_passOn rfl rfl rfl (by decide +kernel) ⟨Nat.le_of_ble_eq_true rfl, Nat.le_of_ble_eq_true rfl⟩) [0, 1, 2, 3, 4, 5, 6, 7, 8] rfl rfl rfl rfl rfl hl.1 rfl (Nat.le_of_ble_eq_true rfl) ⟨Nat.le_of_ble_eq_true rfl, Nat.le_of_ble_eq_true rfl⟩ dX7_lasts_42 (fun H locs hW => ?_)
            refine lv_pop hx hb dX7_lasts_45 rfl ?_
            refine lv_aload_n hx hb dX7_lasts_46 rfl (lv_at hl 0 rfl) ?_
            refine q_get hB hW 7 in_X7 0 rfl rfl 10 (by decide) fl_31 (v := .ref a_p0_now) rfl dX7_lasts_47 ?_
            refine lv_bipush (v := 15) hx hb dX7_lasts_50 (by decide) ?_
            obtain ⟨r_9, hr_9, hf⟩ := bnd hf
            refine q_iald hB hW 8 rfl hr_9 dX7_lasts_52 ?_
            refine lv_iload_n hx hb dX7_lasts_53 rfl (lv_at hl 1 rfl) ?_
            obtain ⟨r_10, hr_10, hf⟩ := bnd hf
            refine q_callSZ hB hW (As := [.int r_9, .int v1]) (rest := []) (ws' := [(a_p0, .inr (7, [.int p0_persons, .int p0_skies, .int p0_oaths, .ref a_p0_kind, .ref a_p0_skyAt, .ref a_p0_skyLoud, .ref a_p0_one, .ref a_p0_other, .ref a_p0_worth, .ref a_p0_hangs, .ref a_p0_now, .ref a_p0_readPerson, .ref a_p0_readSky, .ref a_p0_readOath, .int p0_readPersons, .int p0_readSkies, .int p0_readOaths, .ref a_p0_text, .int p0_length, .int p0_at, .int p0_faultAt, .int p0_acts, .int p0_next, .ref a_p0_row, .int p0_told, .ref a_p0_toldAt, .ref a_p0_toldWool, .ref a_p0_toldHeard, .long p0_seed, .ref a_p0_isKept, .ref a_p0_kept])), (a_p0_kind, .inl (cI, 5, .inl p0_kind)), (a_p0_skyAt, .inl (cI, 5, .inl p0_skyAt)), (a_p0_skyLoud, .inl (cI, 5, .inl p0_skyLoud)), (a_p0_one, .inl (cI, 5, .inl p0_one)), (a_p0_other, .inl (cI, 5, .inl p0_other)), (a_p0_worth, .inl (cI, 5, .inl p0_worth)), (a_p0_hangs, .inl (cI, 5, .inl p0_hangs)), (a_p0_now, .inl (cI, 18, .inl r_8.2))]) (c_X7_has l D cI cZ r_9 v1 r_10 hr_10) (va_cwS 2 hts gX7_lasts_X7_has rfl rfl rfl (by decide +kernel) ⟨Nat.le_of_ble_eq_true rfl, Nat.le_of_ble_eq_true rfl⟩) [] rfl rfl rfl rfl rfl hl.1 rfl (Nat.le_of_ble_eq_true rfl) ⟨Nat.le_of_ble_eq_true rfl, Nat.le_of_ble_eq_true rfl⟩ dX7_lasts_54 (fun hzr_10 H locs hW => ?_)
            refine lv_if_ne (tgt := 62) hx hb dX7_lasts_57 (by decide) (fun c_11 => ?_) (fun c_11 => ?_)
            · have hf := it_f c_11 hf
              refine lv_iinc (v := (y33_2 + (1 : Int32))) (lv' := [(2, .int (y33_2 + (1 : Int32))), (0, .ref a_p0), (1, .int v1)]) hx hb dX7_lasts_62 hl (k := 2) rfl rfl (by decide) rfl (fun ls hl => ?_)
              refine lv_goto (tgt := 33) hx hb dX7_lasts_65 (by decide) ?_
              have h9 := o_inl hf ho_33
              exact ih (y33_2 + (1 : Int32)) r_8.2 _ _ _ h9 hW (lv_sub hl [1, 2, 0] rfl)
            · have hf := it_t c_11 hf
              refine lv_iload_n hx hb dX7_lasts_60 rfl (lv_at hl 2 rfl) ?_
              have h9 := o_inr hf ho_33
              have h9 := s_inr h9 hk_33
              exact hE _ _ _ _ _ (y33_2, r_8.2) (sm h9) hW rfl dX7_lasts_61
      exact L_33 FU (1 : Int32) r_6 _ _ _ hl_33 hW (lv_sub hl [1, 2, 0] rfl)
    · have hf := it_t c_5 hf
      refine lv_bipush (v := -3) hx hb dX7_lasts_24 (by decide) ?_
      exact hE _ _ _ _ _ ((-3 : Int32), p0_now) (sm hf) hW rfl dX7_lasts_26
  · have hf := it_t c_2 hf
    refine lv_iconst (v := -1) hx hb dX7_lasts_8 (by decide) ?_
    exact hE _ _ _ _ _ ((-1 : Int32), p0_now) (sm hf) hW rfl dX7_lasts_9
def b_X7_best_46 (v1 : Int32) (v2 : Int32) (v3 : Int32) (p0_persons : Int32) (p0_skies : Int32) (p0_oaths : Int32) (p0_kind : Nat → Int32) (p0_skyAt : Nat → Int32) (p0_skyLoud : Nat → Int32) (p0_one : Nat → Int32) (p0_other : Nat → Int32) (p0_worth : Nat → Int32) (p0_hangs : Nat → Int32) (v4 : Int32) (v5 : Int32) (v6 : Int32) (p0_now : Nat → Int32) : Option ((Int32 × Int32 × Int32 × (Nat → Int32)) ⊕ (Int32 × Int32 × (Nat → Int32))) := if (10 : Int32) ≤ v6 then some (.inr (v4, v5, p0_now)) else (f_X7_layTrial p0_now).bind fun r_548 => (ast r_548 18 ((9 : Int32) + v1) v6).bind fun r_549 => (f_X7_goOn v2 p0_persons p0_skies p0_oaths p0_kind p0_skyAt p0_skyLoud p0_one p0_other p0_worth p0_hangs r_549).bind fun r_550 => (ald r_550 18 (16 : Int32)).bind fun r_551 => if r_551 ≤ v5 then (ald r_550 18 (16 : Int32)).bind fun r_553 => if r_553 ≤ v5 then some (.inl (v4, v5, (v6 + (1 : Int32)), r_550)) else (ald r_550 18 (16 : Int32)).bind fun r_555 => some (.inl (v4, r_555, (v6 + (1 : Int32)), r_550)) else (ald r_550 18 (16 : Int32)).bind fun r_556 => if r_556 ≤ v5 then some (.inl (v6, v5, (v6 + (1 : Int32)), r_550)) else (ald r_550 18 (16 : Int32)).bind fun r_558 => some (.inl (v6, r_558, (v6 + (1 : Int32)), r_550))
def f_X7_best (v1 : Int32) (v2 : Int32) (v3 : Int32) (p0_persons : Int32) (p0_skies : Int32) (p0_oaths : Int32) (p0_kind : Nat → Int32) (p0_skyAt : Nat → Int32) (p0_skyLoud : Nat → Int32) (p0_one : Nat → Int32) (p0_other : Nat → Int32) (p0_worth : Nat → Int32) (p0_hangs : Nat → Int32) (p0_now : Nat → Int32) : Option (Int32 × (Nat → Int32)) := (f_X7_isPerson v1 p0_persons).bind fun r_1 => if r_1 = (0 : Int32) then some ((-1 : Int32), p0_now) else (f_X7_in (Int32.toInt64 v2) (1 : Int64) (9 : Int64)).bind fun r_3 => if r_3 = (0 : Int32) then some ((-2 : Int32), p0_now) else (f_X7_in (Int32.toInt64 v3) (0 : Int64) (1 : Int64)).bind fun r_5 => if r_5 = (0 : Int32) then some ((-2 : Int32), p0_now) else (itr (fun s => b_X7_best_46 v1 v2 v3 p0_persons p0_skies p0_oaths p0_kind p0_skyAt p0_skyLoud p0_one p0_other p0_worth p0_hangs s.1 s.2.1 s.2.2.1 s.2.2.2) FU ((-9 : Int32), (-9 : Int32), (0 : Int32), p0_now)).bind fun x_46 => if v3 = (0 : Int32) then some (x_46.1, x_46.2.2) else some (x_46.2.1, x_46.2.2)
set_option maxHeartbeats 4000000 in
set_option maxRecDepth 100000 in
theorem c_X7_best (l : Launch) (D : va_G) (cI cZ : ClassId) (a_p0 a_p0_kind a_p0_skyAt a_p0_skyLoud a_p0_one a_p0_other a_p0_worth a_p0_hangs a_p0_now a_p0_readPerson a_p0_readSky a_p0_readOath a_p0_text a_p0_row a_p0_toldAt a_p0_toldWool a_p0_toldHeard a_p0_isKept a_p0_kept : Nat) (p0_persons : Int32) (p0_skies : Int32) (p0_oaths : Int32) (p0_readPersons : Int32) (p0_readSkies : Int32) (p0_readOaths : Int32) (p0_length : Int32) (p0_at : Int32) (p0_faultAt : Int32) (p0_acts : Int32) (p0_next : Int32) (p0_told : Int32) (p0_seed : Int64) (p0_kind : Nat → Int32) (p0_skyAt : Nat → Int32) (p0_skyLoud : Nat → Int32) (p0_one : Nat → Int32) (p0_other : Nat → Int32) (p0_worth : Nat → Int32) (p0_hangs : Nat → Int32) (p0_now : Nat → Int32) (v1 : Int32) (v2 : Int32) (v3 : Int32) (q : Int32 × (Nat → Int32)) (hf : f_X7_best v1 v2 v3 p0_persons p0_skies p0_oaths p0_kind p0_skyAt p0_skyLoud p0_one p0_other p0_worth p0_hangs p0_now = some q) : CtI l D cI cZ yX7_best wsX7_best 6 148 [.ref a_p0, .int v1, .int v2, .int v3] [(a_p0, .inr (7, [.int p0_persons, .int p0_skies, .int p0_oaths, .ref a_p0_kind, .ref a_p0_skyAt, .ref a_p0_skyLoud, .ref a_p0_one, .ref a_p0_other, .ref a_p0_worth, .ref a_p0_hangs, .ref a_p0_now, .ref a_p0_readPerson, .ref a_p0_readSky, .ref a_p0_readOath, .int p0_readPersons, .int p0_readSkies, .int p0_readOaths, .ref a_p0_text, .int p0_length, .int p0_at, .int p0_faultAt, .int p0_acts, .int p0_next, .ref a_p0_row, .int p0_told, .ref a_p0_toldAt, .ref a_p0_toldWool, .ref a_p0_toldHeard, .long p0_seed, .ref a_p0_isKept, .ref a_p0_kept])), (a_p0_kind, .inl (cI, 5, .inl p0_kind)), (a_p0_skyAt, .inl (cI, 5, .inl p0_skyAt)), (a_p0_skyLoud, .inl (cI, 5, .inl p0_skyLoud)), (a_p0_one, .inl (cI, 5, .inl p0_one)), (a_p0_other, .inl (cI, 5, .inl p0_other)), (a_p0_worth, .inl (cI, 5, .inl p0_worth)), (a_p0_hangs, .inl (cI, 5, .inl p0_hangs)), (a_p0_now, .inl (cI, 18, .inl p0_now))] (fun q => [(a_p0, .inr (7, [.int p0_persons, .int p0_skies, .int p0_oaths, .ref a_p0_kind, .ref a_p0_skyAt, .ref a_p0_skyLoud, .ref a_p0_one, .ref a_p0_other, .ref a_p0_worth, .ref a_p0_hangs, .ref a_p0_now, .ref a_p0_readPerson, .ref a_p0_readSky, .ref a_p0_readOath, .int p0_readPersons, .int p0_readSkies, .int p0_readOaths, .ref a_p0_text, .int p0_length, .int p0_at, .int p0_faultAt, .int p0_acts, .int p0_next, .ref a_p0_row, .int p0_told, .ref a_p0_toldAt, .ref a_p0_toldWool, .ref a_p0_toldHeard, .long p0_seed, .ref a_p0_isKept, .ref a_p0_kept])), (a_p0_kind, .inl (cI, 5, .inl p0_kind)), (a_p0_skyAt, .inl (cI, 5, .inl p0_skyAt)), (a_p0_skyLoud, .inl (cI, 5, .inl p0_skyLoud)), (a_p0_one, .inl (cI, 5, .inl p0_one)), (a_p0_other, .inl (cI, 5, .inl p0_other)), (a_p0_worth, .inl (cI, 5, .inl p0_worth)), (a_p0_hangs, .inl (cI, 5, .inl p0_hangs)), (a_p0_now, .inl (cI, 18, .inl q.2))]) (fun q => q.1) q := by
  refine CtI.of (cc := cX7_best) (maxL := 7) (plainFor_of_name (by decide)) rfl (Nat.le_of_ble_eq_true rfl) ?_
  intro p e s m args below meth c A Q H ls hB hE hW hl
  have hx := hB.1
  have hb := hB.2.1
  have hml := hB.2.2.2.1
  have hown : s.vm.findClass RX7 = some m.cls := hB.2.2.2.2.1
  have hts := hB.2.2.2.2.2.1
  have hK := hB.2.2.2.2.2.2.2.1.1
  have hl : lv_has ls 7 [(0, .ref a_p0), (1, .int v1), (2, .int v2), (3, .int v3)] := hl
  have in_X7 : ∀ w ∈ wsX70, w ∈ wsX7_best := fun w h => List.mem_cons_of_mem _ (List.mem_append_right _ h)
  have fl_31 : (Cond.fieldLink RX7 31 (TX7 10).1 (TX7 10).2.1 (TX7 10).2.2.1).before args s = true := hts (.fieldLink RX7 31 "ClapOathsModel" "now" "[I") (by decide +kernel)
  unfold f_X7_best at hf
  refine lv_aload_n hx hb dX7_best_0 rfl (lv_at hl 0 rfl) ?_
  refine lv_iload_n hx hb dX7_best_1 rfl (lv_at hl 1 rfl) ?_
  obtain ⟨r_1, hr_1, hf⟩ := bnd hf
  refine q_callVZ hB hW (ci := 7) (q0 := 0) rfl rfl rfl (As := [.int v1]) (rest := []) (ws' := [(a_p0, .inr (7, [.int p0_persons, .int p0_skies, .int p0_oaths, .ref a_p0_kind, .ref a_p0_skyAt, .ref a_p0_skyLoud, .ref a_p0_one, .ref a_p0_other, .ref a_p0_worth, .ref a_p0_hangs, .ref a_p0_now, .ref a_p0_readPerson, .ref a_p0_readSky, .ref a_p0_readOath, .int p0_readPersons, .int p0_readSkies, .int p0_readOaths, .ref a_p0_text, .int p0_length, .int p0_at, .int p0_faultAt, .int p0_acts, .int p0_next, .ref a_p0_row, .int p0_told, .ref a_p0_toldAt, .ref a_p0_toldWool, .ref a_p0_toldHeard, .long p0_seed, .ref a_p0_isKept, .ref a_p0_kept])), (a_p0_kind, .inl (cI, 5, .inl p0_kind)), (a_p0_skyAt, .inl (cI, 5, .inl p0_skyAt)), (a_p0_skyLoud, .inl (cI, 5, .inl p0_skyLoud)), (a_p0_one, .inl (cI, 5, .inl p0_one)), (a_p0_other, .inl (cI, 5, .inl p0_other)), (a_p0_worth, .inl (cI, 5, .inl p0_worth)), (a_p0_hangs, .inl (cI, 5, .inl p0_hangs)), (a_p0_now, .inl (cI, 18, .inl p0_now))]) (c_X7_isPerson l D cI cZ a_p0 a_p0_kind a_p0_skyAt a_p0_skyLoud a_p0_one a_p0_other a_p0_worth a_p0_hangs a_p0_now a_p0_readPerson a_p0_readSky a_p0_readOath a_p0_text a_p0_row a_p0_toldAt a_p0_toldWool a_p0_toldHeard a_p0_isKept a_p0_kept p0_persons p0_skies p0_oaths p0_readPersons p0_readSkies p0_readOaths p0_length p0_at p0_faultAt p0_acts p0_next p0_told p0_seed v1 r_1 hr_1) (cwV 1 hts gX7_best_X7_isPerson rfl rfl rfl (by decide +kernel) ⟨Nat.le_of_ble_eq_true rfl, Nat.le_of_ble_eq_true rfl⟩) [0] rfl rfl rfl rfl rfl hl.1 rfl (Nat.le_of_ble_eq_true rfl) ⟨Nat.le_of_ble_eq_true rfl, Nat.le_of_ble_eq_true rfl⟩ dX7_best_2 (fun hzr_1 H locs hW => ?_)
  refine lv_if_ne (tgt := 10) hx hb dX7_best_5 (by decide) (fun c_2 => ?_) (fun c_2 => ?_)
  · have hf := it_f c_2 hf
    refine lv_iload_n hx hb dX7_best_10 rfl (lv_at hl 2 rfl) ?_
    refine lv_i2l (v := (Int32.toInt64 v2)) hx hb dX7_best_11 rfl ?_
    refine lv_lconst (v := 1) hx hb dX7_best_12 (by decide) ?_
    refine lv_ldc2 (v := 9) hx hb hown (hts (.constantLong RX7 117 (9)) (by decide +kernel)) dX7_best_13 ?_
    obtain ⟨r_3, hr_3, hf⟩ := bnd hf
    refine q_callSZ hB hW (As := [.long (Int32.toInt64 v2), .long (1 : Int64), .long (9 : Int64)]) (rest := []) (ws' := [(a_p0, .inr (7, [.int p0_persons, .int p0_skies, .int p0_oaths, .ref a_p0_kind, .ref a_p0_skyAt, .ref a_p0_skyLoud, .ref a_p0_one, .ref a_p0_other, .ref a_p0_worth, .ref a_p0_hangs, .ref a_p0_now, .ref a_p0_readPerson, .ref a_p0_readSky, .ref a_p0_readOath, .int p0_readPersons, .int p0_readSkies, .int p0_readOaths, .ref a_p0_text, .int p0_length, .int p0_at, .int p0_faultAt, .int p0_acts, .int p0_next, .ref a_p0_row, .int p0_told, .ref a_p0_toldAt, .ref a_p0_toldWool, .ref a_p0_toldHeard, .long p0_seed, .ref a_p0_isKept, .ref a_p0_kept])), (a_p0_kind, .inl (cI, 5, .inl p0_kind)), (a_p0_skyAt, .inl (cI, 5, .inl p0_skyAt)), (a_p0_skyLoud, .inl (cI, 5, .inl p0_skyLoud)), (a_p0_one, .inl (cI, 5, .inl p0_one)), (a_p0_other, .inl (cI, 5, .inl p0_other)), (a_p0_worth, .inl (cI, 5, .inl p0_worth)), (a_p0_hangs, .inl (cI, 5, .inl p0_hangs)), (a_p0_now, .inl (cI, 18, .inl p0_now))]) (c_X7_in l D cI cZ (Int32.toInt64 v2) (1 : Int64) (9 : Int64) r_3 hr_3) (va_cwS 3 hts gX7_best_X7_in rfl rfl rfl (by decide +kernel) ⟨Nat.le_of_ble_eq_true rfl, Nat.le_of_ble_eq_true rfl⟩) [] rfl rfl rfl rfl rfl hl.1 rfl (Nat.le_of_ble_eq_true rfl) ⟨Nat.le_of_ble_eq_true rfl, Nat.le_of_ble_eq_true rfl⟩ dX7_best_16 (fun hzr_3 H locs hW => ?_)
    refine lv_if_eq (tgt := 32) hx hb dX7_best_19 (by decide) (fun c_4 => ?_) (fun c_4 => ?_)
    · have hf := it_t c_4 hf
      refine lv_bipush (v := -2) hx hb dX7_best_32 (by decide) ?_
      exact hE _ _ _ _ _ ((-2 : Int32), p0_now) (sm hf) hW rfl dX7_best_34
    · have hf := it_f c_4 hf
      refine lv_iload_n hx hb dX7_best_22 rfl (lv_at hl 3 rfl) ?_
      refine lv_i2l (v := (Int32.toInt64 v3)) hx hb dX7_best_23 rfl ?_
      refine lv_lconst (v := 0) hx hb dX7_best_24 (by decide) ?_
      refine lv_lconst (v := 1) hx hb dX7_best_25 (by decide) ?_
      obtain ⟨r_5, hr_5, hf⟩ := bnd hf
      refine q_callSZ hB hW (As := [.long (Int32.toInt64 v3), .long (0 : Int64), .long (1 : Int64)]) (rest := []) (ws' := [(a_p0, .inr (7, [.int p0_persons, .int p0_skies, .int p0_oaths, .ref a_p0_kind, .ref a_p0_skyAt, .ref a_p0_skyLoud, .ref a_p0_one, .ref a_p0_other, .ref a_p0_worth, .ref a_p0_hangs, .ref a_p0_now, .ref a_p0_readPerson, .ref a_p0_readSky, .ref a_p0_readOath, .int p0_readPersons, .int p0_readSkies, .int p0_readOaths, .ref a_p0_text, .int p0_length, .int p0_at, .int p0_faultAt, .int p0_acts, .int p0_next, .ref a_p0_row, .int p0_told, .ref a_p0_toldAt, .ref a_p0_toldWool, .ref a_p0_toldHeard, .long p0_seed, .ref a_p0_isKept, .ref a_p0_kept])), (a_p0_kind, .inl (cI, 5, .inl p0_kind)), (a_p0_skyAt, .inl (cI, 5, .inl p0_skyAt)), (a_p0_skyLoud, .inl (cI, 5, .inl p0_skyLoud)), (a_p0_one, .inl (cI, 5, .inl p0_one)), (a_p0_other, .inl (cI, 5, .inl p0_other)), (a_p0_worth, .inl (cI, 5, .inl p0_worth)), (a_p0_hangs, .inl (cI, 5, .inl p0_hangs)), (a_p0_now, .inl (cI, 18, .inl p0_now))]) (c_X7_in l D cI cZ (Int32.toInt64 v3) (0 : Int64) (1 : Int64) r_5 hr_5) (va_cwS 3 hts gX7_best_X7_in rfl rfl rfl (by decide +kernel) ⟨Nat.le_of_ble_eq_true rfl, Nat.le_of_ble_eq_true rfl⟩) [] rfl rfl rfl rfl rfl hl.1 rfl (Nat.le_of_ble_eq_true rfl) ⟨Nat.le_of_ble_eq_true rfl, Nat.le_of_ble_eq_true rfl⟩ dX7_best_26 (fun hzr_5 H locs hW => ?_)
      refine lv_if_ne (tgt := 35) hx hb dX7_best_29 (by decide) (fun c_6 => ?_) (fun c_6 => ?_)
      · have hf := it_f c_6 hf
        refine lv_bipush (v := -9) hx hb dX7_best_35 (by decide) ?_
        refine lv_istore (lv' := [(4, .int (-9 : Int32)), (0, .ref a_p0), (1, .int v1), (2, .int v2), (3, .int v3)]) hx hb dX7_best_37 hl (by decide) rfl (fun ls hl => ?_)
        refine lv_bipush (v := -9) hx hb dX7_best_39 (by decide) ?_
        refine lv_istore (lv' := [(5, .int (-9 : Int32)), (4, .int (-9 : Int32)), (0, .ref a_p0), (1, .int v1), (2, .int v2), (3, .int v3)]) hx hb dX7_best_41 hl (by decide) rfl (fun ls hl => ?_)
        refine lv_iconst (v := 0) hx hb dX7_best_43 (by decide) ?_
        refine lv_istore (lv' := [(6, .int (0 : Int32)), (5, .int (-9 : Int32)), (4, .int (-9 : Int32)), (0, .ref a_p0), (1, .int v1), (2, .int v2), (3, .int v3)]) hx hb dX7_best_44 hl (by decide) rfl (fun ls hl => ?_)
        obtain ⟨e_46, hl_46, hk_46⟩ := bnd hf
        have K_46 : ∀ x_46 : Int32 × Int32 × (Nat → Int32), x_46 = e_46 → ∀ (H : Heap) (locs : List Loc) (ls : Array Slot), Wl D A s.heap [(a_p0, .inr (7, [.int p0_persons, .int p0_skies, .int p0_oaths, .ref a_p0_kind, .ref a_p0_skyAt, .ref a_p0_skyLoud, .ref a_p0_one, .ref a_p0_other, .ref a_p0_worth, .ref a_p0_hangs, .ref a_p0_now, .ref a_p0_readPerson, .ref a_p0_readSky, .ref a_p0_readOath, .int p0_readPersons, .int p0_readSkies, .int p0_readOaths, .ref a_p0_text, .int p0_length, .int p0_at, .int p0_faultAt, .int p0_acts, .int p0_next, .ref a_p0_row, .int p0_told, .ref a_p0_toldAt, .ref a_p0_toldWool, .ref a_p0_toldHeard, .long p0_seed, .ref a_p0_isKept, .ref a_p0_kept])), (a_p0_kind, .inl (cI, 5, .inl p0_kind)), (a_p0_skyAt, .inl (cI, 5, .inl p0_skyAt)), (a_p0_skyLoud, .inl (cI, 5, .inl p0_skyLoud)), (a_p0_one, .inl (cI, 5, .inl p0_one)), (a_p0_other, .inl (cI, 5, .inl p0_other)), (a_p0_worth, .inl (cI, 5, .inl p0_worth)), (a_p0_hangs, .inl (cI, 5, .inl p0_hangs)), (a_p0_now, .inl (cI, 18, .inl x_46.2.2))] H locs → lv_has ls 7 [(3, .int v3), (4, .int x_46.1), (5, .int x_46.2.1)] → W p l e (Rm 6 148) s m args below meth c H locs 0 0 Q (F0 m 126 ls []) := by
          intro x_46 hx_46 H locs ls hW hl
          have hf := hk_46
          rw [← hx_46] at hf
          refine lv_iload_n hx hb dX7_best_126 rfl (lv_at hl 0 rfl) ?_
          refine lv_if_ne (tgt := 135) hx hb dX7_best_127 (by decide) (fun c_7 => ?_) (fun c_7 => ?_)
          · have hf := it_f c_7 hf
            refine lv_iload hx hb dX7_best_135 (lv_at hl 2 rfl) ?_
            exact hE _ _ _ _ _ (x_46.2.1, x_46.2.2) (sm hf) hW rfl dX7_best_137
          · have hf := it_t c_7 hf
            refine lv_iload hx hb dX7_best_130 (lv_at hl 1 rfl) ?_
            refine lv_goto (tgt := 137) hx hb dX7_best_132 (by decide) ?_
            exact hE _ _ _ _ _ (x_46.1, x_46.2.2) (sm hf) hW rfl dX7_best_137
        have L_46 : ∀ (n : Nat) (y46_4 : Int32) (y46_5 : Int32) (y46_6 : Int32) (y46_p0_now : Nat → Int32) (H : Heap) (locs : List Loc) (ls : Array Slot), itr (fun s => b_X7_best_46 v1 v2 v3 p0_persons p0_skies p0_oaths p0_kind p0_skyAt p0_skyLoud p0_one p0_other p0_worth p0_hangs s.1 s.2.1 s.2.2.1 s.2.2.2) n (y46_4, y46_5, y46_6, y46_p0_now) = some e_46 → Wl D A s.heap [(a_p0, .inr (7, [.int p0_persons, .int p0_skies, .int p0_oaths, .ref a_p0_kind, .ref a_p0_skyAt, .ref a_p0_skyLoud, .ref a_p0_one, .ref a_p0_other, .ref a_p0_worth, .ref a_p0_hangs, .ref a_p0_now, .ref a_p0_readPerson, .ref a_p0_readSky, .ref a_p0_readOath, .int p0_readPersons, .int p0_readSkies, .int p0_readOaths, .ref a_p0_text, .int p0_length, .int p0_at, .int p0_faultAt, .int p0_acts, .int p0_next, .ref a_p0_row, .int p0_told, .ref a_p0_toldAt, .ref a_p0_toldWool, .ref a_p0_toldHeard, .long p0_seed, .ref a_p0_isKept, .ref a_p0_kept])), (a_p0_kind, .inl (cI, 5, .inl p0_kind)), (a_p0_skyAt, .inl (cI, 5, .inl p0_skyAt)), (a_p0_skyLoud, .inl (cI, 5, .inl p0_skyLoud)), (a_p0_one, .inl (cI, 5, .inl p0_one)), (a_p0_other, .inl (cI, 5, .inl p0_other)), (a_p0_worth, .inl (cI, 5, .inl p0_worth)), (a_p0_hangs, .inl (cI, 5, .inl p0_hangs)), (a_p0_now, .inl (cI, 18, .inl y46_p0_now))] H locs → lv_has ls 7 [(0, .ref a_p0), (1, .int v1), (2, .int v2), (3, .int v3), (4, .int y46_4), (5, .int y46_5), (6, .int y46_6)] → W p l e (Rm 6 148) s m args below meth c H locs 0 0 Q (F0 m 46 ls []) := by
          intro n
          induction n with
          | zero => intro y46_4 y46_5 y46_6 y46_p0_now H locs ls h9; exact itr_0 h9
          | succ n ih =>
            intro y46_4 y46_5 y46_6 y46_p0_now H locs ls hf hW hl
            obtain ⟨o_46, hf, ho_46⟩ := itr_inv hf
            have hf : b_X7_best_46 v1 v2 v3 p0_persons p0_skies p0_oaths p0_kind p0_skyAt p0_skyLoud p0_one p0_other p0_worth p0_hangs y46_4 y46_5 y46_6 y46_p0_now = some o_46 := hf
            unfold b_X7_best_46 at hf
            refine lv_iload hx hb dX7_best_46 (lv_at hl 6 rfl) ?_
            refine lv_bipush (v := 10) hx hb dX7_best_48 (by decide) ?_
            refine lv_icmp_ge (tgt := 126) hx hb dX7_best_50 (by decide) (fun c_8 => ?_) (fun c_8 => ?_)
            · have hf := it_t c_8 hf
              have h9 := o_inr hf ho_46
              exact K_46 (y46_4, y46_5, y46_p0_now) h9 _ _ _ hW (lv_sub hl [3, 4, 5] rfl)
            · have hf := it_f c_8 hf
              refine lv_aload_n hx hb dX7_best_53 rfl (lv_at hl 0 rfl) ?_
              obtain ⟨r_9, hr_9, hf⟩ := bnd hf
              refine q_callVV hB hW (ci := 7) (q0 := 0) rfl rfl rfl (As := []) (rest := []) (ws' := [(a_p0, .inr (7, [.int p0_persons, .int p0_skies, .int p0_oaths, .ref a_p0_kind, .ref a_p0_skyAt, .ref a_p0_skyLoud, .ref a_p0_one, .ref a_p0_other, .ref a_p0_worth, .ref a_p0_hangs, .ref a_p0_now, .ref a_p0_readPerson, .ref a_p0_readSky, .ref a_p0_readOath, .int p0_readPersons, .int p0_readSkies, .int p0_readOaths, .ref a_p0_text, .int p0_length, .int p0_at, .int p0_faultAt, .int p0_acts, .int p0_next, .ref a_p0_row, .int p0_told, .ref a_p0_toldAt, .ref a_p0_toldWool, .ref a_p0_toldHeard, .long p0_seed, .ref a_p0_isKept, .ref a_p0_kept])), (a_p0_kind, .inl (cI, 5, .inl p0_kind)), (a_p0_skyAt, .inl (cI, 5, .inl p0_skyAt)), (a_p0_skyLoud, .inl (cI, 5, .inl p0_skyLoud)), (a_p0_one, .inl (cI, 5, .inl p0_one)), (a_p0_other, .inl (cI, 5, .inl p0_other)), (a_p0_worth, .inl (cI, 5, .inl p0_worth)), (a_p0_hangs, .inl (cI, 5, .inl p0_hangs)), (a_p0_now, .inl (cI, 18, .inl r_9))]) (c_X7_layTrial l D cI cZ a_p0 a_p0_kind a_p0_skyAt a_p0_skyLoud a_p0_one a_p0_other a_p0_worth a_p0_hangs a_p0_now a_p0_readPerson a_p0_readSky a_p0_readOath a_p0_text a_p0_row a_p0_toldAt a_p0_toldWool a_p0_toldHeard a_p0_isKept a_p0_kept p0_persons p0_skies p0_oaths p0_readPersons p0_readSkies p0_readOaths p0_length p0_at p0_faultAt p0_acts p0_next p0_told p0_seed y46_p0_now r_9 hr_9) (cwV 0 hts gX7_best_X7_layTrial rfl rfl rfl (by decide +kernel) ⟨Nat.le_of_ble_eq_true rfl, Nat.le_of_ble_eq_true rfl⟩) [0, 8] rfl rfl rfl rfl rfl hl.1 rfl (Nat.le_of_ble_eq_true rfl) ⟨Nat.le_of_ble_eq_true rfl, Nat.le_of_ble_eq_true rfl⟩ dX7_best_54 (fun H locs hW => ?_)
              refine lv_aload_n hx hb dX7_best_57 rfl (lv_at hl 0 rfl) ?_
              refine q_get hB hW 7 in_X7 0 rfl rfl 10 (by decide) fl_31 (v := .ref a_p0_now) rfl dX7_best_58 ?_
              refine lv_bipush (v := 9) hx hb dX7_best_61 (by decide) ?_
              refine lv_iload_n hx hb dX7_best_63 rfl (lv_at hl 1 rfl) ?_
              refine lv_iadd hx hb dX7_best_64 ?_
              refine lv_iload hx hb dX7_best_65 (lv_at hl 6 rfl) ?_
              obtain ⟨r_10, hr_10, hf⟩ := bnd hf
              refine q_iast hB hW 8 rfl hr_10 (ws' := [(a_p0, .inr (7, [.int p0_persons, .int p0_skies, .int p0_oaths, .ref a_p0_kind, .ref a_p0_skyAt, .ref a_p0_skyLoud, .ref a_p0_one, .ref a_p0_other, .ref a_p0_worth, .ref a_p0_hangs, .ref a_p0_now, .ref a_p0_readPerson, .ref a_p0_readSky, .ref a_p0_readOath, .int p0_readPersons, .int p0_readSkies, .int p0_readOaths, .ref a_p0_text, .int p0_length, .int p0_at, .int p0_faultAt, .int p0_acts, .int p0_next, .ref a_p0_row, .int p0_told, .ref a_p0_toldAt, .ref a_p0_toldWool, .ref a_p0_toldHeard, .long p0_seed, .ref a_p0_isKept, .ref a_p0_kept])), (a_p0_kind, .inl (cI, 5, .inl p0_kind)), (a_p0_skyAt, .inl (cI, 5, .inl p0_skyAt)), (a_p0_skyLoud, .inl (cI, 5, .inl p0_skyLoud)), (a_p0_one, .inl (cI, 5, .inl p0_one)), (a_p0_other, .inl (cI, 5, .inl p0_other)), (a_p0_worth, .inl (cI, 5, .inl p0_worth)), (a_p0_hangs, .inl (cI, 5, .inl p0_hangs)), (a_p0_now, .inl (cI, 18, .inl r_10))]) rfl dX7_best_67 (fun H locs hW => ?_)
              refine lv_aload_n hx hb dX7_best_68 rfl (lv_at hl 0 rfl) ?_
              refine lv_iload_n hx hb dX7_best_69 rfl (lv_at hl 2 rfl) ?_
              obtain ⟨r_11, hr_11, hf⟩ := bnd hf
              refine q_callVV hB hW (ci := 7) (q0 := 0) rfl rfl rfl (As := [.int v2]) (rest := []) (ws' := [(a_p0, .inr (7, [.int p0_persons, .int p0_skies, .int p0_oaths, .ref a_p0_kind, .ref a_p0_skyAt, .ref a_p0_skyLoud, .ref a_p0_one, .ref a_p0_other, .ref a_p0_worth, .ref a_p0_hangs, .ref a_p0_now, .ref a_p0_readPerson, .ref a_p0_readSky, .ref a_p0_readOath, .int p0_readPersons, .int p0_readSkies, .int p0_readOaths, .ref a_p0_text, .int p0_length, .int p0_at, .int p0_faultAt, .int p0_acts, .int p0_next, .ref a_p0_row, .int p0_told, .ref a_p0_toldAt, .ref a_p0_toldWool, .ref a_p0_toldHeard, .long p0_seed, .ref a_p0_isKept, .ref a_p0_kept])), (a_p0_kind, .inl (cI, 5, .inl p0_kind)), (a_p0_skyAt, .inl (cI, 5, .inl p0_skyAt)), (a_p0_skyLoud, .inl (cI, 5, .inl p0_skyLoud)), (a_p0_one, .inl (cI, 5, .inl p0_one)), (a_p0_other, .inl (cI, 5, .inl p0_other)), (a_p0_worth, .inl (cI, 5, .inl p0_worth)), (a_p0_hangs, .inl (cI, 5, .inl p0_hangs)), (a_p0_now, .inl (cI, 18, .inl r_11))]) (c_X7_goOn l D cI cZ a_p0 a_p0_kind a_p0_skyAt a_p0_skyLoud a_p0_one a_p0_other a_p0_worth a_p0_hangs a_p0_now a_p0_readPerson a_p0_readSky a_p0_readOath a_p0_text a_p0_row a_p0_toldAt a_p0_toldWool a_p0_toldHeard a_p0_isKept a_p0_kept p0_persons p0_skies p0_oaths p0_readPersons p0_readSkies p0_readOaths p0_length p0_at p0_faultAt p0_acts p0_next p0_told p0_seed p0_kind p0_skyAt p0_skyLoud p0_one p0_other p0_worth p0_hangs r_10 v2 r_11 hr_11) (cwV 1 hts gX7_best_X7_goOn rfl rfl rfl (by decide +kernel) ⟨Nat.le_of_ble_eq_true rfl, Nat.le_of_ble_eq_true rfl⟩) [0, 1, 2, 3, 4, 5, 6, 7, 8] rfl rfl rfl rfl rfl hl.1 rfl (Nat.le_of_ble_eq_true rfl) ⟨Nat.le_of_ble_eq_true rfl, Nat.le_of_ble_eq_true rfl⟩ dX7_best_70 (fun H locs hW => ?_)
              refine lv_aload_n hx hb dX7_best_73 rfl (lv_at hl 0 rfl) ?_
              refine q_get hB hW 7 in_X7 0 rfl rfl 10 (by decide) fl_31 (v := .ref a_p0_now) rfl dX7_best_74 ?_
              refine lv_bipush (v := 16) hx hb dX7_best_77 (by decide) ?_
              obtain ⟨r_12, hr_12, hf⟩ := bnd hf
              refine q_iald hB hW 8 rfl hr_12 dX7_best_79 ?_
              refine lv_iload hx hb dX7_best_80 (lv_at hl 5 rfl) ?_
              refine lv_icmp_le (tgt := 90) hx hb dX7_best_82 (by decide) (fun c_13 => ?_) (fun c_13 => ?_)
              · have hf := it_t c_13 hf
                refine lv_iload hx hb dX7_best_90 (lv_at hl 4 rfl) ?_
                refine lv_istore (lv' := [(4, .int y46_4), (0, .ref a_p0), (1, .int v1), (2, .int v2), (3, .int v3), (5, .int y46_5), (6, .int y46_6)]) hx hb dX7_best_92 hl (by decide) rfl (fun ls hl => ?_)
                refine lv_aload_n hx hb dX7_best_94 rfl (lv_at hl 1 rfl) ?_
                refine q_get hB hW 7 in_X7 0 rfl rfl 10 (by decide) fl_31 (v := .ref a_p0_now) rfl dX7_best_95 ?_
                refine lv_bipush (v := 16) hx hb dX7_best_98 (by decide) ?_
                obtain ⟨r_14, hr_14, hf⟩ := bnd hf
                refine q_iald hB hW 8 rfl hr_14 dX7_best_100 ?_
                refine lv_iload hx hb dX7_best_101 (lv_at hl 5 rfl) ?_
                refine lv_icmp_le (tgt := 116) hx hb dX7_best_103 (by decide) (fun c_15 => ?_) (fun c_15 => ?_)
                · have hf := it_t c_15 hf
                  refine lv_iload hx hb dX7_best_116 (lv_at hl 5 rfl) ?_
                  refine lv_istore (lv' := [(5, .int y46_5), (4, .int y46_4), (0, .ref a_p0), (1, .int v1), (2, .int v2), (3, .int v3), (6, .int y46_6)]) hx hb dX7_best_118 hl (by decide) rfl (fun ls hl => ?_)
                  refine lv_iinc (v := (y46_6 + (1 : Int32))) (lv' := [(6, .int (y46_6 + (1 : Int32))), (5, .int y46_5), (4, .int y46_4), (0, .ref a_p0), (1, .int v1), (2, .int v2), (3, .int v3)]) hx hb dX7_best_120 hl (k := 6) rfl rfl (by decide) rfl (fun ls hl => ?_)
                  refine lv_goto (tgt := 46) hx hb dX7_best_123 (by decide) ?_
                  have h9 := o_inl hf ho_46
                  exact ih y46_4 y46_5 (y46_6 + (1 : Int32)) r_11 _ _ _ h9 hW (lv_sub hl [3, 4, 5, 6, 2, 1, 0] rfl)
                · have hf := it_f c_15 hf
                  refine lv_aload_n hx hb dX7_best_106 rfl (lv_at hl 1 rfl) ?_
                  refine q_get hB hW 7 in_X7 0 rfl rfl 10 (by decide) fl_31 (v := .ref a_p0_now) rfl dX7_best_107 ?_
                  refine lv_bipush (v := 16) hx hb dX7_best_110 (by decide) ?_
                  obtain ⟨r_16, hr_16, hf⟩ := bnd hf
                  refine q_iald hB hW 8 rfl hr_16 dX7_best_112 ?_
                  refine lv_goto (tgt := 118) hx hb dX7_best_113 (by decide) ?_
                  refine lv_istore (lv' := [(5, .int r_16), (4, .int y46_4), (0, .ref a_p0), (1, .int v1), (2, .int v2), (3, .int v3), (6, .int y46_6)]) hx hb dX7_best_118 hl (by decide) rfl (fun ls hl => ?_)
                  refine lv_iinc (v := (y46_6 + (1 : Int32))) (lv' := [(6, .int (y46_6 + (1 : Int32))), (5, .int r_16), (4, .int y46_4), (0, .ref a_p0), (1, .int v1), (2, .int v2), (3, .int v3)]) hx hb dX7_best_120 hl (k := 6) rfl rfl (by decide) rfl (fun ls hl => ?_)
                  refine lv_goto (tgt := 46) hx hb dX7_best_123 (by decide) ?_
                  have h9 := o_inl hf ho_46
                  exact ih y46_4 r_16 (y46_6 + (1 : Int32)) r_11 _ _ _ h9 hW (lv_sub hl [3, 4, 5, 6, 2, 1, 0] rfl)
              · have hf := it_f c_13 hf
                refine lv_iload hx hb dX7_best_85 (lv_at hl 6 rfl) ?_
                refine lv_goto (tgt := 92) hx hb dX7_best_87 (by decide) ?_
                refine lv_istore (lv' := [(4, .int y46_6), (0, .ref a_p0), (1, .int v1), (2, .int v2), (3, .int v3), (5, .int y46_5), (6, .int y46_6)]) hx hb dX7_best_92 hl (by decide) rfl (fun ls hl => ?_)
                refine lv_aload_n hx hb dX7_best_94 rfl (lv_at hl 1 rfl) ?_
                refine q_get hB hW 7 in_X7 0 rfl rfl 10 (by decide) fl_31 (v := .ref a_p0_now) rfl dX7_best_95 ?_
                refine lv_bipush (v := 16) hx hb dX7_best_98 (by decide) ?_
                obtain ⟨r_17, hr_17, hf⟩ := bnd hf
                refine q_iald hB hW 8 rfl hr_17 dX7_best_100 ?_
                refine lv_iload hx hb dX7_best_101 (lv_at hl 5 rfl) ?_
                refine lv_icmp_le (tgt := 116) hx hb dX7_best_103 (by decide) (fun c_18 => ?_) (fun c_18 => ?_)
                · have hf := it_t c_18 hf
                  refine lv_iload hx hb dX7_best_116 (lv_at hl 5 rfl) ?_
                  refine lv_istore (lv' := [(5, .int y46_5), (4, .int y46_6), (0, .ref a_p0), (1, .int v1), (2, .int v2), (3, .int v3), (6, .int y46_6)]) hx hb dX7_best_118 hl (by decide) rfl (fun ls hl => ?_)
                  refine lv_iinc (v := (y46_6 + (1 : Int32))) (lv' := [(6, .int (y46_6 + (1 : Int32))), (5, .int y46_5), (4, .int y46_6), (0, .ref a_p0), (1, .int v1), (2, .int v2), (3, .int v3)]) hx hb dX7_best_120 hl (k := 6) rfl rfl (by decide) rfl (fun ls hl => ?_)
                  refine lv_goto (tgt := 46) hx hb dX7_best_123 (by decide) ?_
                  have h9 := o_inl hf ho_46
                  exact ih y46_6 y46_5 (y46_6 + (1 : Int32)) r_11 _ _ _ h9 hW (lv_sub hl [3, 4, 5, 6, 2, 1, 0] rfl)
                · have hf := it_f c_18 hf
                  refine lv_aload_n hx hb dX7_best_106 rfl (lv_at hl 1 rfl) ?_
                  refine q_get hB hW 7 in_X7 0 rfl rfl 10 (by decide) fl_31 (v := .ref a_p0_now) rfl dX7_best_107 ?_
                  refine lv_bipush (v := 16) hx hb dX7_best_110 (by decide) ?_
                  obtain ⟨r_19, hr_19, hf⟩ := bnd hf
                  refine q_iald hB hW 8 rfl hr_19 dX7_best_112 ?_
                  refine lv_goto (tgt := 118) hx hb dX7_best_113 (by decide) ?_
                  refine lv_istore (lv' := [(5, .int r_19), (4, .int y46_6), (0, .ref a_p0), (1, .int v1), (2, .int v2), (3, .int v3), (6, .int y46_6)]) hx hb dX7_best_118 hl (by decide) rfl (fun ls hl => ?_)
                  refine lv_iinc (v := (y46_6 + (1 : Int32))) (lv' := [(6, .int (y46_6 + (1 : Int32))), (5, .int r_19), (4, .int y46_6), (0, .ref a_p0), (1, .int v1), (2, .int v2), (3, .int v3)]) hx hb dX7_best_120 hl (k := 6) rfl rfl (by decide) rfl (fun ls hl => ?_)
                  refine lv_goto (tgt := 46) hx hb dX7_best_123 (by decide) ?_
                  have h9 := o_inl hf ho_46
                  exact ih y46_6 r_19 (y46_6 + (1 : Int32)) r_11 _ _ _ h9 hW (lv_sub hl [3, 4, 5, 6, 2, 1, 0] rfl)
        exact L_46 FU (-9 : Int32) (-9 : Int32) (0 : Int32) p0_now _ _ _ hl_46 hW (lv_sub hl [3, 4, 5, 6, 2, 1, 0] rfl)
      · have hf := it_t c_6 hf
        refine lv_bipush (v := -2) hx hb dX7_best_32 (by decide) ?_
        exact hE _ _ _ _ _ ((-2 : Int32), p0_now) (sm hf) hW rfl dX7_best_34
  · have hf := it_t c_2 hf
    refine lv_iconst (v := -1) hx hb dX7_best_8 (by decide) ?_
    exact hE _ _ _ _ _ ((-1 : Int32), p0_now) (sm hf) hW rfl dX7_best_9
def b_X7_frees_42 (v1 : Int32) (v2 : Int32) (v3 : Int32) (p0_persons : Int32) (p0_oaths : Int32) (p0_kind : Nat → Int32) (p0_one : Nat → Int32) (p0_other : Nat → Int32) (p0_hangs : Nat → Int32) (v4 : Int32) (p0_now : Nat → Int32) : Option ((Int32 × (Nat → Int32)) ⊕ (((Nat → Int32) ⊕ (Int32 × (Nat → Int32))))) := if (10 : Int32) ≤ v4 then some (.inr (.inl p0_now)) else (f_X7_layTrial p0_now).bind fun r_544 => (f_X7_clapOn (1 : Int32) v4 v3 p0_persons p0_oaths p0_kind p0_one p0_other p0_hangs r_544).bind fun r_545 => (ald r_545.2 18 (15 : Int32)).bind fun r_546 => if (v1 &&& r_546) = (0 : Int32) then if v2 = (0 : Int32) then some (.inr (.inr (v3, r_545.2))) else some (.inr (.inr (v4, r_545.2))) else some (.inl ((v4 + (1 : Int32)), r_545.2))
def b_X7_frees_33 (v1 : Int32) (v2 : Int32) (p0_persons : Int32) (p0_oaths : Int32) (p0_kind : Nat → Int32) (p0_one : Nat → Int32) (p0_other : Nat → Int32) (p0_hangs : Nat → Int32) (v3 : Int32) (p0_now : Nat → Int32) : Option ((Int32 × (Nat → Int32)) ⊕ (((Nat → Int32) ⊕ (Int32 × (Nat → Int32))))) := if (10 : Int32) ≤ v3 then some (.inr (.inl p0_now)) else (itr (fun s => b_X7_frees_42 v1 v2 v3 p0_persons p0_oaths p0_kind p0_one p0_other p0_hangs s.1 s.2) FU ((0 : Int32), p0_now)).bind fun e_42 => Sum.elim (fun x_42 => some (.inl ((v3 + (1 : Int32)), x_42))) (fun r_42 => some (.inr (.inr r_42))) e_42
def f_X7_frees (v1 : Int32) (v2 : Int32) (p0_persons : Int32) (p0_oaths : Int32) (p0_kind : Nat → Int32) (p0_one : Nat → Int32) (p0_other : Nat → Int32) (p0_hangs : Nat → Int32) (p0_now : Nat → Int32) : Option (Int32 × (Nat → Int32)) := (f_X7_in (Int32.toInt64 v1) (0 : Int64) (Int32.toInt64 (((1 : Int32) <<< (p0_oaths &&& 31)) - (1 : Int32)))).bind fun r_1 => if r_1 = (0 : Int32) then some ((-2 : Int32), p0_now) else (f_X7_in (Int32.toInt64 v2) (0 : Int64) (1 : Int64)).bind fun r_3 => if r_3 = (0 : Int32) then some ((-2 : Int32), p0_now) else (itr (fun s => b_X7_frees_33 v1 v2 p0_persons p0_oaths p0_kind p0_one p0_other p0_hangs s.1 s.2) FU ((0 : Int32), p0_now)).bind fun e_33 => Sum.elim (fun x_33 => some ((-9 : Int32), x_33)) (fun r_33 => some r_33) e_33
set_option maxHeartbeats 4000000 in
set_option maxRecDepth 100000 in
theorem c_X7_frees (l : Launch) (D : va_G) (cI cZ : ClassId) (a_p0 a_p0_kind a_p0_skyAt a_p0_skyLoud a_p0_one a_p0_other a_p0_worth a_p0_hangs a_p0_now a_p0_readPerson a_p0_readSky a_p0_readOath a_p0_text a_p0_row a_p0_toldAt a_p0_toldWool a_p0_toldHeard a_p0_isKept a_p0_kept : Nat) (p0_persons : Int32) (p0_skies : Int32) (p0_oaths : Int32) (p0_readPersons : Int32) (p0_readSkies : Int32) (p0_readOaths : Int32) (p0_length : Int32) (p0_at : Int32) (p0_faultAt : Int32) (p0_acts : Int32) (p0_next : Int32) (p0_told : Int32) (p0_seed : Int64) (p0_kind : Nat → Int32) (p0_one : Nat → Int32) (p0_other : Nat → Int32) (p0_hangs : Nat → Int32) (p0_now : Nat → Int32) (v1 : Int32) (v2 : Int32) (q : Int32 × (Nat → Int32)) (hf : f_X7_frees v1 v2 p0_persons p0_oaths p0_kind p0_one p0_other p0_hangs p0_now = some q) : CtI l D cI cZ yX7_frees wsX7_frees 4 100 [.ref a_p0, .int v1, .int v2] [(a_p0, .inr (7, [.int p0_persons, .int p0_skies, .int p0_oaths, .ref a_p0_kind, .ref a_p0_skyAt, .ref a_p0_skyLoud, .ref a_p0_one, .ref a_p0_other, .ref a_p0_worth, .ref a_p0_hangs, .ref a_p0_now, .ref a_p0_readPerson, .ref a_p0_readSky, .ref a_p0_readOath, .int p0_readPersons, .int p0_readSkies, .int p0_readOaths, .ref a_p0_text, .int p0_length, .int p0_at, .int p0_faultAt, .int p0_acts, .int p0_next, .ref a_p0_row, .int p0_told, .ref a_p0_toldAt, .ref a_p0_toldWool, .ref a_p0_toldHeard, .long p0_seed, .ref a_p0_isKept, .ref a_p0_kept])), (a_p0_kind, .inl (cI, 5, .inl p0_kind)), (a_p0_one, .inl (cI, 5, .inl p0_one)), (a_p0_other, .inl (cI, 5, .inl p0_other)), (a_p0_hangs, .inl (cI, 5, .inl p0_hangs)), (a_p0_now, .inl (cI, 18, .inl p0_now))] (fun q => [(a_p0, .inr (7, [.int p0_persons, .int p0_skies, .int p0_oaths, .ref a_p0_kind, .ref a_p0_skyAt, .ref a_p0_skyLoud, .ref a_p0_one, .ref a_p0_other, .ref a_p0_worth, .ref a_p0_hangs, .ref a_p0_now, .ref a_p0_readPerson, .ref a_p0_readSky, .ref a_p0_readOath, .int p0_readPersons, .int p0_readSkies, .int p0_readOaths, .ref a_p0_text, .int p0_length, .int p0_at, .int p0_faultAt, .int p0_acts, .int p0_next, .ref a_p0_row, .int p0_told, .ref a_p0_toldAt, .ref a_p0_toldWool, .ref a_p0_toldHeard, .long p0_seed, .ref a_p0_isKept, .ref a_p0_kept])), (a_p0_kind, .inl (cI, 5, .inl p0_kind)), (a_p0_one, .inl (cI, 5, .inl p0_one)), (a_p0_other, .inl (cI, 5, .inl p0_other)), (a_p0_hangs, .inl (cI, 5, .inl p0_hangs)), (a_p0_now, .inl (cI, 18, .inl q.2))]) (fun q => q.1) q := by
  refine CtI.of (cc := cX7_frees) (maxL := 5) (plainFor_of_name (by decide)) rfl (Nat.le_of_ble_eq_true rfl) ?_
  intro p e s m args below meth c A Q H ls hB hE hW hl
  have hx := hB.1
  have hb := hB.2.1
  have hml := hB.2.2.2.1
  have hown : s.vm.findClass RX7 = some m.cls := hB.2.2.2.2.1
  have hts := hB.2.2.2.2.2.1
  have hK := hB.2.2.2.2.2.2.2.1.1
  have hl : lv_has ls 5 [(0, .ref a_p0), (1, .int v1), (2, .int v2)] := hl
  have in_X7 : ∀ w ∈ wsX70, w ∈ wsX7_frees := fun w h => List.mem_cons_of_mem _ (List.mem_append_right _ h)
  have fl_31 : (Cond.fieldLink RX7 31 (TX7 10).1 (TX7 10).2.1 (TX7 10).2.2.1).before args s = true := hts (.fieldLink RX7 31 "ClapOathsModel" "now" "[I") (by decide +kernel)
  have fl_111 : (Cond.fieldLink RX7 111 (TX7 2).1 (TX7 2).2.1 (TX7 2).2.2.1).before args s = true := hts (.fieldLink RX7 111 "ClapOathsModel" "oaths" "I") (by decide +kernel)
  unfold f_X7_frees at hf
  refine lv_iload_n hx hb dX7_frees_0 rfl (lv_at hl 1 rfl) ?_
  refine lv_i2l (v := (Int32.toInt64 v1)) hx hb dX7_frees_1 rfl ?_
  refine lv_lconst (v := 0) hx hb dX7_frees_2 (by decide) ?_
  refine lv_iconst (v := 1) hx hb dX7_frees_3 (by decide) ?_
  refine lv_aload_n hx hb dX7_frees_4 rfl (lv_at hl 0 rfl) ?_
  refine q_get hB hW 7 in_X7 0 rfl rfl 2 (by decide) fl_111 (v := .int p0_oaths) rfl dX7_frees_5 ?_
  refine lv_ishl hx hb dX7_frees_8 ?_
  refine lv_iconst (v := 1) hx hb dX7_frees_9 (by decide) ?_
  refine lv_isub hx hb dX7_frees_10 ?_
  refine lv_i2l (v := (Int32.toInt64 (((1 : Int32) <<< (p0_oaths &&& 31)) - (1 : Int32)))) hx hb dX7_frees_11 rfl ?_
  obtain ⟨r_1, hr_1, hf⟩ := bnd hf
  refine q_callSZ hB hW (As := [.long (Int32.toInt64 v1), .long (0 : Int64), .long (Int32.toInt64 (((1 : Int32) <<< (p0_oaths &&& 31)) - (1 : Int32)))]) (rest := []) (ws' := [(a_p0, .inr (7, [.int p0_persons, .int p0_skies, .int p0_oaths, .ref a_p0_kind, .ref a_p0_skyAt, .ref a_p0_skyLoud, .ref a_p0_one, .ref a_p0_other, .ref a_p0_worth, .ref a_p0_hangs, .ref a_p0_now, .ref a_p0_readPerson, .ref a_p0_readSky, .ref a_p0_readOath, .int p0_readPersons, .int p0_readSkies, .int p0_readOaths, .ref a_p0_text, .int p0_length, .int p0_at, .int p0_faultAt, .int p0_acts, .int p0_next, .ref a_p0_row, .int p0_told, .ref a_p0_toldAt, .ref a_p0_toldWool, .ref a_p0_toldHeard, .long p0_seed, .ref a_p0_isKept, .ref a_p0_kept])), (a_p0_kind, .inl (cI, 5, .inl p0_kind)), (a_p0_one, .inl (cI, 5, .inl p0_one)), (a_p0_other, .inl (cI, 5, .inl p0_other)), (a_p0_hangs, .inl (cI, 5, .inl p0_hangs)), (a_p0_now, .inl (cI, 18, .inl p0_now))]) (c_X7_in l D cI cZ (Int32.toInt64 v1) (0 : Int64) (Int32.toInt64 (((1 : Int32) <<< (p0_oaths &&& 31)) - (1 : Int32))) r_1 hr_1) (va_cwS 3 hts gX7_frees_X7_in rfl rfl rfl (by decide +kernel) ⟨Nat.le_of_ble_eq_true rfl, Nat.le_of_ble_eq_true rfl⟩) [] rfl rfl rfl rfl rfl hl.1 rfl (Nat.le_of_ble_eq_true rfl) ⟨Nat.le_of_ble_eq_true rfl, Nat.le_of_ble_eq_true rfl⟩ dX7_frees_12 (fun hzr_1 H locs hW => ?_)
  refine lv_if_eq (tgt := 28) hx hb dX7_frees_15 (by decide) (fun c_2 => ?_) (fun c_2 => ?_)
  · have hf := it_t c_2 hf
    refine lv_bipush (v := -2) hx hb dX7_frees_28 (by decide) ?_
    exact hE _ _ _ _ _ ((-2 : Int32), p0_now) (sm hf) hW rfl dX7_frees_30
  · have hf := it_f c_2 hf
    refine lv_iload_n hx hb dX7_frees_18 rfl (lv_at hl 2 rfl) ?_
    refine lv_i2l (v := (Int32.toInt64 v2)) hx hb dX7_frees_19 rfl ?_
    refine lv_lconst (v := 0) hx hb dX7_frees_20 (by decide) ?_
    refine lv_lconst (v := 1) hx hb dX7_frees_21 (by decide) ?_
    obtain ⟨r_3, hr_3, hf⟩ := bnd hf
    refine q_callSZ hB hW (As := [.long (Int32.toInt64 v2), .long (0 : Int64), .long (1 : Int64)]) (rest := []) (ws' := [(a_p0, .inr (7, [.int p0_persons, .int p0_skies, .int p0_oaths, .ref a_p0_kind, .ref a_p0_skyAt, .ref a_p0_skyLoud, .ref a_p0_one, .ref a_p0_other, .ref a_p0_worth, .ref a_p0_hangs, .ref a_p0_now, .ref a_p0_readPerson, .ref a_p0_readSky, .ref a_p0_readOath, .int p0_readPersons, .int p0_readSkies, .int p0_readOaths, .ref a_p0_text, .int p0_length, .int p0_at, .int p0_faultAt, .int p0_acts, .int p0_next, .ref a_p0_row, .int p0_told, .ref a_p0_toldAt, .ref a_p0_toldWool, .ref a_p0_toldHeard, .long p0_seed, .ref a_p0_isKept, .ref a_p0_kept])), (a_p0_kind, .inl (cI, 5, .inl p0_kind)), (a_p0_one, .inl (cI, 5, .inl p0_one)), (a_p0_other, .inl (cI, 5, .inl p0_other)), (a_p0_hangs, .inl (cI, 5, .inl p0_hangs)), (a_p0_now, .inl (cI, 18, .inl p0_now))]) (c_X7_in l D cI cZ (Int32.toInt64 v2) (0 : Int64) (1 : Int64) r_3 hr_3) (va_cwS 3 hts gX7_frees_X7_in rfl rfl rfl (by decide +kernel) ⟨Nat.le_of_ble_eq_true rfl, Nat.le_of_ble_eq_true rfl⟩) [] rfl rfl rfl rfl rfl hl.1 rfl (Nat.le_of_ble_eq_true rfl) ⟨Nat.le_of_ble_eq_true rfl, Nat.le_of_ble_eq_true rfl⟩ dX7_frees_22 (fun hzr_3 H locs hW => ?_)
    refine lv_if_ne (tgt := 31) hx hb dX7_frees_25 (by decide) (fun c_4 => ?_) (fun c_4 => ?_)
    · have hf := it_f c_4 hf
      refine lv_iconst (v := 0) hx hb dX7_frees_31 (by decide) ?_
      refine lv_istore_n (lv' := [(3, .int (0 : Int32)), (0, .ref a_p0), (1, .int v1), (2, .int v2)]) hx hb dX7_frees_32 rfl hl (by decide) rfl (fun ls hl => ?_)
      obtain ⟨e_33, hl_33, hk_33⟩ := bnd hf
      have K_33 : ∀ x_33 : Nat → Int32, Sum.inl x_33 = e_33 → ∀ (H : Heap) (locs : List Loc) (ls : Array Slot), Wl D A s.heap [(a_p0, .inr (7, [.int p0_persons, .int p0_skies, .int p0_oaths, .ref a_p0_kind, .ref a_p0_skyAt, .ref a_p0_skyLoud, .ref a_p0_one, .ref a_p0_other, .ref a_p0_worth, .ref a_p0_hangs, .ref a_p0_now, .ref a_p0_readPerson, .ref a_p0_readSky, .ref a_p0_readOath, .int p0_readPersons, .int p0_readSkies, .int p0_readOaths, .ref a_p0_text, .int p0_length, .int p0_at, .int p0_faultAt, .int p0_acts, .int p0_next, .ref a_p0_row, .int p0_told, .ref a_p0_toldAt, .ref a_p0_toldWool, .ref a_p0_toldHeard, .long p0_seed, .ref a_p0_isKept, .ref a_p0_kept])), (a_p0_kind, .inl (cI, 5, .inl p0_kind)), (a_p0_one, .inl (cI, 5, .inl p0_one)), (a_p0_other, .inl (cI, 5, .inl p0_other)), (a_p0_hangs, .inl (cI, 5, .inl p0_hangs)), (a_p0_now, .inl (cI, 18, .inl x_33))] H locs → lv_has ls 5 [] → W p l e (Rm 4 100) s m args below meth c H locs 0 0 Q (F0 m 97 ls []) := by
        intro x_33 hx_33 H locs ls hW hl
        have hf := s_inl hx_33 hk_33
        refine lv_bipush (v := -9) hx hb dX7_frees_97 (by decide) ?_
        exact hE _ _ _ _ _ ((-9 : Int32), x_33) (sm hf) hW rfl dX7_frees_99
      have L_33 : ∀ (n : Nat) (y33_3 : Int32) (y33_p0_now : Nat → Int32) (H : Heap) (locs : List Loc) (ls : Array Slot), itr (fun s => b_X7_frees_33 v1 v2 p0_persons p0_oaths p0_kind p0_one p0_other p0_hangs s.1 s.2) n (y33_3, y33_p0_now) = some e_33 → Wl D A s.heap [(a_p0, .inr (7, [.int p0_persons, .int p0_skies, .int p0_oaths, .ref a_p0_kind, .ref a_p0_skyAt, .ref a_p0_skyLoud, .ref a_p0_one, .ref a_p0_other, .ref a_p0_worth, .ref a_p0_hangs, .ref a_p0_now, .ref a_p0_readPerson, .ref a_p0_readSky, .ref a_p0_readOath, .int p0_readPersons, .int p0_readSkies, .int p0_readOaths, .ref a_p0_text, .int p0_length, .int p0_at, .int p0_faultAt, .int p0_acts, .int p0_next, .ref a_p0_row, .int p0_told, .ref a_p0_toldAt, .ref a_p0_toldWool, .ref a_p0_toldHeard, .long p0_seed, .ref a_p0_isKept, .ref a_p0_kept])), (a_p0_kind, .inl (cI, 5, .inl p0_kind)), (a_p0_one, .inl (cI, 5, .inl p0_one)), (a_p0_other, .inl (cI, 5, .inl p0_other)), (a_p0_hangs, .inl (cI, 5, .inl p0_hangs)), (a_p0_now, .inl (cI, 18, .inl y33_p0_now))] H locs → lv_has ls 5 [(0, .ref a_p0), (1, .int v1), (2, .int v2), (3, .int y33_3)] → W p l e (Rm 4 100) s m args below meth c H locs 0 0 Q (F0 m 33 ls []) := by
        intro n
        induction n with
        | zero => intro y33_3 y33_p0_now H locs ls h9; exact itr_0 h9
        | succ n ih =>
          intro y33_3 y33_p0_now H locs ls hf hW hl
          obtain ⟨o_33, hf, ho_33⟩ := itr_inv hf
          have hf : b_X7_frees_33 v1 v2 p0_persons p0_oaths p0_kind p0_one p0_other p0_hangs y33_3 y33_p0_now = some o_33 := hf
          unfold b_X7_frees_33 at hf
          refine lv_iload_n hx hb dX7_frees_33 rfl (lv_at hl 3 rfl) ?_
          refine lv_bipush (v := 10) hx hb dX7_frees_34 (by decide) ?_
          refine lv_icmp_ge (tgt := 97) hx hb dX7_frees_36 (by decide) (fun c_5 => ?_) (fun c_5 => ?_)
          · have hf := it_t c_5 hf
            have h9 := o_inr hf ho_33
            exact K_33 y33_p0_now h9 _ _ _ hW (lv_sub hl [] rfl)
          · have hf := it_f c_5 hf
            refine lv_iconst (v := 0) hx hb dX7_frees_39 (by decide) ?_
            refine lv_istore (lv' := [(4, .int (0 : Int32)), (0, .ref a_p0), (1, .int v1), (2, .int v2), (3, .int y33_3)]) hx hb dX7_frees_40 hl (by decide) rfl (fun ls hl => ?_)
            obtain ⟨e_42, hl_42, hk_42⟩ := bnd hf
            have K_42 : ∀ x_42 : Nat → Int32, Sum.inl x_42 = e_42 → ∀ (H : Heap) (locs : List Loc) (ls : Array Slot), Wl D A s.heap [(a_p0, .inr (7, [.int p0_persons, .int p0_skies, .int p0_oaths, .ref a_p0_kind, .ref a_p0_skyAt, .ref a_p0_skyLoud, .ref a_p0_one, .ref a_p0_other, .ref a_p0_worth, .ref a_p0_hangs, .ref a_p0_now, .ref a_p0_readPerson, .ref a_p0_readSky, .ref a_p0_readOath, .int p0_readPersons, .int p0_readSkies, .int p0_readOaths, .ref a_p0_text, .int p0_length, .int p0_at, .int p0_faultAt, .int p0_acts, .int p0_next, .ref a_p0_row, .int p0_told, .ref a_p0_toldAt, .ref a_p0_toldWool, .ref a_p0_toldHeard, .long p0_seed, .ref a_p0_isKept, .ref a_p0_kept])), (a_p0_kind, .inl (cI, 5, .inl p0_kind)), (a_p0_one, .inl (cI, 5, .inl p0_one)), (a_p0_other, .inl (cI, 5, .inl p0_other)), (a_p0_hangs, .inl (cI, 5, .inl p0_hangs)), (a_p0_now, .inl (cI, 18, .inl x_42))] H locs → lv_has ls 5 [(0, .ref a_p0), (1, .int v1), (2, .int v2), (3, .int y33_3)] → W p l e (Rm 4 100) s m args below meth c H locs 0 0 Q (F0 m 91 ls []) := by
              intro x_42 hx_42 H locs ls hW hl
              have hf := s_inl hx_42 hk_42
              refine lv_iinc (v := (y33_3 + (1 : Int32))) (lv' := [(3, .int (y33_3 + (1 : Int32))), (0, .ref a_p0), (1, .int v1), (2, .int v2)]) hx hb dX7_frees_91 hl (k := 3) rfl rfl (by decide) rfl (fun ls hl => ?_)
              refine lv_goto (tgt := 33) hx hb dX7_frees_94 (by decide) ?_
              have h9 := o_inl hf ho_33
              exact ih (y33_3 + (1 : Int32)) x_42 _ _ _ h9 hW (lv_sub hl [1, 2, 3, 0] rfl)
            have L_42 : ∀ (n : Nat) (y42_4 : Int32) (y42_p0_now : Nat → Int32) (H : Heap) (locs : List Loc) (ls : Array Slot), itr (fun s => b_X7_frees_42 v1 v2 y33_3 p0_persons p0_oaths p0_kind p0_one p0_other p0_hangs s.1 s.2) n (y42_4, y42_p0_now) = some e_42 → Wl D A s.heap [(a_p0, .inr (7, [.int p0_persons, .int p0_skies, .int p0_oaths, .ref a_p0_kind, .ref a_p0_skyAt, .ref a_p0_skyLoud, .ref a_p0_one, .ref a_p0_other, .ref a_p0_worth, .ref a_p0_hangs, .ref a_p0_now, .ref a_p0_readPerson, .ref a_p0_readSky, .ref a_p0_readOath, .int p0_readPersons, .int p0_readSkies, .int p0_readOaths, .ref a_p0_text, .int p0_length, .int p0_at, .int p0_faultAt, .int p0_acts, .int p0_next, .ref a_p0_row, .int p0_told, .ref a_p0_toldAt, .ref a_p0_toldWool, .ref a_p0_toldHeard, .long p0_seed, .ref a_p0_isKept, .ref a_p0_kept])), (a_p0_kind, .inl (cI, 5, .inl p0_kind)), (a_p0_one, .inl (cI, 5, .inl p0_one)), (a_p0_other, .inl (cI, 5, .inl p0_other)), (a_p0_hangs, .inl (cI, 5, .inl p0_hangs)), (a_p0_now, .inl (cI, 18, .inl y42_p0_now))] H locs → lv_has ls 5 [(0, .ref a_p0), (1, .int v1), (2, .int v2), (3, .int y33_3), (4, .int y42_4)] → W p l e (Rm 4 100) s m args below meth c H locs 0 0 Q (F0 m 42 ls []) := by
              intro n
              induction n with
              | zero => intro y42_4 y42_p0_now H locs ls h9; exact itr_0 h9
              | succ n ih =>
                intro y42_4 y42_p0_now H locs ls hf hW hl
                obtain ⟨o_42, hf, ho_42⟩ := itr_inv hf
                have hf : b_X7_frees_42 v1 v2 y33_3 p0_persons p0_oaths p0_kind p0_one p0_other p0_hangs y42_4 y42_p0_now = some o_42 := hf
                unfold b_X7_frees_42 at hf
                refine lv_iload hx hb dX7_frees_42 (lv_at hl 4 rfl) ?_
                refine lv_bipush (v := 10) hx hb dX7_frees_44 (by decide) ?_
                refine lv_icmp_ge (tgt := 91) hx hb dX7_frees_46 (by decide) (fun c_6 => ?_) (fun c_6 => ?_)
                · have hf := it_t c_6 hf
                  have h9 := o_inr hf ho_42
                  exact K_42 y42_p0_now h9 _ _ _ hW (lv_sub hl [0, 1, 2, 3] rfl)
                · have hf := it_f c_6 hf
                  refine lv_aload_n hx hb dX7_frees_49 rfl (lv_at hl 0 rfl) ?_
                  obtain ⟨r_7, hr_7, hf⟩ := bnd hf
                  refine q_callVV hB hW (ci := 7) (q0 := 0) rfl rfl rfl (As := []) (rest := []) (ws' := [(a_p0, .inr (7, [.int p0_persons, .int p0_skies, .int p0_oaths, .ref a_p0_kind, .ref a_p0_skyAt, .ref a_p0_skyLoud, .ref a_p0_one, .ref a_p0_other, .ref a_p0_worth, .ref a_p0_hangs, .ref a_p0_now, .ref a_p0_readPerson, .ref a_p0_readSky, .ref a_p0_readOath, .int p0_readPersons, .int p0_readSkies, .int p0_readOaths, .ref a_p0_text, .int p0_length, .int p0_at, .int p0_faultAt, .int p0_acts, .int p0_next, .ref a_p0_row, .int p0_told, .ref a_p0_toldAt, .ref a_p0_toldWool, .ref a_p0_toldHeard, .long p0_seed, .ref a_p0_isKept, .ref a_p0_kept])), (a_p0_kind, .inl (cI, 5, .inl p0_kind)), (a_p0_one, .inl (cI, 5, .inl p0_one)), (a_p0_other, .inl (cI, 5, .inl p0_other)), (a_p0_hangs, .inl (cI, 5, .inl p0_hangs)), (a_p0_now, .inl (cI, 18, .inl r_7))]) (c_X7_layTrial l D cI cZ a_p0 a_p0_kind a_p0_skyAt a_p0_skyLoud a_p0_one a_p0_other a_p0_worth a_p0_hangs a_p0_now a_p0_readPerson a_p0_readSky a_p0_readOath a_p0_text a_p0_row a_p0_toldAt a_p0_toldWool a_p0_toldHeard a_p0_isKept a_p0_kept p0_persons p0_skies p0_oaths p0_readPersons p0_readSkies p0_readOaths p0_length p0_at p0_faultAt p0_acts p0_next p0_told p0_seed y42_p0_now r_7 hr_7) (cwV 0 hts gX7_frees_X7_layTrial rfl rfl rfl (by decide +kernel) ⟨Nat.le_of_ble_eq_true rfl, Nat.le_of_ble_eq_true rfl⟩) [0, 5] rfl rfl rfl rfl rfl hl.1 rfl (Nat.le_of_ble_eq_true rfl) ⟨Nat.le_of_ble_eq_true rfl, Nat.le_of_ble_eq_true rfl⟩ dX7_frees_50 (fun H locs hW => ?_)
                  refine lv_aload_n hx hb dX7_frees_53 rfl (lv_at hl 0 rfl) ?_
                  refine lv_iconst (v := 1) hx hb dX7_frees_54 (by decide) ?_
                  refine lv_iload hx hb dX7_frees_55 (lv_at hl 4 rfl) ?_
                  refine lv_iload_n hx hb dX7_frees_57 rfl (lv_at hl 3 rfl) ?_
                  obtain ⟨r_8, hr_8, hf⟩ := bnd hf
                  refine q_callVI hB hW (ci := 7) (q0 := 0) rfl rfl rfl (As := [.int (1 : Int32), .int y42_4, .int y33_3]) (rest := []) (ws' := [(a_p0, .inr (7, [.int p0_persons, .int p0_skies, .int p0_oaths, .ref a_p0_kind, .ref a_p0_skyAt, .ref a_p0_skyLoud, .ref a_p0_one, .ref a_p0_other, .ref a_p0_worth, .ref a_p0_hangs, .ref a_p0_now, .ref a_p0_readPerson, .ref a_p0_readSky, .ref a_p0_readOath, .int p0_readPersons, .int p0_readSkies, .int p0_readOaths, .ref a_p0_text, .int p0_length, .int p0_at, .int p0_faultAt, .int p0_acts, .int p0_next, .ref a_p0_row, .int p0_told, .ref a_p0_toldAt, .ref a_p0_toldWool, .ref a_p0_toldHeard, .long p0_seed, .ref a_p0_isKept, .ref a_p0_kept])), (a_p0_kind, .inl (cI, 5, .inl p0_kind)), (a_p0_one, .inl (cI, 5, .inl p0_one)), (a_p0_other, .inl (cI, 5, .inl p0_other)), (a_p0_hangs, .inl (cI, 5, .inl p0_hangs)), (a_p0_now, .inl (cI, 18, .inl r_8.2))]) (c_X7_clapOn l D cI cZ a_p0 a_p0_kind a_p0_skyAt a_p0_skyLoud a_p0_one a_p0_other a_p0_worth a_p0_hangs a_p0_now a_p0_readPerson a_p0_readSky a_p0_readOath a_p0_text a_p0_row a_p0_toldAt a_p0_toldWool a_p0_toldHeard a_p0_isKept a_p0_kept p0_persons p0_skies p0_oaths p0_readPersons p0_readSkies p0_readOaths p0_length p0_at p0_faultAt p0_acts p0_next p0_told p0_seed p0_kind p0_one p0_other p0_hangs r_7 (1 : Int32) y42_4 y33_3 r_8 hr_8) (cwV 3 hts gX7_frees_X7_clapOn rfl rfl rfl (by decide +kernel) ⟨Nat.le_of_ble_eq_true rfl, Nat.le_of_ble_eq_true rfl⟩) [0, 1, 2, 3, 4, 5] rfl rfl rfl rfl rfl hl.1 rfl (Nat.le_of_ble_eq_true rfl) ⟨Nat.le_of_ble_eq_true rfl, Nat.le_of_ble_eq_true rfl⟩ dX7_frees_58 (fun H locs hW => ?_)
                  refine lv_pop hx hb dX7_frees_61 rfl ?_
                  refine lv_iload_n hx hb dX7_frees_62 rfl (lv_at hl 1 rfl) ?_
                  refine lv_aload_n hx hb dX7_frees_63 rfl (lv_at hl 0 rfl) ?_
                  refine q_get hB hW 7 in_X7 0 rfl rfl 10 (by decide) fl_31 (v := .ref a_p0_now) rfl dX7_frees_64 ?_
                  refine lv_bipush (v := 15) hx hb dX7_frees_67 (by decide) ?_
                  obtain ⟨r_9, hr_9, hf⟩ := bnd hf
                  refine q_iald hB hW 5 rfl hr_9 dX7_frees_69 ?_
                  refine lv_iand hx hb dX7_frees_70 ?_
                  refine lv_if_ne (tgt := 85) hx hb dX7_frees_71 (by decide) (fun c_10 => ?_) (fun c_10 => ?_)
                  · have hf := it_f c_10 hf
                    refine lv_iinc (v := (y42_4 + (1 : Int32))) (lv' := [(4, .int (y42_4 + (1 : Int32))), (0, .ref a_p0), (1, .int v1), (2, .int v2), (3, .int y33_3)]) hx hb dX7_frees_85 hl (k := 4) rfl rfl (by decide) rfl (fun ls hl => ?_)
                    refine lv_goto (tgt := 42) hx hb dX7_frees_88 (by decide) ?_
                    have h9 := o_inl hf ho_42
                    exact ih (y42_4 + (1 : Int32)) r_8.2 _ _ _ h9 hW (lv_sub hl [1, 2, 3, 4, 0] rfl)
                  · have hf := it_t c_10 hf
                    refine lv_iload_n hx hb dX7_frees_74 rfl (lv_at hl 2 rfl) ?_
                    refine lv_if_ne (tgt := 82) hx hb dX7_frees_75 (by decide) (fun c_11 => ?_) (fun c_11 => ?_)
                    · have hf := it_f c_11 hf
                      refine lv_iload hx hb dX7_frees_82 (lv_at hl 4 rfl) ?_
                      have h9 := o_inr hf ho_42
                      have h9 := s_inr h9 hk_42
                      have h9 := o_inr h9 ho_33
                      have h9 := s_inr h9 hk_33
                      exact hE _ _ _ _ _ (y42_4, r_8.2) (sm h9) hW rfl dX7_frees_84
                    · have hf := it_t c_11 hf
                      refine lv_iload_n hx hb dX7_frees_78 rfl (lv_at hl 3 rfl) ?_
                      refine lv_goto (tgt := 84) hx hb dX7_frees_79 (by decide) ?_
                      have h9 := o_inr hf ho_42
                      have h9 := s_inr h9 hk_42
                      have h9 := o_inr h9 ho_33
                      have h9 := s_inr h9 hk_33
                      exact hE _ _ _ _ _ (y33_3, r_8.2) (sm h9) hW rfl dX7_frees_84
            exact L_42 FU (0 : Int32) y33_p0_now _ _ _ hl_42 hW (lv_sub hl [1, 2, 3, 4, 0] rfl)
      exact L_33 FU (0 : Int32) p0_now _ _ _ hl_33 hW (lv_sub hl [1, 2, 3, 0] rfl)
    · have hf := it_t c_4 hf
      refine lv_bipush (v := -2) hx hb dX7_frees_28 (by decide) ?_
      exact hE _ _ _ _ _ ((-2 : Int32), p0_now) (sm hf) hW rfl dX7_frees_30
def f_X7_tryThing (v1 : Int32) (v2 : Int32) (v3 : Int32) (p0_persons : Int32) (p0_skies : Int32) (p0_oaths : Int32) (p0_kind : Nat → Int32) (p0_skyAt : Nat → Int32) (p0_skyLoud : Nat → Int32) (p0_one : Nat → Int32) (p0_other : Nat → Int32) (p0_worth : Nat → Int32) (p0_hangs : Nat → Int32) (p0_now : Nat → Int32) : Option (Int32 × (Nat → Int32)) := if v1 = (0 : Int32) then (f_X7_passOn (1 : Int32) (1 : Int32) p0_persons p0_skies p0_oaths p0_kind p0_skyAt p0_skyLoud p0_one p0_other p0_worth p0_hangs p0_now).bind fun r_2 => if v2 = (0 : Int32) then if v3 = (0 : Int32) then some ((1 : Int32), r_2.2) else some ((0 : Int32), r_2.2) else some ((0 : Int32), r_2.2) else if v1 = (1 : Int32) then (f_X7_clapOn (1 : Int32) v2 v3 p0_persons p0_oaths p0_kind p0_one p0_other p0_hangs p0_now).bind fun r_6 => some ((1 : Int32), r_6.2) else if v1 = (2 : Int32) then if v2 = (0 : Int32) then (f_X7_canSwear (1 : Int32) v3 p0_oaths p0_hangs p0_now).bind fun r_11 => if r_11 = (0 : Int32) then (ald p0_now 18 (15 : Int32)).bind fun r_13 => (ast p0_now 18 (15 : Int32) (r_13 ||| (0 : Int32))).bind fun r_14 => some ((0 : Int32), r_14) else (ald p0_now 18 (15 : Int32)).bind fun r_15 => (ast p0_now 18 (15 : Int32) (r_15 ||| ((1 : Int32) <<< (v3 &&& 31)))).bind fun r_16 => some ((1 : Int32), r_16) else (ald p0_now 18 (15 : Int32)).bind fun r_9 => (ast p0_now 18 (15 : Int32) (r_9 ||| (0 : Int32))).bind fun r_10 => some ((0 : Int32), r_10) else if v1 = (3 : Int32) then if v2 = (0 : Int32) then (f_X7_isOath v3 p0_oaths).bind fun r_19 => if r_19 = (0 : Int32) then some ((0 : Int32), p0_now) else (ald p0_now 18 (15 : Int32)).bind fun r_21 => (f_X7_has r_21 v3).bind fun r_22 => if r_22 = (0 : Int32) then some ((0 : Int32), p0_now) else (f_X7_formOn (1 : Int32) v3 p0_oaths p0_hangs p0_now).bind fun r_24 => some ((1 : Int32), r_24.2) else some ((0 : Int32), p0_now) else if v1 = (4 : Int32) then (f_X7_isPerson v2 p0_persons).bind fun r_26 => if r_26 = (0 : Int32) then some ((0 : Int32), p0_now) else (f_X7_isPlace v3).bind fun r_28 => if r_28 = (0 : Int32) then some ((0 : Int32), p0_now) else (ald p0_now 18 ((9 : Int32) + v2)).bind fun r_30 => if r_30 = v3 then some ((0 : Int32), p0_now) else (ast p0_now 18 ((9 : Int32) + v2) v3).bind fun r_32 => some ((1 : Int32), r_32) else if v1 = (5 : Int32) then if v2 = (0 : Int32) then (f_X7_canWool v3 p0_persons p0_kind).bind fun r_37 => if r_37 = (0 : Int32) then (ald p0_now 18 (14 : Int32)).bind fun r_39 => (ast p0_now 18 (14 : Int32) (r_39 ^^^ (0 : Int32))).bind fun r_40 => some ((0 : Int32), r_40) else (ald p0_now 18 (14 : Int32)).bind fun r_41 => (ast p0_now 18 (14 : Int32) (r_41 ^^^ ((1 : Int32) <<< (v3 &&& 31)))).bind fun r_42 => some ((1 : Int32), r_42) else (ald p0_now 18 (14 : Int32)).bind fun r_35 => (ast p0_now 18 (14 : Int32) (r_35 ^^^ (0 : Int32))).bind fun r_36 => some ((0 : Int32), r_36) else if v1 = (6 : Int32) then if v2 = (0 : Int32) then (f_X7_isOath v3 p0_oaths).bind fun r_45 => if r_45 = (0 : Int32) then some ((0 : Int32), p0_now) else (ald p0_now 18 (15 : Int32)).bind fun r_47 => (f_X7_has r_47 v3).bind fun r_48 => if r_48 = (0 : Int32) then some ((0 : Int32), p0_now) else some ((1 : Int32), p0_now) else some ((0 : Int32), p0_now) else some ((0 : Int32), p0_now)
set_option maxHeartbeats 4000000 in
set_option maxRecDepth 100000 in
theorem c_X7_tryThing (l : Launch) (D : va_G) (cI cZ : ClassId) (a_p0 a_p0_kind a_p0_skyAt a_p0_skyLoud a_p0_one a_p0_other a_p0_worth a_p0_hangs a_p0_now a_p0_readPerson a_p0_readSky a_p0_readOath a_p0_text a_p0_row a_p0_toldAt a_p0_toldWool a_p0_toldHeard a_p0_isKept a_p0_kept : Nat) (p0_persons : Int32) (p0_skies : Int32) (p0_oaths : Int32) (p0_readPersons : Int32) (p0_readSkies : Int32) (p0_readOaths : Int32) (p0_length : Int32) (p0_at : Int32) (p0_faultAt : Int32) (p0_acts : Int32) (p0_next : Int32) (p0_told : Int32) (p0_seed : Int64) (p0_kind : Nat → Int32) (p0_skyAt : Nat → Int32) (p0_skyLoud : Nat → Int32) (p0_one : Nat → Int32) (p0_other : Nat → Int32) (p0_worth : Nat → Int32) (p0_hangs : Nat → Int32) (p0_now : Nat → Int32) (v1 : Int32) (v2 : Int32) (v3 : Int32) (q : Int32 × (Nat → Int32)) (hf : f_X7_tryThing v1 v2 v3 p0_persons p0_skies p0_oaths p0_kind p0_skyAt p0_skyLoud p0_one p0_other p0_worth p0_hangs p0_now = some q) : CtZ l D cI cZ yX7_tryThing wsX7_tryThing 5 126 [.ref a_p0, .int v1, .int v2, .int v3] [(a_p0, .inr (7, [.int p0_persons, .int p0_skies, .int p0_oaths, .ref a_p0_kind, .ref a_p0_skyAt, .ref a_p0_skyLoud, .ref a_p0_one, .ref a_p0_other, .ref a_p0_worth, .ref a_p0_hangs, .ref a_p0_now, .ref a_p0_readPerson, .ref a_p0_readSky, .ref a_p0_readOath, .int p0_readPersons, .int p0_readSkies, .int p0_readOaths, .ref a_p0_text, .int p0_length, .int p0_at, .int p0_faultAt, .int p0_acts, .int p0_next, .ref a_p0_row, .int p0_told, .ref a_p0_toldAt, .ref a_p0_toldWool, .ref a_p0_toldHeard, .long p0_seed, .ref a_p0_isKept, .ref a_p0_kept])), (a_p0_kind, .inl (cI, 5, .inl p0_kind)), (a_p0_skyAt, .inl (cI, 5, .inl p0_skyAt)), (a_p0_skyLoud, .inl (cI, 5, .inl p0_skyLoud)), (a_p0_one, .inl (cI, 5, .inl p0_one)), (a_p0_other, .inl (cI, 5, .inl p0_other)), (a_p0_worth, .inl (cI, 5, .inl p0_worth)), (a_p0_hangs, .inl (cI, 5, .inl p0_hangs)), (a_p0_now, .inl (cI, 18, .inl p0_now))] (fun q => [(a_p0, .inr (7, [.int p0_persons, .int p0_skies, .int p0_oaths, .ref a_p0_kind, .ref a_p0_skyAt, .ref a_p0_skyLoud, .ref a_p0_one, .ref a_p0_other, .ref a_p0_worth, .ref a_p0_hangs, .ref a_p0_now, .ref a_p0_readPerson, .ref a_p0_readSky, .ref a_p0_readOath, .int p0_readPersons, .int p0_readSkies, .int p0_readOaths, .ref a_p0_text, .int p0_length, .int p0_at, .int p0_faultAt, .int p0_acts, .int p0_next, .ref a_p0_row, .int p0_told, .ref a_p0_toldAt, .ref a_p0_toldWool, .ref a_p0_toldHeard, .long p0_seed, .ref a_p0_isKept, .ref a_p0_kept])), (a_p0_kind, .inl (cI, 5, .inl p0_kind)), (a_p0_skyAt, .inl (cI, 5, .inl p0_skyAt)), (a_p0_skyLoud, .inl (cI, 5, .inl p0_skyLoud)), (a_p0_one, .inl (cI, 5, .inl p0_one)), (a_p0_other, .inl (cI, 5, .inl p0_other)), (a_p0_worth, .inl (cI, 5, .inl p0_worth)), (a_p0_hangs, .inl (cI, 5, .inl p0_hangs)), (a_p0_now, .inl (cI, 18, .inl q.2))]) (fun q => q.1) q := by
  refine CtZ.of (cc := cX7_tryThing) (maxL := 8) (plainFor_of_name (by decide)) rfl (Nat.le_of_ble_eq_true rfl) ?_
  intro p e s m args below meth c A Q H ls hB hE hW hl
  have hx := hB.1
  have hb := hB.2.1
  have hml := hB.2.2.2.1
  have hown : s.vm.findClass RX7 = some m.cls := hB.2.2.2.2.1
  have hts := hB.2.2.2.2.2.1
  have hK := hB.2.2.2.2.2.2.2.1.1
  have hl : lv_has ls 8 [(0, .ref a_p0), (1, .int v1), (2, .int v2), (3, .int v3)] := hl
  have in_X7 : ∀ w ∈ wsX70, w ∈ wsX7_tryThing := fun w h => List.mem_cons_of_mem _ (List.mem_append_right _ h)
  have fl_31 : (Cond.fieldLink RX7 31 (TX7 10).1 (TX7 10).2.1 (TX7 10).2.2.1).before args s = true := hts (.fieldLink RX7 31 "ClapOathsModel" "now" "[I") (by decide +kernel)
  unfold f_X7_tryThing at hf
  refine lv_iload_n hx hb dX7_tryThing_0 rfl (lv_at hl 1 rfl) ?_
  by_cases c_1 : v1 = (0 : Int32)
  · have hf := it_t c_1 hf
    refine lv_tableIn (tgt := 44) (off := 43) hx hb dX7_tryThing_1 (by rw [c_1]; decide) (by rw [c_1]; decide) (by rw [c_1]; rfl) (by decide) ?_
    refine lv_aload_n hx hb dX7_tryThing_44 rfl (lv_at hl 0 rfl) ?_
    refine lv_iconst (v := 1) hx hb dX7_tryThing_45 (by decide) ?_
    refine lv_iconst (v := 1) hx hb dX7_tryThing_46 (by decide) ?_
    obtain ⟨r_2, hr_2, hf⟩ := bnd hf
    refine q_callVI hB hW (ci := 7) (q0 := 0) rfl rfl rfl (As := [.int (1 : Int32), .int (1 : Int32)]) (rest := []) (ws' := [(a_p0, .inr (7, [.int p0_persons, .int p0_skies, .int p0_oaths, .ref a_p0_kind, .ref a_p0_skyAt, .ref a_p0_skyLoud, .ref a_p0_one, .ref a_p0_other, .ref a_p0_worth, .ref a_p0_hangs, .ref a_p0_now, .ref a_p0_readPerson, .ref a_p0_readSky, .ref a_p0_readOath, .int p0_readPersons, .int p0_readSkies, .int p0_readOaths, .ref a_p0_text, .int p0_length, .int p0_at, .int p0_faultAt, .int p0_acts, .int p0_next, .ref a_p0_row, .int p0_told, .ref a_p0_toldAt, .ref a_p0_toldWool, .ref a_p0_toldHeard, .long p0_seed, .ref a_p0_isKept, .ref a_p0_kept])), (a_p0_kind, .inl (cI, 5, .inl p0_kind)), (a_p0_skyAt, .inl (cI, 5, .inl p0_skyAt)), (a_p0_skyLoud, .inl (cI, 5, .inl p0_skyLoud)), (a_p0_one, .inl (cI, 5, .inl p0_one)), (a_p0_other, .inl (cI, 5, .inl p0_other)), (a_p0_worth, .inl (cI, 5, .inl p0_worth)), (a_p0_hangs, .inl (cI, 5, .inl p0_hangs)), (a_p0_now, .inl (cI, 18, .inl r_2.2))]) (c_X7_passOn l D cI cZ a_p0 a_p0_kind a_p0_skyAt a_p0_skyLoud a_p0_one a_p0_other a_p0_worth a_p0_hangs a_p0_now a_p0_readPerson a_p0_readSky a_p0_readOath a_p0_text a_p0_row a_p0_toldAt a_p0_toldWool a_p0_toldHeard a_p0_isKept a_p0_kept p0_persons p0_skies p0_oaths p0_readPersons p0_readSkies p0_readOaths p0_length p0_at p0_faultAt p0_acts p0_next p0_told p0_seed p0_kind p0_skyAt p0_skyLoud p0_one p0_other p0_worth p0_hangs p0_now (1 : Int32) (1 : Int32) r_2 hr_2) (cwV 2 hts gX7_tryThing_X7_passOn rfl rfl rfl (by decide +kernel) ⟨Nat.le_of_ble_eq_true rfl, Nat.le_of_ble_eq_true rfl⟩) [0, 1, 2, 3, 4, 5, 6, 7, 8] rfl rfl rfl rfl rfl hl.1 rfl (Nat.le_of_ble_eq_true rfl) ⟨Nat.le_of_ble_eq_true rfl, Nat.le_of_ble_eq_true rfl⟩ dX7_tryThing_47 (fun H locs hW => ?_)
    refine lv_pop hx hb dX7_tryThing_50 rfl ?_
    refine lv_iload_n hx hb dX7_tryThing_51 rfl (lv_at hl 2 rfl) ?_
    refine lv_if_ne (tgt := 63) hx hb dX7_tryThing_52 (by decide) (fun c_3 => ?_) (fun c_3 => ?_)
    · have hf := it_f c_3 hf
      refine lv_iconst (v := 0) hx hb dX7_tryThing_63 (by decide) ?_
      exact hE _ _ _ _ _ ((0 : Int32), r_2.2) (sm hf) hW rfl nz_0 dX7_tryThing_64
    · have hf := it_t c_3 hf
      refine lv_iload_n hx hb dX7_tryThing_55 rfl (lv_at hl 3 rfl) ?_
      refine lv_if_ne (tgt := 63) hx hb dX7_tryThing_56 (by decide) (fun c_4 => ?_) (fun c_4 => ?_)
      · have hf := it_f c_4 hf
        refine lv_iconst (v := 0) hx hb dX7_tryThing_63 (by decide) ?_
        exact hE _ _ _ _ _ ((0 : Int32), r_2.2) (sm hf) hW rfl nz_0 dX7_tryThing_64
      · have hf := it_t c_4 hf
        refine lv_iconst (v := 1) hx hb dX7_tryThing_59 (by decide) ?_
        refine lv_goto (tgt := 64) hx hb dX7_tryThing_60 (by decide) ?_
        exact hE _ _ _ _ _ ((1 : Int32), r_2.2) (sm hf) hW rfl nz_1 dX7_tryThing_64
  have hf := it_f c_1 hf
  by_cases c_5 : v1 = (1 : Int32)
  · have hf := it_t c_5 hf
    refine lv_tableIn (tgt := 65) (off := 64) hx hb dX7_tryThing_1 (by rw [c_5]; decide) (by rw [c_5]; decide) (by rw [c_5]; rfl) (by decide) ?_
    refine lv_aload_n hx hb dX7_tryThing_65 rfl (lv_at hl 0 rfl) ?_
    refine lv_iconst (v := 1) hx hb dX7_tryThing_66 (by decide) ?_
    refine lv_iload_n hx hb dX7_tryThing_67 rfl (lv_at hl 2 rfl) ?_
    refine lv_iload_n hx hb dX7_tryThing_68 rfl (lv_at hl 3 rfl) ?_
    obtain ⟨r_6, hr_6, hf⟩ := bnd hf
    refine q_callVI hB hW (ci := 7) (q0 := 0) rfl rfl rfl (As := [.int (1 : Int32), .int v2, .int v3]) (rest := []) (ws' := [(a_p0, .inr (7, [.int p0_persons, .int p0_skies, .int p0_oaths, .ref a_p0_kind, .ref a_p0_skyAt, .ref a_p0_skyLoud, .ref a_p0_one, .ref a_p0_other, .ref a_p0_worth, .ref a_p0_hangs, .ref a_p0_now, .ref a_p0_readPerson, .ref a_p0_readSky, .ref a_p0_readOath, .int p0_readPersons, .int p0_readSkies, .int p0_readOaths, .ref a_p0_text, .int p0_length, .int p0_at, .int p0_faultAt, .int p0_acts, .int p0_next, .ref a_p0_row, .int p0_told, .ref a_p0_toldAt, .ref a_p0_toldWool, .ref a_p0_toldHeard, .long p0_seed, .ref a_p0_isKept, .ref a_p0_kept])), (a_p0_kind, .inl (cI, 5, .inl p0_kind)), (a_p0_skyAt, .inl (cI, 5, .inl p0_skyAt)), (a_p0_skyLoud, .inl (cI, 5, .inl p0_skyLoud)), (a_p0_one, .inl (cI, 5, .inl p0_one)), (a_p0_other, .inl (cI, 5, .inl p0_other)), (a_p0_worth, .inl (cI, 5, .inl p0_worth)), (a_p0_hangs, .inl (cI, 5, .inl p0_hangs)), (a_p0_now, .inl (cI, 18, .inl r_6.2))]) (c_X7_clapOn l D cI cZ a_p0 a_p0_kind a_p0_skyAt a_p0_skyLoud a_p0_one a_p0_other a_p0_worth a_p0_hangs a_p0_now a_p0_readPerson a_p0_readSky a_p0_readOath a_p0_text a_p0_row a_p0_toldAt a_p0_toldWool a_p0_toldHeard a_p0_isKept a_p0_kept p0_persons p0_skies p0_oaths p0_readPersons p0_readSkies p0_readOaths p0_length p0_at p0_faultAt p0_acts p0_next p0_told p0_seed p0_kind p0_one p0_other p0_hangs p0_now (1 : Int32) v2 v3 r_6 hr_6) (cwV 3 hts gX7_tryThing_X7_clapOn rfl rfl rfl (by decide +kernel) ⟨Nat.le_of_ble_eq_true rfl, Nat.le_of_ble_eq_true rfl⟩) [0, 1, 4, 5, 7, 8] rfl rfl rfl rfl rfl hl.1 rfl (Nat.le_of_ble_eq_true rfl) ⟨Nat.le_of_ble_eq_true rfl, Nat.le_of_ble_eq_true rfl⟩ dX7_tryThing_69 (fun H locs hW => ?_)
    refine lv_pop hx hb dX7_tryThing_72 rfl ?_
    refine lv_iconst (v := 1) hx hb dX7_tryThing_73 (by decide) ?_
    exact hE _ _ _ _ _ ((1 : Int32), r_6.2) (sm hf) hW rfl nz_1 dX7_tryThing_74
  have hf := it_f c_5 hf
  by_cases c_7 : v1 = (2 : Int32)
  · have hf := it_t c_7 hf
    refine lv_tableIn (tgt := 75) (off := 74) hx hb dX7_tryThing_1 (by rw [c_7]; decide) (by rw [c_7]; decide) (by rw [c_7]; rfl) (by decide) ?_
    refine lv_iload_n hx hb dX7_tryThing_75 rfl (lv_at hl 2 rfl) ?_
    refine lv_if_ne (tgt := 92) hx hb dX7_tryThing_76 (by decide) (fun c_8 => ?_) (fun c_8 => ?_)
    · have hf := it_f c_8 hf
      refine lv_iconst (v := 0) hx hb dX7_tryThing_92 (by decide) ?_
      refine lv_istore (lv' := [(4, .int (0 : Int32)), (0, .ref a_p0), (1, .int v1), (2, .int v2), (3, .int v3)]) hx hb dX7_tryThing_93 hl (by decide) rfl (fun ls hl => ?_)
      refine lv_aload_n hx hb dX7_tryThing_95 rfl (lv_at hl 1 rfl) ?_
      refine q_get hB hW 7 in_X7 0 rfl rfl 10 (by decide) fl_31 (v := .ref a_p0_now) rfl dX7_tryThing_96 ?_
      refine lv_bipush (v := 15) hx hb dX7_tryThing_99 (by decide) ?_
      refine lv_dup2_11 hx hb dX7_tryThing_101 rfl rfl ?_
      obtain ⟨r_9, hr_9, hf⟩ := bnd hf
      refine q_iald hB hW 8 rfl hr_9 dX7_tryThing_102 ?_
      refine lv_iload hx hb dX7_tryThing_103 (lv_at hl 0 rfl) ?_
      refine lv_if_eq (tgt := 114) hx hb dX7_tryThing_105 (by decide) (fun _ => ?_) (fun c9 => absurd c9 (by decide))
      refine lv_iconst (v := 0) hx hb dX7_tryThing_114 (by decide) ?_
      refine lv_ior hx hb dX7_tryThing_115 ?_
      obtain ⟨r_10, hr_10, hf⟩ := bnd hf
      refine q_iast hB hW 8 rfl hr_10 (ws' := [(a_p0, .inr (7, [.int p0_persons, .int p0_skies, .int p0_oaths, .ref a_p0_kind, .ref a_p0_skyAt, .ref a_p0_skyLoud, .ref a_p0_one, .ref a_p0_other, .ref a_p0_worth, .ref a_p0_hangs, .ref a_p0_now, .ref a_p0_readPerson, .ref a_p0_readSky, .ref a_p0_readOath, .int p0_readPersons, .int p0_readSkies, .int p0_readOaths, .ref a_p0_text, .int p0_length, .int p0_at, .int p0_faultAt, .int p0_acts, .int p0_next, .ref a_p0_row, .int p0_told, .ref a_p0_toldAt, .ref a_p0_toldWool, .ref a_p0_toldHeard, .long p0_seed, .ref a_p0_isKept, .ref a_p0_kept])), (a_p0_kind, .inl (cI, 5, .inl p0_kind)), (a_p0_skyAt, .inl (cI, 5, .inl p0_skyAt)), (a_p0_skyLoud, .inl (cI, 5, .inl p0_skyLoud)), (a_p0_one, .inl (cI, 5, .inl p0_one)), (a_p0_other, .inl (cI, 5, .inl p0_other)), (a_p0_worth, .inl (cI, 5, .inl p0_worth)), (a_p0_hangs, .inl (cI, 5, .inl p0_hangs)), (a_p0_now, .inl (cI, 18, .inl r_10))]) rfl dX7_tryThing_116 (fun H locs hW => ?_)
      refine lv_iload hx hb dX7_tryThing_117 (lv_at hl 0 rfl) ?_
      exact hE _ _ _ _ _ ((0 : Int32), r_10) (sm hf) hW rfl nz_0 dX7_tryThing_119
    · have hf := it_t c_8 hf
      refine lv_aload_n hx hb dX7_tryThing_79 rfl (lv_at hl 0 rfl) ?_
      refine lv_iconst (v := 1) hx hb dX7_tryThing_80 (by decide) ?_
      refine lv_iload_n hx hb dX7_tryThing_81 rfl (lv_at hl 3 rfl) ?_
      obtain ⟨r_11, hr_11, hf⟩ := bnd hf
      refine q_callVZ hB hW (ci := 7) (q0 := 0) rfl rfl rfl (As := [.int (1 : Int32), .int v3]) (rest := []) (ws' := [(a_p0, .inr (7, [.int p0_persons, .int p0_skies, .int p0_oaths, .ref a_p0_kind, .ref a_p0_skyAt, .ref a_p0_skyLoud, .ref a_p0_one, .ref a_p0_other, .ref a_p0_worth, .ref a_p0_hangs, .ref a_p0_now, .ref a_p0_readPerson, .ref a_p0_readSky, .ref a_p0_readOath, .int p0_readPersons, .int p0_readSkies, .int p0_readOaths, .ref a_p0_text, .int p0_length, .int p0_at, .int p0_faultAt, .int p0_acts, .int p0_next, .ref a_p0_row, .int p0_told, .ref a_p0_toldAt, .ref a_p0_toldWool, .ref a_p0_toldHeard, .long p0_seed, .ref a_p0_isKept, .ref a_p0_kept])), (a_p0_kind, .inl (cI, 5, .inl p0_kind)), (a_p0_skyAt, .inl (cI, 5, .inl p0_skyAt)), (a_p0_skyLoud, .inl (cI, 5, .inl p0_skyLoud)), (a_p0_one, .inl (cI, 5, .inl p0_one)), (a_p0_other, .inl (cI, 5, .inl p0_other)), (a_p0_worth, .inl (cI, 5, .inl p0_worth)), (a_p0_hangs, .inl (cI, 5, .inl p0_hangs)), (a_p0_now, .inl (cI, 18, .inl p0_now))]) (c_X7_canSwear l D cI cZ a_p0 a_p0_kind a_p0_skyAt a_p0_skyLoud a_p0_one a_p0_other a_p0_worth a_p0_hangs a_p0_now a_p0_readPerson a_p0_readSky a_p0_readOath a_p0_text a_p0_row a_p0_toldAt a_p0_toldWool a_p0_toldHeard a_p0_isKept a_p0_kept p0_persons p0_skies p0_oaths p0_readPersons p0_readSkies p0_readOaths p0_length p0_at p0_faultAt p0_acts p0_next p0_told p0_seed p0_hangs p0_now (1 : Int32) v3 r_11 hr_11) (cwV 2 hts gX7_tryThing_X7_canSwear rfl rfl rfl (by decide +kernel) ⟨Nat.le_of_ble_eq_true rfl, Nat.le_of_ble_eq_true rfl⟩) [0, 7, 8] rfl rfl rfl rfl rfl hl.1 rfl (Nat.le_of_ble_eq_true rfl) ⟨Nat.le_of_ble_eq_true rfl, Nat.le_of_ble_eq_true rfl⟩ dX7_tryThing_82 (fun hzr_11 H locs hW => ?_)
      refine lv_if_eq (tgt := 92) hx hb dX7_tryThing_85 (by decide) (fun c_12 => ?_) (fun c_12 => ?_)
      · have hf := it_t c_12 hf
        refine lv_iconst (v := 0) hx hb dX7_tryThing_92 (by decide) ?_
        refine lv_istore (lv' := [(4, .int (0 : Int32)), (0, .ref a_p0), (1, .int v1), (2, .int v2), (3, .int v3)]) hx hb dX7_tryThing_93 hl (by decide) rfl (fun ls hl => ?_)
        refine lv_aload_n hx hb dX7_tryThing_95 rfl (lv_at hl 1 rfl) ?_
        refine q_get hB hW 7 in_X7 0 rfl rfl 10 (by decide) fl_31 (v := .ref a_p0_now) rfl dX7_tryThing_96 ?_
        refine lv_bipush (v := 15) hx hb dX7_tryThing_99 (by decide) ?_
        refine lv_dup2_11 hx hb dX7_tryThing_101 rfl rfl ?_
        obtain ⟨r_13, hr_13, hf⟩ := bnd hf
        refine q_iald hB hW 8 rfl hr_13 dX7_tryThing_102 ?_
        refine lv_iload hx hb dX7_tryThing_103 (lv_at hl 0 rfl) ?_
        refine lv_if_eq (tgt := 114) hx hb dX7_tryThing_105 (by decide) (fun _ => ?_) (fun c9 => absurd c9 (by decide))
        refine lv_iconst (v := 0) hx hb dX7_tryThing_114 (by decide) ?_
        refine lv_ior hx hb dX7_tryThing_115 ?_
        obtain ⟨r_14, hr_14, hf⟩ := bnd hf
        refine q_iast hB hW 8 rfl hr_14 (ws' := [(a_p0, .inr (7, [.int p0_persons, .int p0_skies, .int p0_oaths, .ref a_p0_kind, .ref a_p0_skyAt, .ref a_p0_skyLoud, .ref a_p0_one, .ref a_p0_other, .ref a_p0_worth, .ref a_p0_hangs, .ref a_p0_now, .ref a_p0_readPerson, .ref a_p0_readSky, .ref a_p0_readOath, .int p0_readPersons, .int p0_readSkies, .int p0_readOaths, .ref a_p0_text, .int p0_length, .int p0_at, .int p0_faultAt, .int p0_acts, .int p0_next, .ref a_p0_row, .int p0_told, .ref a_p0_toldAt, .ref a_p0_toldWool, .ref a_p0_toldHeard, .long p0_seed, .ref a_p0_isKept, .ref a_p0_kept])), (a_p0_kind, .inl (cI, 5, .inl p0_kind)), (a_p0_skyAt, .inl (cI, 5, .inl p0_skyAt)), (a_p0_skyLoud, .inl (cI, 5, .inl p0_skyLoud)), (a_p0_one, .inl (cI, 5, .inl p0_one)), (a_p0_other, .inl (cI, 5, .inl p0_other)), (a_p0_worth, .inl (cI, 5, .inl p0_worth)), (a_p0_hangs, .inl (cI, 5, .inl p0_hangs)), (a_p0_now, .inl (cI, 18, .inl r_14))]) rfl dX7_tryThing_116 (fun H locs hW => ?_)
        refine lv_iload hx hb dX7_tryThing_117 (lv_at hl 0 rfl) ?_
        exact hE _ _ _ _ _ ((0 : Int32), r_14) (sm hf) hW rfl nz_0 dX7_tryThing_119
      · have hf := it_f c_12 hf
        refine lv_iconst (v := 1) hx hb dX7_tryThing_88 (by decide) ?_
        refine lv_goto (tgt := 93) hx hb dX7_tryThing_89 (by decide) ?_
        refine lv_istore (lv' := [(4, .int (1 : Int32)), (0, .ref a_p0), (1, .int v1), (2, .int v2), (3, .int v3)]) hx hb dX7_tryThing_93 hl (by decide) rfl (fun ls hl => ?_)
        refine lv_aload_n hx hb dX7_tryThing_95 rfl (lv_at hl 1 rfl) ?_
        refine q_get hB hW 7 in_X7 0 rfl rfl 10 (by decide) fl_31 (v := .ref a_p0_now) rfl dX7_tryThing_96 ?_
        refine lv_bipush (v := 15) hx hb dX7_tryThing_99 (by decide) ?_
        refine lv_dup2_11 hx hb dX7_tryThing_101 rfl rfl ?_
        obtain ⟨r_15, hr_15, hf⟩ := bnd hf
        refine q_iald hB hW 8 rfl hr_15 dX7_tryThing_102 ?_
        refine lv_iload hx hb dX7_tryThing_103 (lv_at hl 0 rfl) ?_
        refine lv_if_eq (tgt := 114) hx hb dX7_tryThing_105 (by decide) (fun c9 => absurd c9 (by decide)) (fun _ => ?_)
        refine lv_iconst (v := 1) hx hb dX7_tryThing_108 (by decide) ?_
        refine lv_iload_n hx hb dX7_tryThing_109 rfl (lv_at hl 4 rfl) ?_
        refine lv_ishl hx hb dX7_tryThing_110 ?_
        refine lv_goto (tgt := 115) hx hb dX7_tryThing_111 (by decide) ?_
        refine lv_ior hx hb dX7_tryThing_115 ?_
        obtain ⟨r_16, hr_16, hf⟩ := bnd hf
        refine q_iast hB hW 8 rfl hr_16 (ws' := [(a_p0, .inr (7, [.int p0_persons, .int p0_skies, .int p0_oaths, .ref a_p0_kind, .ref a_p0_skyAt, .ref a_p0_skyLoud, .ref a_p0_one, .ref a_p0_other, .ref a_p0_worth, .ref a_p0_hangs, .ref a_p0_now, .ref a_p0_readPerson, .ref a_p0_readSky, .ref a_p0_readOath, .int p0_readPersons, .int p0_readSkies, .int p0_readOaths, .ref a_p0_text, .int p0_length, .int p0_at, .int p0_faultAt, .int p0_acts, .int p0_next, .ref a_p0_row, .int p0_told, .ref a_p0_toldAt, .ref a_p0_toldWool, .ref a_p0_toldHeard, .long p0_seed, .ref a_p0_isKept, .ref a_p0_kept])), (a_p0_kind, .inl (cI, 5, .inl p0_kind)), (a_p0_skyAt, .inl (cI, 5, .inl p0_skyAt)), (a_p0_skyLoud, .inl (cI, 5, .inl p0_skyLoud)), (a_p0_one, .inl (cI, 5, .inl p0_one)), (a_p0_other, .inl (cI, 5, .inl p0_other)), (a_p0_worth, .inl (cI, 5, .inl p0_worth)), (a_p0_hangs, .inl (cI, 5, .inl p0_hangs)), (a_p0_now, .inl (cI, 18, .inl r_16))]) rfl dX7_tryThing_116 (fun H locs hW => ?_)
        refine lv_iload hx hb dX7_tryThing_117 (lv_at hl 0 rfl) ?_
        exact hE _ _ _ _ _ ((1 : Int32), r_16) (sm hf) hW rfl nz_1 dX7_tryThing_119
  have hf := it_f c_7 hf
  by_cases c_17 : v1 = (3 : Int32)
  · have hf := it_t c_17 hf
    refine lv_tableIn (tgt := 120) (off := 119) hx hb dX7_tryThing_1 (by rw [c_17]; decide) (by rw [c_17]; decide) (by rw [c_17]; rfl) (by decide) ?_
    refine lv_iload_n hx hb dX7_tryThing_120 rfl (lv_at hl 2 rfl) ?_
    refine lv_if_ne (tgt := 150) hx hb dX7_tryThing_121 (by decide) (fun c_18 => ?_) (fun c_18 => ?_)
    · have hf := it_f c_18 hf
      refine lv_iconst (v := 0) hx hb dX7_tryThing_150 (by decide) ?_
      refine lv_istore (lv' := [(5, .int (0 : Int32)), (0, .ref a_p0), (1, .int v1), (2, .int v2), (3, .int v3)]) hx hb dX7_tryThing_151 hl (by decide) rfl (fun ls hl => ?_)
      refine lv_iload hx hb dX7_tryThing_153 (lv_at hl 0 rfl) ?_
      refine lv_if_eq (tgt := 165) hx hb dX7_tryThing_155 (by decide) (fun _ => ?_) (fun c9 => absurd c9 (by decide))
      refine lv_iload hx hb dX7_tryThing_165 (lv_at hl 0 rfl) ?_
      exact hE _ _ _ _ _ ((0 : Int32), p0_now) (sm hf) hW rfl nz_0 dX7_tryThing_167
    · have hf := it_t c_18 hf
      refine lv_aload_n hx hb dX7_tryThing_124 rfl (lv_at hl 0 rfl) ?_
      refine lv_iload_n hx hb dX7_tryThing_125 rfl (lv_at hl 3 rfl) ?_
      obtain ⟨r_19, hr_19, hf⟩ := bnd hf
      refine q_callVZ hB hW (ci := 7) (q0 := 0) rfl rfl rfl (As := [.int v3]) (rest := []) (ws' := [(a_p0, .inr (7, [.int p0_persons, .int p0_skies, .int p0_oaths, .ref a_p0_kind, .ref a_p0_skyAt, .ref a_p0_skyLoud, .ref a_p0_one, .ref a_p0_other, .ref a_p0_worth, .ref a_p0_hangs, .ref a_p0_now, .ref a_p0_readPerson, .ref a_p0_readSky, .ref a_p0_readOath, .int p0_readPersons, .int p0_readSkies, .int p0_readOaths, .ref a_p0_text, .int p0_length, .int p0_at, .int p0_faultAt, .int p0_acts, .int p0_next, .ref a_p0_row, .int p0_told, .ref a_p0_toldAt, .ref a_p0_toldWool, .ref a_p0_toldHeard, .long p0_seed, .ref a_p0_isKept, .ref a_p0_kept])), (a_p0_kind, .inl (cI, 5, .inl p0_kind)), (a_p0_skyAt, .inl (cI, 5, .inl p0_skyAt)), (a_p0_skyLoud, .inl (cI, 5, .inl p0_skyLoud)), (a_p0_one, .inl (cI, 5, .inl p0_one)), (a_p0_other, .inl (cI, 5, .inl p0_other)), (a_p0_worth, .inl (cI, 5, .inl p0_worth)), (a_p0_hangs, .inl (cI, 5, .inl p0_hangs)), (a_p0_now, .inl (cI, 18, .inl p0_now))]) (c_X7_isOath l D cI cZ a_p0 a_p0_kind a_p0_skyAt a_p0_skyLoud a_p0_one a_p0_other a_p0_worth a_p0_hangs a_p0_now a_p0_readPerson a_p0_readSky a_p0_readOath a_p0_text a_p0_row a_p0_toldAt a_p0_toldWool a_p0_toldHeard a_p0_isKept a_p0_kept p0_persons p0_skies p0_oaths p0_readPersons p0_readSkies p0_readOaths p0_length p0_at p0_faultAt p0_acts p0_next p0_told p0_seed v3 r_19 hr_19) (cwV 1 hts gX7_tryThing_X7_isOath rfl rfl rfl (by decide +kernel) ⟨Nat.le_of_ble_eq_true rfl, Nat.le_of_ble_eq_true rfl⟩) [0] rfl rfl rfl rfl rfl hl.1 rfl (Nat.le_of_ble_eq_true rfl) ⟨Nat.le_of_ble_eq_true rfl, Nat.le_of_ble_eq_true rfl⟩ dX7_tryThing_126 (fun hzr_19 H locs hW => ?_)
      refine lv_if_eq (tgt := 150) hx hb dX7_tryThing_129 (by decide) (fun c_20 => ?_) (fun c_20 => ?_)
      · have hf := it_t c_20 hf
        refine lv_iconst (v := 0) hx hb dX7_tryThing_150 (by decide) ?_
        refine lv_istore (lv' := [(5, .int (0 : Int32)), (0, .ref a_p0), (1, .int v1), (2, .int v2), (3, .int v3)]) hx hb dX7_tryThing_151 hl (by decide) rfl (fun ls hl => ?_)
        refine lv_iload hx hb dX7_tryThing_153 (lv_at hl 0 rfl) ?_
        refine lv_if_eq (tgt := 165) hx hb dX7_tryThing_155 (by decide) (fun _ => ?_) (fun c9 => absurd c9 (by decide))
        refine lv_iload hx hb dX7_tryThing_165 (lv_at hl 0 rfl) ?_
        exact hE _ _ _ _ _ ((0 : Int32), p0_now) (sm hf) hW rfl nz_0 dX7_tryThing_167
      · have hf := it_f c_20 hf
        refine lv_aload_n hx hb dX7_tryThing_132 rfl (lv_at hl 0 rfl) ?_
        refine q_get hB hW 7 in_X7 0 rfl rfl 10 (by decide) fl_31 (v := .ref a_p0_now) rfl dX7_tryThing_133 ?_
        refine lv_bipush (v := 15) hx hb dX7_tryThing_136 (by decide) ?_
        obtain ⟨r_21, hr_21, hf⟩ := bnd hf
        refine q_iald hB hW 8 rfl hr_21 dX7_tryThing_138 ?_
        refine lv_iload_n hx hb dX7_tryThing_139 rfl (lv_at hl 3 rfl) ?_
        obtain ⟨r_22, hr_22, hf⟩ := bnd hf
        refine q_callSZ hB hW (As := [.int r_21, .int v3]) (rest := []) (ws' := [(a_p0, .inr (7, [.int p0_persons, .int p0_skies, .int p0_oaths, .ref a_p0_kind, .ref a_p0_skyAt, .ref a_p0_skyLoud, .ref a_p0_one, .ref a_p0_other, .ref a_p0_worth, .ref a_p0_hangs, .ref a_p0_now, .ref a_p0_readPerson, .ref a_p0_readSky, .ref a_p0_readOath, .int p0_readPersons, .int p0_readSkies, .int p0_readOaths, .ref a_p0_text, .int p0_length, .int p0_at, .int p0_faultAt, .int p0_acts, .int p0_next, .ref a_p0_row, .int p0_told, .ref a_p0_toldAt, .ref a_p0_toldWool, .ref a_p0_toldHeard, .long p0_seed, .ref a_p0_isKept, .ref a_p0_kept])), (a_p0_kind, .inl (cI, 5, .inl p0_kind)), (a_p0_skyAt, .inl (cI, 5, .inl p0_skyAt)), (a_p0_skyLoud, .inl (cI, 5, .inl p0_skyLoud)), (a_p0_one, .inl (cI, 5, .inl p0_one)), (a_p0_other, .inl (cI, 5, .inl p0_other)), (a_p0_worth, .inl (cI, 5, .inl p0_worth)), (a_p0_hangs, .inl (cI, 5, .inl p0_hangs)), (a_p0_now, .inl (cI, 18, .inl p0_now))]) (c_X7_has l D cI cZ r_21 v3 r_22 hr_22) (va_cwS 2 hts gX7_tryThing_X7_has rfl rfl rfl (by decide +kernel) ⟨Nat.le_of_ble_eq_true rfl, Nat.le_of_ble_eq_true rfl⟩) [] rfl rfl rfl rfl rfl hl.1 rfl (Nat.le_of_ble_eq_true rfl) ⟨Nat.le_of_ble_eq_true rfl, Nat.le_of_ble_eq_true rfl⟩ dX7_tryThing_140 (fun hzr_22 H locs hW => ?_)
        refine lv_if_eq (tgt := 150) hx hb dX7_tryThing_143 (by decide) (fun c_23 => ?_) (fun c_23 => ?_)
        · have hf := it_t c_23 hf
          refine lv_iconst (v := 0) hx hb dX7_tryThing_150 (by decide) ?_
          refine lv_istore (lv' := [(5, .int (0 : Int32)), (0, .ref a_p0), (1, .int v1), (2, .int v2), (3, .int v3)]) hx hb dX7_tryThing_151 hl (by decide) rfl (fun ls hl => ?_)
          refine lv_iload hx hb dX7_tryThing_153 (lv_at hl 0 rfl) ?_
          refine lv_if_eq (tgt := 165) hx hb dX7_tryThing_155 (by decide) (fun _ => ?_) (fun c9 => absurd c9 (by decide))
          refine lv_iload hx hb dX7_tryThing_165 (lv_at hl 0 rfl) ?_
          exact hE _ _ _ _ _ ((0 : Int32), p0_now) (sm hf) hW rfl nz_0 dX7_tryThing_167
        · have hf := it_f c_23 hf
          refine lv_iconst (v := 1) hx hb dX7_tryThing_146 (by decide) ?_
          refine lv_goto (tgt := 151) hx hb dX7_tryThing_147 (by decide) ?_
          refine lv_istore (lv' := [(5, .int (1 : Int32)), (0, .ref a_p0), (1, .int v1), (2, .int v2), (3, .int v3)]) hx hb dX7_tryThing_151 hl (by decide) rfl (fun ls hl => ?_)
          refine lv_iload hx hb dX7_tryThing_153 (lv_at hl 0 rfl) ?_
          refine lv_if_eq (tgt := 165) hx hb dX7_tryThing_155 (by decide) (fun c9 => absurd c9 (by decide)) (fun _ => ?_)
          refine lv_aload_n hx hb dX7_tryThing_158 rfl (lv_at hl 1 rfl) ?_
          refine lv_iconst (v := 1) hx hb dX7_tryThing_159 (by decide) ?_
          refine lv_iload_n hx hb dX7_tryThing_160 rfl (lv_at hl 4 rfl) ?_
          obtain ⟨r_24, hr_24, hf⟩ := bnd hf
          refine q_callVI hB hW (ci := 7) (q0 := 0) rfl rfl rfl (As := [.int (1 : Int32), .int v3]) (rest := []) (ws' := [(a_p0, .inr (7, [.int p0_persons, .int p0_skies, .int p0_oaths, .ref a_p0_kind, .ref a_p0_skyAt, .ref a_p0_skyLoud, .ref a_p0_one, .ref a_p0_other, .ref a_p0_worth, .ref a_p0_hangs, .ref a_p0_now, .ref a_p0_readPerson, .ref a_p0_readSky, .ref a_p0_readOath, .int p0_readPersons, .int p0_readSkies, .int p0_readOaths, .ref a_p0_text, .int p0_length, .int p0_at, .int p0_faultAt, .int p0_acts, .int p0_next, .ref a_p0_row, .int p0_told, .ref a_p0_toldAt, .ref a_p0_toldWool, .ref a_p0_toldHeard, .long p0_seed, .ref a_p0_isKept, .ref a_p0_kept])), (a_p0_kind, .inl (cI, 5, .inl p0_kind)), (a_p0_skyAt, .inl (cI, 5, .inl p0_skyAt)), (a_p0_skyLoud, .inl (cI, 5, .inl p0_skyLoud)), (a_p0_one, .inl (cI, 5, .inl p0_one)), (a_p0_other, .inl (cI, 5, .inl p0_other)), (a_p0_worth, .inl (cI, 5, .inl p0_worth)), (a_p0_hangs, .inl (cI, 5, .inl p0_hangs)), (a_p0_now, .inl (cI, 18, .inl r_24.2))]) (c_X7_formOn l D cI cZ a_p0 a_p0_kind a_p0_skyAt a_p0_skyLoud a_p0_one a_p0_other a_p0_worth a_p0_hangs a_p0_now a_p0_readPerson a_p0_readSky a_p0_readOath a_p0_text a_p0_row a_p0_toldAt a_p0_toldWool a_p0_toldHeard a_p0_isKept a_p0_kept p0_persons p0_skies p0_oaths p0_readPersons p0_readSkies p0_readOaths p0_length p0_at p0_faultAt p0_acts p0_next p0_told p0_seed p0_hangs p0_now (1 : Int32) v3 r_24 hr_24) (cwV 2 hts gX7_tryThing_X7_formOn rfl rfl rfl (by decide +kernel) ⟨Nat.le_of_ble_eq_true rfl, Nat.le_of_ble_eq_true rfl⟩) [0, 7, 8] rfl rfl rfl rfl rfl hl.1 rfl (Nat.le_of_ble_eq_true rfl) ⟨Nat.le_of_ble_eq_true rfl, Nat.le_of_ble_eq_true rfl⟩ dX7_tryThing_161 (fun H locs hW => ?_)
          refine lv_pop hx hb dX7_tryThing_164 rfl ?_
          refine lv_iload hx hb dX7_tryThing_165 (lv_at hl 0 rfl) ?_
          exact hE _ _ _ _ _ ((1 : Int32), r_24.2) (sm hf) hW rfl nz_1 dX7_tryThing_167
  have hf := it_f c_17 hf
  by_cases c_25 : v1 = (4 : Int32)
  · have hf := it_t c_25 hf
    refine lv_tableIn (tgt := 168) (off := 167) hx hb dX7_tryThing_1 (by rw [c_25]; decide) (by rw [c_25]; decide) (by rw [c_25]; rfl) (by decide) ?_
    refine lv_aload_n hx hb dX7_tryThing_168 rfl (lv_at hl 0 rfl) ?_
    refine lv_iload_n hx hb dX7_tryThing_169 rfl (lv_at hl 2 rfl) ?_
    obtain ⟨r_26, hr_26, hf⟩ := bnd hf
    refine q_callVZ hB hW (ci := 7) (q0 := 0) rfl rfl rfl (As := [.int v2]) (rest := []) (ws' := [(a_p0, .inr (7, [.int p0_persons, .int p0_skies, .int p0_oaths, .ref a_p0_kind, .ref a_p0_skyAt, .ref a_p0_skyLoud, .ref a_p0_one, .ref a_p0_other, .ref a_p0_worth, .ref a_p0_hangs, .ref a_p0_now, .ref a_p0_readPerson, .ref a_p0_readSky, .ref a_p0_readOath, .int p0_readPersons, .int p0_readSkies, .int p0_readOaths, .ref a_p0_text, .int p0_length, .int p0_at, .int p0_faultAt, .int p0_acts, .int p0_next, .ref a_p0_row, .int p0_told, .ref a_p0_toldAt, .ref a_p0_toldWool, .ref a_p0_toldHeard, .long p0_seed, .ref a_p0_isKept, .ref a_p0_kept])), (a_p0_kind, .inl (cI, 5, .inl p0_kind)), (a_p0_skyAt, .inl (cI, 5, .inl p0_skyAt)), (a_p0_skyLoud, .inl (cI, 5, .inl p0_skyLoud)), (a_p0_one, .inl (cI, 5, .inl p0_one)), (a_p0_other, .inl (cI, 5, .inl p0_other)), (a_p0_worth, .inl (cI, 5, .inl p0_worth)), (a_p0_hangs, .inl (cI, 5, .inl p0_hangs)), (a_p0_now, .inl (cI, 18, .inl p0_now))]) (c_X7_isPerson l D cI cZ a_p0 a_p0_kind a_p0_skyAt a_p0_skyLoud a_p0_one a_p0_other a_p0_worth a_p0_hangs a_p0_now a_p0_readPerson a_p0_readSky a_p0_readOath a_p0_text a_p0_row a_p0_toldAt a_p0_toldWool a_p0_toldHeard a_p0_isKept a_p0_kept p0_persons p0_skies p0_oaths p0_readPersons p0_readSkies p0_readOaths p0_length p0_at p0_faultAt p0_acts p0_next p0_told p0_seed v2 r_26 hr_26) (cwV 1 hts gX7_tryThing_X7_isPerson rfl rfl rfl (by decide +kernel) ⟨Nat.le_of_ble_eq_true rfl, Nat.le_of_ble_eq_true rfl⟩) [0] rfl rfl rfl rfl rfl hl.1 rfl (Nat.le_of_ble_eq_true rfl) ⟨Nat.le_of_ble_eq_true rfl, Nat.le_of_ble_eq_true rfl⟩ dX7_tryThing_170 (fun hzr_26 H locs hW => ?_)
    refine lv_if_eq (tgt := 200) hx hb dX7_tryThing_173 (by decide) (fun c_27 => ?_) (fun c_27 => ?_)
    · have hf := it_t c_27 hf
      refine lv_iconst (v := 0) hx hb dX7_tryThing_200 (by decide) ?_
      refine lv_istore (lv' := [(6, .int (0 : Int32)), (0, .ref a_p0), (1, .int v1), (2, .int v2), (3, .int v3)]) hx hb dX7_tryThing_201 hl (by decide) rfl (fun ls hl => ?_)
      refine lv_iload hx hb dX7_tryThing_203 (lv_at hl 0 rfl) ?_
      refine lv_if_eq (tgt := 218) hx hb dX7_tryThing_205 (by decide) (fun _ => ?_) (fun c9 => absurd c9 (by decide))
      refine lv_iload hx hb dX7_tryThing_218 (lv_at hl 0 rfl) ?_
      exact hE _ _ _ _ _ ((0 : Int32), p0_now) (sm hf) hW rfl nz_0 dX7_tryThing_220
    · have hf := it_f c_27 hf
      refine lv_iload_n hx hb dX7_tryThing_176 rfl (lv_at hl 3 rfl) ?_
      obtain ⟨r_28, hr_28, hf⟩ := bnd hf
      refine q_callSZ hB hW (As := [.int v3]) (rest := []) (ws' := [(a_p0, .inr (7, [.int p0_persons, .int p0_skies, .int p0_oaths, .ref a_p0_kind, .ref a_p0_skyAt, .ref a_p0_skyLoud, .ref a_p0_one, .ref a_p0_other, .ref a_p0_worth, .ref a_p0_hangs, .ref a_p0_now, .ref a_p0_readPerson, .ref a_p0_readSky, .ref a_p0_readOath, .int p0_readPersons, .int p0_readSkies, .int p0_readOaths, .ref a_p0_text, .int p0_length, .int p0_at, .int p0_faultAt, .int p0_acts, .int p0_next, .ref a_p0_row, .int p0_told, .ref a_p0_toldAt, .ref a_p0_toldWool, .ref a_p0_toldHeard, .long p0_seed, .ref a_p0_isKept, .ref a_p0_kept])), (a_p0_kind, .inl (cI, 5, .inl p0_kind)), (a_p0_skyAt, .inl (cI, 5, .inl p0_skyAt)), (a_p0_skyLoud, .inl (cI, 5, .inl p0_skyLoud)), (a_p0_one, .inl (cI, 5, .inl p0_one)), (a_p0_other, .inl (cI, 5, .inl p0_other)), (a_p0_worth, .inl (cI, 5, .inl p0_worth)), (a_p0_hangs, .inl (cI, 5, .inl p0_hangs)), (a_p0_now, .inl (cI, 18, .inl p0_now))]) (c_X7_isPlace l D cI cZ v3 r_28 hr_28) (va_cwS 1 hts gX7_tryThing_X7_isPlace rfl rfl rfl (by decide +kernel) ⟨Nat.le_of_ble_eq_true rfl, Nat.le_of_ble_eq_true rfl⟩) [] rfl rfl rfl rfl rfl hl.1 rfl (Nat.le_of_ble_eq_true rfl) ⟨Nat.le_of_ble_eq_true rfl, Nat.le_of_ble_eq_true rfl⟩ dX7_tryThing_177 (fun hzr_28 H locs hW => ?_)
      refine lv_if_eq (tgt := 200) hx hb dX7_tryThing_180 (by decide) (fun c_29 => ?_) (fun c_29 => ?_)
      · have hf := it_t c_29 hf
        refine lv_iconst (v := 0) hx hb dX7_tryThing_200 (by decide) ?_
        refine lv_istore (lv' := [(6, .int (0 : Int32)), (0, .ref a_p0), (1, .int v1), (2, .int v2), (3, .int v3)]) hx hb dX7_tryThing_201 hl (by decide) rfl (fun ls hl => ?_)
        refine lv_iload hx hb dX7_tryThing_203 (lv_at hl 0 rfl) ?_
        refine lv_if_eq (tgt := 218) hx hb dX7_tryThing_205 (by decide) (fun _ => ?_) (fun c9 => absurd c9 (by decide))
        refine lv_iload hx hb dX7_tryThing_218 (lv_at hl 0 rfl) ?_
        exact hE _ _ _ _ _ ((0 : Int32), p0_now) (sm hf) hW rfl nz_0 dX7_tryThing_220
      · have hf := it_f c_29 hf
        refine lv_aload_n hx hb dX7_tryThing_183 rfl (lv_at hl 0 rfl) ?_
        refine q_get hB hW 7 in_X7 0 rfl rfl 10 (by decide) fl_31 (v := .ref a_p0_now) rfl dX7_tryThing_184 ?_
        refine lv_bipush (v := 9) hx hb dX7_tryThing_187 (by decide) ?_
        refine lv_iload_n hx hb dX7_tryThing_189 rfl (lv_at hl 2 rfl) ?_
        refine lv_iadd hx hb dX7_tryThing_190 ?_
        obtain ⟨r_30, hr_30, hf⟩ := bnd hf
        refine q_iald hB hW 8 rfl hr_30 dX7_tryThing_191 ?_
        refine lv_iload_n hx hb dX7_tryThing_192 rfl (lv_at hl 3 rfl) ?_
        refine lv_icmp_eq (tgt := 200) hx hb dX7_tryThing_193 (by decide) (fun c_31 => ?_) (fun c_31 => ?_)
        · have hf := it_t c_31 hf
          refine lv_iconst (v := 0) hx hb dX7_tryThing_200 (by decide) ?_
          refine lv_istore (lv' := [(6, .int (0 : Int32)), (0, .ref a_p0), (1, .int v1), (2, .int v2), (3, .int v3)]) hx hb dX7_tryThing_201 hl (by decide) rfl (fun ls hl => ?_)
          refine lv_iload hx hb dX7_tryThing_203 (lv_at hl 0 rfl) ?_
          refine lv_if_eq (tgt := 218) hx hb dX7_tryThing_205 (by decide) (fun _ => ?_) (fun c9 => absurd c9 (by decide))
          refine lv_iload hx hb dX7_tryThing_218 (lv_at hl 0 rfl) ?_
          exact hE _ _ _ _ _ ((0 : Int32), p0_now) (sm hf) hW rfl nz_0 dX7_tryThing_220
        · have hf := it_f c_31 hf
          refine lv_iconst (v := 1) hx hb dX7_tryThing_196 (by decide) ?_
          refine lv_goto (tgt := 201) hx hb dX7_tryThing_197 (by decide) ?_
          refine lv_istore (lv' := [(6, .int (1 : Int32)), (0, .ref a_p0), (1, .int v1), (2, .int v2), (3, .int v3)]) hx hb dX7_tryThing_201 hl (by decide) rfl (fun ls hl => ?_)
          refine lv_iload hx hb dX7_tryThing_203 (lv_at hl 0 rfl) ?_
          refine lv_if_eq (tgt := 218) hx hb dX7_tryThing_205 (by decide) (fun c9 => absurd c9 (by decide)) (fun _ => ?_)
          refine lv_aload_n hx hb dX7_tryThing_208 rfl (lv_at hl 1 rfl) ?_
          refine q_get hB hW 7 in_X7 0 rfl rfl 10 (by decide) fl_31 (v := .ref a_p0_now) rfl dX7_tryThing_209 ?_
          refine lv_bipush (v := 9) hx hb dX7_tryThing_212 (by decide) ?_
          refine lv_iload_n hx hb dX7_tryThing_214 rfl (lv_at hl 3 rfl) ?_
          refine lv_iadd hx hb dX7_tryThing_215 ?_
          refine lv_iload_n hx hb dX7_tryThing_216 rfl (lv_at hl 4 rfl) ?_
          obtain ⟨r_32, hr_32, hf⟩ := bnd hf
          refine q_iast hB hW 8 rfl hr_32 (ws' := [(a_p0, .inr (7, [.int p0_persons, .int p0_skies, .int p0_oaths, .ref a_p0_kind, .ref a_p0_skyAt, .ref a_p0_skyLoud, .ref a_p0_one, .ref a_p0_other, .ref a_p0_worth, .ref a_p0_hangs, .ref a_p0_now, .ref a_p0_readPerson, .ref a_p0_readSky, .ref a_p0_readOath, .int p0_readPersons, .int p0_readSkies, .int p0_readOaths, .ref a_p0_text, .int p0_length, .int p0_at, .int p0_faultAt, .int p0_acts, .int p0_next, .ref a_p0_row, .int p0_told, .ref a_p0_toldAt, .ref a_p0_toldWool, .ref a_p0_toldHeard, .long p0_seed, .ref a_p0_isKept, .ref a_p0_kept])), (a_p0_kind, .inl (cI, 5, .inl p0_kind)), (a_p0_skyAt, .inl (cI, 5, .inl p0_skyAt)), (a_p0_skyLoud, .inl (cI, 5, .inl p0_skyLoud)), (a_p0_one, .inl (cI, 5, .inl p0_one)), (a_p0_other, .inl (cI, 5, .inl p0_other)), (a_p0_worth, .inl (cI, 5, .inl p0_worth)), (a_p0_hangs, .inl (cI, 5, .inl p0_hangs)), (a_p0_now, .inl (cI, 18, .inl r_32))]) rfl dX7_tryThing_217 (fun H locs hW => ?_)
          refine lv_iload hx hb dX7_tryThing_218 (lv_at hl 0 rfl) ?_
          exact hE _ _ _ _ _ ((1 : Int32), r_32) (sm hf) hW rfl nz_1 dX7_tryThing_220
  have hf := it_f c_25 hf
  by_cases c_33 : v1 = (5 : Int32)
  · have hf := it_t c_33 hf
    refine lv_tableIn (tgt := 221) (off := 220) hx hb dX7_tryThing_1 (by rw [c_33]; decide) (by rw [c_33]; decide) (by rw [c_33]; rfl) (by decide) ?_
    refine lv_iload_n hx hb dX7_tryThing_221 rfl (lv_at hl 2 rfl) ?_
    refine lv_if_ne (tgt := 237) hx hb dX7_tryThing_222 (by decide) (fun c_34 => ?_) (fun c_34 => ?_)
    · have hf := it_f c_34 hf
      refine lv_iconst (v := 0) hx hb dX7_tryThing_237 (by decide) ?_
      refine lv_istore (lv' := [(7, .int (0 : Int32)), (0, .ref a_p0), (1, .int v1), (2, .int v2), (3, .int v3)]) hx hb dX7_tryThing_238 hl (by decide) rfl (fun ls hl => ?_)
      refine lv_aload_n hx hb dX7_tryThing_240 rfl (lv_at hl 1 rfl) ?_
      refine q_get hB hW 7 in_X7 0 rfl rfl 10 (by decide) fl_31 (v := .ref a_p0_now) rfl dX7_tryThing_241 ?_
      refine lv_bipush (v := 14) hx hb dX7_tryThing_244 (by decide) ?_
      refine lv_dup2_11 hx hb dX7_tryThing_246 rfl rfl ?_
      obtain ⟨r_35, hr_35, hf⟩ := bnd hf
      refine q_iald hB hW 8 rfl hr_35 dX7_tryThing_247 ?_
      refine lv_iload hx hb dX7_tryThing_248 (lv_at hl 0 rfl) ?_
      refine lv_if_eq (tgt := 259) hx hb dX7_tryThing_250 (by decide) (fun _ => ?_) (fun c9 => absurd c9 (by decide))
      refine lv_iconst (v := 0) hx hb dX7_tryThing_259 (by decide) ?_
      refine lv_ixor hx hb dX7_tryThing_260 ?_
      obtain ⟨r_36, hr_36, hf⟩ := bnd hf
      refine q_iast hB hW 8 rfl hr_36 (ws' := [(a_p0, .inr (7, [.int p0_persons, .int p0_skies, .int p0_oaths, .ref a_p0_kind, .ref a_p0_skyAt, .ref a_p0_skyLoud, .ref a_p0_one, .ref a_p0_other, .ref a_p0_worth, .ref a_p0_hangs, .ref a_p0_now, .ref a_p0_readPerson, .ref a_p0_readSky, .ref a_p0_readOath, .int p0_readPersons, .int p0_readSkies, .int p0_readOaths, .ref a_p0_text, .int p0_length, .int p0_at, .int p0_faultAt, .int p0_acts, .int p0_next, .ref a_p0_row, .int p0_told, .ref a_p0_toldAt, .ref a_p0_toldWool, .ref a_p0_toldHeard, .long p0_seed, .ref a_p0_isKept, .ref a_p0_kept])), (a_p0_kind, .inl (cI, 5, .inl p0_kind)), (a_p0_skyAt, .inl (cI, 5, .inl p0_skyAt)), (a_p0_skyLoud, .inl (cI, 5, .inl p0_skyLoud)), (a_p0_one, .inl (cI, 5, .inl p0_one)), (a_p0_other, .inl (cI, 5, .inl p0_other)), (a_p0_worth, .inl (cI, 5, .inl p0_worth)), (a_p0_hangs, .inl (cI, 5, .inl p0_hangs)), (a_p0_now, .inl (cI, 18, .inl r_36))]) rfl dX7_tryThing_261 (fun H locs hW => ?_)
      refine lv_iload hx hb dX7_tryThing_262 (lv_at hl 0 rfl) ?_
      exact hE _ _ _ _ _ ((0 : Int32), r_36) (sm hf) hW rfl nz_0 dX7_tryThing_264
    · have hf := it_t c_34 hf
      refine lv_aload_n hx hb dX7_tryThing_225 rfl (lv_at hl 0 rfl) ?_
      refine lv_iload_n hx hb dX7_tryThing_226 rfl (lv_at hl 3 rfl) ?_
      obtain ⟨r_37, hr_37, hf⟩ := bnd hf
      refine q_callVZ hB hW (ci := 7) (q0 := 0) rfl rfl rfl (As := [.int v3]) (rest := []) (ws' := [(a_p0, .inr (7, [.int p0_persons, .int p0_skies, .int p0_oaths, .ref a_p0_kind, .ref a_p0_skyAt, .ref a_p0_skyLoud, .ref a_p0_one, .ref a_p0_other, .ref a_p0_worth, .ref a_p0_hangs, .ref a_p0_now, .ref a_p0_readPerson, .ref a_p0_readSky, .ref a_p0_readOath, .int p0_readPersons, .int p0_readSkies, .int p0_readOaths, .ref a_p0_text, .int p0_length, .int p0_at, .int p0_faultAt, .int p0_acts, .int p0_next, .ref a_p0_row, .int p0_told, .ref a_p0_toldAt, .ref a_p0_toldWool, .ref a_p0_toldHeard, .long p0_seed, .ref a_p0_isKept, .ref a_p0_kept])), (a_p0_kind, .inl (cI, 5, .inl p0_kind)), (a_p0_skyAt, .inl (cI, 5, .inl p0_skyAt)), (a_p0_skyLoud, .inl (cI, 5, .inl p0_skyLoud)), (a_p0_one, .inl (cI, 5, .inl p0_one)), (a_p0_other, .inl (cI, 5, .inl p0_other)), (a_p0_worth, .inl (cI, 5, .inl p0_worth)), (a_p0_hangs, .inl (cI, 5, .inl p0_hangs)), (a_p0_now, .inl (cI, 18, .inl p0_now))]) (c_X7_canWool l D cI cZ a_p0 a_p0_kind a_p0_skyAt a_p0_skyLoud a_p0_one a_p0_other a_p0_worth a_p0_hangs a_p0_now a_p0_readPerson a_p0_readSky a_p0_readOath a_p0_text a_p0_row a_p0_toldAt a_p0_toldWool a_p0_toldHeard a_p0_isKept a_p0_kept p0_persons p0_skies p0_oaths p0_readPersons p0_readSkies p0_readOaths p0_length p0_at p0_faultAt p0_acts p0_next p0_told p0_seed p0_kind v3 r_37 hr_37) (cwV 1 hts gX7_tryThing_X7_canWool rfl rfl rfl (by decide +kernel) ⟨Nat.le_of_ble_eq_true rfl, Nat.le_of_ble_eq_true rfl⟩) [0, 1] rfl rfl rfl rfl rfl hl.1 rfl (Nat.le_of_ble_eq_true rfl) ⟨Nat.le_of_ble_eq_true rfl, Nat.le_of_ble_eq_true rfl⟩ dX7_tryThing_227 (fun hzr_37 H locs hW => ?_)
      refine lv_if_eq (tgt := 237) hx hb dX7_tryThing_230 (by decide) (fun c_38 => ?_) (fun c_38 => ?_)
      · have hf := it_t c_38 hf
        refine lv_iconst (v := 0) hx hb dX7_tryThing_237 (by decide) ?_
        refine lv_istore (lv' := [(7, .int (0 : Int32)), (0, .ref a_p0), (1, .int v1), (2, .int v2), (3, .int v3)]) hx hb dX7_tryThing_238 hl (by decide) rfl (fun ls hl => ?_)
        refine lv_aload_n hx hb dX7_tryThing_240 rfl (lv_at hl 1 rfl) ?_
        refine q_get hB hW 7 in_X7 0 rfl rfl 10 (by decide) fl_31 (v := .ref a_p0_now) rfl dX7_tryThing_241 ?_
        refine lv_bipush (v := 14) hx hb dX7_tryThing_244 (by decide) ?_
        refine lv_dup2_11 hx hb dX7_tryThing_246 rfl rfl ?_
        obtain ⟨r_39, hr_39, hf⟩ := bnd hf
        refine q_iald hB hW 8 rfl hr_39 dX7_tryThing_247 ?_
        refine lv_iload hx hb dX7_tryThing_248 (lv_at hl 0 rfl) ?_
        refine lv_if_eq (tgt := 259) hx hb dX7_tryThing_250 (by decide) (fun _ => ?_) (fun c9 => absurd c9 (by decide))
        refine lv_iconst (v := 0) hx hb dX7_tryThing_259 (by decide) ?_
        refine lv_ixor hx hb dX7_tryThing_260 ?_
        obtain ⟨r_40, hr_40, hf⟩ := bnd hf
        refine q_iast hB hW 8 rfl hr_40 (ws' := [(a_p0, .inr (7, [.int p0_persons, .int p0_skies, .int p0_oaths, .ref a_p0_kind, .ref a_p0_skyAt, .ref a_p0_skyLoud, .ref a_p0_one, .ref a_p0_other, .ref a_p0_worth, .ref a_p0_hangs, .ref a_p0_now, .ref a_p0_readPerson, .ref a_p0_readSky, .ref a_p0_readOath, .int p0_readPersons, .int p0_readSkies, .int p0_readOaths, .ref a_p0_text, .int p0_length, .int p0_at, .int p0_faultAt, .int p0_acts, .int p0_next, .ref a_p0_row, .int p0_told, .ref a_p0_toldAt, .ref a_p0_toldWool, .ref a_p0_toldHeard, .long p0_seed, .ref a_p0_isKept, .ref a_p0_kept])), (a_p0_kind, .inl (cI, 5, .inl p0_kind)), (a_p0_skyAt, .inl (cI, 5, .inl p0_skyAt)), (a_p0_skyLoud, .inl (cI, 5, .inl p0_skyLoud)), (a_p0_one, .inl (cI, 5, .inl p0_one)), (a_p0_other, .inl (cI, 5, .inl p0_other)), (a_p0_worth, .inl (cI, 5, .inl p0_worth)), (a_p0_hangs, .inl (cI, 5, .inl p0_hangs)), (a_p0_now, .inl (cI, 18, .inl r_40))]) rfl dX7_tryThing_261 (fun H locs hW => ?_)
        refine lv_iload hx hb dX7_tryThing_262 (lv_at hl 0 rfl) ?_
        exact hE _ _ _ _ _ ((0 : Int32), r_40) (sm hf) hW rfl nz_0 dX7_tryThing_264
      · have hf := it_f c_38 hf
        refine lv_iconst (v := 1) hx hb dX7_tryThing_233 (by decide) ?_
        refine lv_goto (tgt := 238) hx hb dX7_tryThing_234 (by decide) ?_
        refine lv_istore (lv' := [(7, .int (1 : Int32)), (0, .ref a_p0), (1, .int v1), (2, .int v2), (3, .int v3)]) hx hb dX7_tryThing_238 hl (by decide) rfl (fun ls hl => ?_)
        refine lv_aload_n hx hb dX7_tryThing_240 rfl (lv_at hl 1 rfl) ?_
        refine q_get hB hW 7 in_X7 0 rfl rfl 10 (by decide) fl_31 (v := .ref a_p0_now) rfl dX7_tryThing_241 ?_
        refine lv_bipush (v := 14) hx hb dX7_tryThing_244 (by decide) ?_
        refine lv_dup2_11 hx hb dX7_tryThing_246 rfl rfl ?_
        obtain ⟨r_41, hr_41, hf⟩ := bnd hf
        refine q_iald hB hW 8 rfl hr_41 dX7_tryThing_247 ?_
        refine lv_iload hx hb dX7_tryThing_248 (lv_at hl 0 rfl) ?_
        refine lv_if_eq (tgt := 259) hx hb dX7_tryThing_250 (by decide) (fun c9 => absurd c9 (by decide)) (fun _ => ?_)
        refine lv_iconst (v := 1) hx hb dX7_tryThing_253 (by decide) ?_
        refine lv_iload_n hx hb dX7_tryThing_254 rfl (lv_at hl 4 rfl) ?_
        refine lv_ishl hx hb dX7_tryThing_255 ?_
        refine lv_goto (tgt := 260) hx hb dX7_tryThing_256 (by decide) ?_
        refine lv_ixor hx hb dX7_tryThing_260 ?_
        obtain ⟨r_42, hr_42, hf⟩ := bnd hf
        refine q_iast hB hW 8 rfl hr_42 (ws' := [(a_p0, .inr (7, [.int p0_persons, .int p0_skies, .int p0_oaths, .ref a_p0_kind, .ref a_p0_skyAt, .ref a_p0_skyLoud, .ref a_p0_one, .ref a_p0_other, .ref a_p0_worth, .ref a_p0_hangs, .ref a_p0_now, .ref a_p0_readPerson, .ref a_p0_readSky, .ref a_p0_readOath, .int p0_readPersons, .int p0_readSkies, .int p0_readOaths, .ref a_p0_text, .int p0_length, .int p0_at, .int p0_faultAt, .int p0_acts, .int p0_next, .ref a_p0_row, .int p0_told, .ref a_p0_toldAt, .ref a_p0_toldWool, .ref a_p0_toldHeard, .long p0_seed, .ref a_p0_isKept, .ref a_p0_kept])), (a_p0_kind, .inl (cI, 5, .inl p0_kind)), (a_p0_skyAt, .inl (cI, 5, .inl p0_skyAt)), (a_p0_skyLoud, .inl (cI, 5, .inl p0_skyLoud)), (a_p0_one, .inl (cI, 5, .inl p0_one)), (a_p0_other, .inl (cI, 5, .inl p0_other)), (a_p0_worth, .inl (cI, 5, .inl p0_worth)), (a_p0_hangs, .inl (cI, 5, .inl p0_hangs)), (a_p0_now, .inl (cI, 18, .inl r_42))]) rfl dX7_tryThing_261 (fun H locs hW => ?_)
        refine lv_iload hx hb dX7_tryThing_262 (lv_at hl 0 rfl) ?_
        exact hE _ _ _ _ _ ((1 : Int32), r_42) (sm hf) hW rfl nz_1 dX7_tryThing_264
  have hf := it_f c_33 hf
  by_cases c_43 : v1 = (6 : Int32)
  · have hf := it_t c_43 hf
    refine lv_tableIn (tgt := 265) (off := 264) hx hb dX7_tryThing_1 (by rw [c_43]; decide) (by rw [c_43]; decide) (by rw [c_43]; rfl) (by decide) ?_
    refine lv_iload_n hx hb dX7_tryThing_265 rfl (lv_at hl 2 rfl) ?_
    refine lv_if_ne (tgt := 295) hx hb dX7_tryThing_266 (by decide) (fun c_44 => ?_) (fun c_44 => ?_)
    · have hf := it_f c_44 hf
      refine lv_iconst (v := 0) hx hb dX7_tryThing_295 (by decide) ?_
      exact hE _ _ _ _ _ ((0 : Int32), p0_now) (sm hf) hW rfl nz_0 dX7_tryThing_296
    · have hf := it_t c_44 hf
      refine lv_aload_n hx hb dX7_tryThing_269 rfl (lv_at hl 0 rfl) ?_
      refine lv_iload_n hx hb dX7_tryThing_270 rfl (lv_at hl 3 rfl) ?_
      obtain ⟨r_45, hr_45, hf⟩ := bnd hf
      refine q_callVZ hB hW (ci := 7) (q0 := 0) rfl rfl rfl (As := [.int v3]) (rest := []) (ws' := [(a_p0, .inr (7, [.int p0_persons, .int p0_skies, .int p0_oaths, .ref a_p0_kind, .ref a_p0_skyAt, .ref a_p0_skyLoud, .ref a_p0_one, .ref a_p0_other, .ref a_p0_worth, .ref a_p0_hangs, .ref a_p0_now, .ref a_p0_readPerson, .ref a_p0_readSky, .ref a_p0_readOath, .int p0_readPersons, .int p0_readSkies, .int p0_readOaths, .ref a_p0_text, .int p0_length, .int p0_at, .int p0_faultAt, .int p0_acts, .int p0_next, .ref a_p0_row, .int p0_told, .ref a_p0_toldAt, .ref a_p0_toldWool, .ref a_p0_toldHeard, .long p0_seed, .ref a_p0_isKept, .ref a_p0_kept])), (a_p0_kind, .inl (cI, 5, .inl p0_kind)), (a_p0_skyAt, .inl (cI, 5, .inl p0_skyAt)), (a_p0_skyLoud, .inl (cI, 5, .inl p0_skyLoud)), (a_p0_one, .inl (cI, 5, .inl p0_one)), (a_p0_other, .inl (cI, 5, .inl p0_other)), (a_p0_worth, .inl (cI, 5, .inl p0_worth)), (a_p0_hangs, .inl (cI, 5, .inl p0_hangs)), (a_p0_now, .inl (cI, 18, .inl p0_now))]) (c_X7_isOath l D cI cZ a_p0 a_p0_kind a_p0_skyAt a_p0_skyLoud a_p0_one a_p0_other a_p0_worth a_p0_hangs a_p0_now a_p0_readPerson a_p0_readSky a_p0_readOath a_p0_text a_p0_row a_p0_toldAt a_p0_toldWool a_p0_toldHeard a_p0_isKept a_p0_kept p0_persons p0_skies p0_oaths p0_readPersons p0_readSkies p0_readOaths p0_length p0_at p0_faultAt p0_acts p0_next p0_told p0_seed v3 r_45 hr_45) (cwV 1 hts gX7_tryThing_X7_isOath rfl rfl rfl (by decide +kernel) ⟨Nat.le_of_ble_eq_true rfl, Nat.le_of_ble_eq_true rfl⟩) [0] rfl rfl rfl rfl rfl hl.1 rfl (Nat.le_of_ble_eq_true rfl) ⟨Nat.le_of_ble_eq_true rfl, Nat.le_of_ble_eq_true rfl⟩ dX7_tryThing_271 (fun hzr_45 H locs hW => ?_)
      refine lv_if_eq (tgt := 295) hx hb dX7_tryThing_274 (by decide) (fun c_46 => ?_) (fun c_46 => ?_)
      · have hf := it_t c_46 hf
        refine lv_iconst (v := 0) hx hb dX7_tryThing_295 (by decide) ?_
        exact hE _ _ _ _ _ ((0 : Int32), p0_now) (sm hf) hW rfl nz_0 dX7_tryThing_296
      · have hf := it_f c_46 hf
        refine lv_aload_n hx hb dX7_tryThing_277 rfl (lv_at hl 0 rfl) ?_
        refine q_get hB hW 7 in_X7 0 rfl rfl 10 (by decide) fl_31 (v := .ref a_p0_now) rfl dX7_tryThing_278 ?_
        refine lv_bipush (v := 15) hx hb dX7_tryThing_281 (by decide) ?_
        obtain ⟨r_47, hr_47, hf⟩ := bnd hf
        refine q_iald hB hW 8 rfl hr_47 dX7_tryThing_283 ?_
        refine lv_iload_n hx hb dX7_tryThing_284 rfl (lv_at hl 3 rfl) ?_
        obtain ⟨r_48, hr_48, hf⟩ := bnd hf
        refine q_callSZ hB hW (As := [.int r_47, .int v3]) (rest := []) (ws' := [(a_p0, .inr (7, [.int p0_persons, .int p0_skies, .int p0_oaths, .ref a_p0_kind, .ref a_p0_skyAt, .ref a_p0_skyLoud, .ref a_p0_one, .ref a_p0_other, .ref a_p0_worth, .ref a_p0_hangs, .ref a_p0_now, .ref a_p0_readPerson, .ref a_p0_readSky, .ref a_p0_readOath, .int p0_readPersons, .int p0_readSkies, .int p0_readOaths, .ref a_p0_text, .int p0_length, .int p0_at, .int p0_faultAt, .int p0_acts, .int p0_next, .ref a_p0_row, .int p0_told, .ref a_p0_toldAt, .ref a_p0_toldWool, .ref a_p0_toldHeard, .long p0_seed, .ref a_p0_isKept, .ref a_p0_kept])), (a_p0_kind, .inl (cI, 5, .inl p0_kind)), (a_p0_skyAt, .inl (cI, 5, .inl p0_skyAt)), (a_p0_skyLoud, .inl (cI, 5, .inl p0_skyLoud)), (a_p0_one, .inl (cI, 5, .inl p0_one)), (a_p0_other, .inl (cI, 5, .inl p0_other)), (a_p0_worth, .inl (cI, 5, .inl p0_worth)), (a_p0_hangs, .inl (cI, 5, .inl p0_hangs)), (a_p0_now, .inl (cI, 18, .inl p0_now))]) (c_X7_has l D cI cZ r_47 v3 r_48 hr_48) (va_cwS 2 hts gX7_tryThing_X7_has rfl rfl rfl (by decide +kernel) ⟨Nat.le_of_ble_eq_true rfl, Nat.le_of_ble_eq_true rfl⟩) [] rfl rfl rfl rfl rfl hl.1 rfl (Nat.le_of_ble_eq_true rfl) ⟨Nat.le_of_ble_eq_true rfl, Nat.le_of_ble_eq_true rfl⟩ dX7_tryThing_285 (fun hzr_48 H locs hW => ?_)
        refine lv_if_eq (tgt := 295) hx hb dX7_tryThing_288 (by decide) (fun c_49 => ?_) (fun c_49 => ?_)
        · have hf := it_t c_49 hf
          refine lv_iconst (v := 0) hx hb dX7_tryThing_295 (by decide) ?_
          exact hE _ _ _ _ _ ((0 : Int32), p0_now) (sm hf) hW rfl nz_0 dX7_tryThing_296
        · have hf := it_f c_49 hf
          refine lv_iconst (v := 1) hx hb dX7_tryThing_291 (by decide) ?_
          refine lv_goto (tgt := 296) hx hb dX7_tryThing_292 (by decide) ?_
          exact hE _ _ _ _ _ ((1 : Int32), p0_now) (sm hf) hW rfl nz_1 dX7_tryThing_296
  have hf := it_f c_43 hf
  refine lv_tableOut (tgt := 297) hx hb dX7_tryThing_1 (sw_out 6 (by decide) (fun j hj => match j, hj with | 0, _ => c_1 | 1, _ => c_5 | 2, _ => c_7 | 3, _ => c_17 | 4, _ => c_25 | 5, _ => c_33 | 6, _ => c_43 | _ + 7, hj => absurd hj (by omega))) (by decide) ?_
  refine lv_iconst (v := 0) hx hb dX7_tryThing_297 (by decide) ?_
  exact hE _ _ _ _ _ ((0 : Int32), p0_now) (sm hf) hW rfl nz_0 dX7_tryThing_298
def b_X7_thousandTo_4 (v0 : Int32) (v1 : Int64) (v3 : Int32) : Option ((Int64 × Int32) ⊕ (Int64)) := if v0 ≤ v3 then some (.inr v1) else (some (v1 * (1000 : Int64))).bind fun w_506 => some (.inl (w_506, (v3 + (1 : Int32))))
def f_X7_thousandTo (v0 : Int32) : Option (Int64) := (itr (fun s => b_X7_thousandTo_4 v0 s.1 s.2) FU ((1 : Int64), (0 : Int32))).bind fun x_4 => some x_4
set_option maxHeartbeats 4000000 in
set_option maxRecDepth 100000 in
theorem c_X7_thousandTo (l : Launch) (D : va_G) (cI cZ : ClassId) (v0 : Int32) (q : Int64) (hf : f_X7_thousandTo v0 = some q) : CtL l D cI cZ yX7_thousandTo wsX7_thousandTo 0 0 [.int v0] [] (fun q => []) (fun q => q) q := by
  refine CtL.of (cc := cX7_thousandTo) (maxL := 4) (plainFor_of_name (by decide)) rfl (Nat.le_of_ble_eq_true rfl) ?_
  intro p e s m args below meth c A Q H ls hB hE hW hl
  have hx := hB.1
  have hb := hB.2.1
  have hml := hB.2.2.2.1
  have hown : s.vm.findClass RX7 = some m.cls := hB.2.2.2.2.1
  have hts := hB.2.2.2.2.2.1
  have hK := hB.2.2.2.2.2.2.2.1.1
  have hl : lv_has ls 4 [(0, .int v0)] := hl
  unfold f_X7_thousandTo at hf
  refine lv_lconst (v := 1) hx hb dX7_thousandTo_0 (by decide) ?_
  refine lv_lstore_n (lv' := [(1, .long (1 : Int64)), (0, .int v0)]) hx hb dX7_thousandTo_1 rfl hl (by decide) rfl (fun ls hl => ?_)
  refine lv_iconst (v := 0) hx hb dX7_thousandTo_2 (by decide) ?_
  refine lv_istore_n (lv' := [(3, .int (0 : Int32)), (1, .long (1 : Int64)), (0, .int v0)]) hx hb dX7_thousandTo_3 rfl hl (by decide) rfl (fun ls hl => ?_)
  obtain ⟨e_4, hl_4, hk_4⟩ := bnd hf
  have K_4 : ∀ x_4 : Int64, x_4 = e_4 → ∀ (H : Heap) (locs : List Loc) (ls : Array Slot), Wl D A s.heap [] H locs → lv_has ls 4 [(1, .long x_4)] → W p l e (Rm 0 0) s m args below meth c H locs 0 0 Q (F0 m 21 ls []) := by
    intro x_4 hx_4 H locs ls hW hl
    have hf := hk_4
    rw [← hx_4] at hf
    refine lv_lload_n hx hb dX7_thousandTo_21 rfl (lv_at hl 0 rfl) ?_
    exact hE _ _ _ _ _ x_4 (sm hf) hW rfl dX7_thousandTo_22
  have L_4 : ∀ (n : Nat) (y4_1 : Int64) (y4_3 : Int32) (H : Heap) (locs : List Loc) (ls : Array Slot), itr (fun s => b_X7_thousandTo_4 v0 s.1 s.2) n (y4_1, y4_3) = some e_4 → Wl D A s.heap [] H locs → lv_has ls 4 [(0, .int v0), (1, .long y4_1), (3, .int y4_3)] → W p l e (Rm 0 0) s m args below meth c H locs 0 0 Q (F0 m 4 ls []) := by
    intro n
    induction n with
    | zero => intro y4_1 y4_3 H locs ls h9; exact itr_0 h9
    | succ n ih =>
      intro y4_1 y4_3 H locs ls hf hW hl
      obtain ⟨o_4, hf, ho_4⟩ := itr_inv hf
      have hf : b_X7_thousandTo_4 v0 y4_1 y4_3 = some o_4 := hf
      unfold b_X7_thousandTo_4 at hf
      refine lv_iload_n hx hb dX7_thousandTo_4 rfl (lv_at hl 2 rfl) ?_
      refine lv_iload_n hx hb dX7_thousandTo_5 rfl (lv_at hl 0 rfl) ?_
      refine lv_icmp_ge (tgt := 21) hx hb dX7_thousandTo_6 (by decide) (fun c_1 => ?_) (fun c_1 => ?_)
      · have hf := it_t c_1 hf
        have h9 := o_inr hf ho_4
        exact K_4 y4_1 h9 _ _ _ hW (lv_sub hl [1] rfl)
      · have hf := it_f c_1 hf
        refine lv_lload_n hx hb dX7_thousandTo_9 rfl (lv_at hl 1 rfl) ?_
        refine lv_ldc2 (v := 1000) hx hb hown (hts (.constantLong RX7 196 (1000)) (by decide +kernel)) dX7_thousandTo_10 ?_
        refine lv_lmul hx hb dX7_thousandTo_13 ?_
        obtain ⟨w_2, hw_2, hf⟩ := bnd hf
        refine q_nmL hw_2 ?_
        refine lv_lstore_n (lv' := [(1, .long w_2), (0, .int v0), (3, .int y4_3)]) hx hb dX7_thousandTo_14 rfl hl (by decide) rfl (fun ls hl => ?_)
        refine lv_iinc (v := (y4_3 + (1 : Int32))) (lv' := [(3, .int (y4_3 + (1 : Int32))), (1, .long w_2), (0, .int v0)]) hx hb dX7_thousandTo_15 hl (k := 2) rfl rfl (by decide) rfl (fun ls hl => ?_)
        refine lv_goto (tgt := 4) hx hb dX7_thousandTo_18 (by decide) ?_
        have h9 := o_inl hf ho_4
        exact ih w_2 (y4_3 + (1 : Int32)) _ _ _ h9 hW (lv_sub hl [2, 1, 0] rfl)
  exact L_4 FU (1 : Int64) (0 : Int32) _ _ _ hl_4 hW (lv_sub hl [2, 1, 0] rfl)
