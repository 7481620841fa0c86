def b_X6_judge_41 (v1 : Int32) (v2 : Int64) (p0_land_persons : Int32) (p0_land_skies : Int32) (p0_land_oaths : Int32) (p0_land_kinds : Nat → Int32) (p0_land_clapPlaces : Nat → Int32) (p0_land_louds : Nat → Int32) (p0_land_ones : Nat → Int32) (p0_land_others : Nat → Int32) (p0_land_worths : Nat → Int32) (p0_land_hangs : Nat → Int32) (v4 : Int32) (p0_trial_places : Int32) (p0_trial_wool : Int32) (p0_trial_sworn : Int32) (p0_trial_worth : Int32) (p0_trial_day : Int32) : Option ((Int32 × Int32 × Int32 × Int32 × Int32 × Int32) ⊕ (((Int32 × Int32 × Int32 × Int32 × Int32) ⊕ (Int32 × Int32 × Int32 × Int32 × Int32 × Int32)))) := if v1 ≤ v4 then some (.inr (.inl (p0_trial_places, p0_trial_wool, p0_trial_sworn, p0_trial_worth, p0_trial_day))) else (f_X6_figuresAt v2 ((v1 - (1 : Int32)) - v4)).bind fun r_543 => (f_X6_canHappen (r_543 / (100 : Int32)) ((r_543 / (10 : Int32)) - (r_543 / (10 : Int32)) / (10 : Int32) * (10 : Int32)) (r_543 - r_543 / (10 : Int32) * (10 : Int32)) p0_land_persons p0_land_skies p0_land_oaths p0_trial_places p0_trial_wool p0_trial_sworn p0_trial_worth p0_trial_day p0_land_kinds p0_land_clapPlaces p0_land_louds p0_land_ones p0_land_others p0_land_worths p0_land_hangs).bind fun r_544 => if r_544.1 = (0 : Int32) then some (.inr (.inr (v4, r_544.2.1, r_544.2.2.1, r_544.2.2.2.1, r_544.2.2.2.2.1, r_544.2.2.2.2.2))) else some (.inl ((v4 + (1 : Int32)), r_544.2.1, r_544.2.2.1, r_544.2.2.2.1, r_544.2.2.2.2.1, r_544.2.2.2.2.2))
def f_X6_judge (v1 : Int32) (v2 : Int64) (p0_land_persons : Int32) (p0_land_skies : Int32) (p0_land_oaths : Int32) (p0_now_places : Int32) (p0_now_wool : Int32) (p0_now_sworn : Int32) (p0_now_worth : Int32) (p0_now_day : Int32) (p0_trial_places : Int32) (p0_trial_wool : Int32) (p0_trial_sworn : Int32) (p0_trial_worth : Int32) (p0_trial_day : Int32) (p0_land_kinds : Nat → Int32) (p0_land_clapPlaces : Nat → Int32) (p0_land_louds : Nat → Int32) (p0_land_ones : Nat → Int32) (p0_land_others : Nat → Int32) (p0_land_worths : Nat → Int32) (p0_land_hangs : Nat → Int32) : Option (Int32 × Int32 × Int32 × Int32 × Int32 × Int32) := (f_X6_within v1 (1 : Int32) (4 : Int32)).bind fun r_1 => if r_1 = (0 : Int32) then some ((-2 : Int32), p0_trial_places, p0_trial_wool, p0_trial_sworn, p0_trial_worth, p0_trial_day) else if (lg_cmp v2 (0 : Int64)) < (0 : Int32) then some ((-2 : Int32), p0_trial_places, p0_trial_wool, p0_trial_sworn, p0_trial_worth, p0_trial_day) else (f_X6_thousands v1).bind fun r_4 => if (lg_cmp v2 r_4) < (0 : Int32) then (f_X4_copyFrom p0_trial_places p0_trial_wool p0_trial_sworn p0_trial_worth p0_trial_day p0_now_places p0_now_wool p0_now_sworn p0_now_worth p0_now_day).bind fun r_6 => (itr (fun s => b_X6_judge_41 v1 v2 p0_land_persons p0_land_skies p0_land_oaths p0_land_kinds p0_land_clapPlaces p0_land_louds p0_land_ones p0_land_others p0_land_worths p0_land_hangs s.1 s.2.1 s.2.2.1 s.2.2.2.1 s.2.2.2.2.1 s.2.2.2.2.2) FU ((0 : Int32), r_6.1, r_6.2.1, r_6.2.2.1, r_6.2.2.2.1, r_6.2.2.2.2)).bind fun e_41 => Sum.elim (fun x_41 => some ((-9 : Int32), x_41.1, x_41.2.1, x_41.2.2.1, x_41.2.2.2.1, x_41.2.2.2.2)) (fun r_41 => some r_41) e_41 else some ((-2 : Int32), p0_trial_places, p0_trial_wool, p0_trial_sworn, p0_trial_worth, p0_trial_day)
set_option maxHeartbeats 4000000 in
set_option maxRecDepth 100000 in
theorem c_X6_judge (l : Launch) (D : va_G) (cI cZ : ClassId) (a_p0 a_p0_text a_p0_reader a_p0_draft a_p0_land a_p0_now a_p0_trial a_p0_acts a_p0_hearings a_p0_kept a_p0_land_places a_p0_land_kinds a_p0_land_clapPlaces a_p0_land_louds a_p0_land_ones a_p0_land_others a_p0_land_worths a_p0_land_hangs : Nat) (p0_keptSlots : Int32) (p0_seedNow : Int64) (p0_land_persons : Int32) (p0_land_skies : Int32) (p0_land_oaths : Int32) (p0_now_places : Int32) (p0_now_wool : Int32) (p0_now_sworn : Int32) (p0_now_worth : Int32) (p0_now_day : Int32) (p0_trial_places : Int32) (p0_trial_wool : Int32) (p0_trial_sworn : Int32) (p0_trial_worth : Int32) (p0_trial_day : Int32) (p0_land_kinds : Nat → Int32) (p0_land_clapPlaces : Nat → Int32) (p0_land_louds : Nat → Int32) (p0_land_ones : Nat → Int32) (p0_land_others : Nat → Int32) (p0_land_worths : Nat → Int32) (p0_land_hangs : Nat → Int32) (v1 : Int32) (v2 : Int64) (q : Int32 × Int32 × Int32 × Int32 × Int32 × Int32) (hf : f_X6_judge v1 v2 p0_land_persons p0_land_skies p0_land_oaths p0_now_places p0_now_wool p0_now_sworn p0_now_worth p0_now_day p0_trial_places p0_trial_wool p0_trial_sworn p0_trial_worth p0_trial_day p0_land_kinds p0_land_clapPlaces p0_land_louds p0_land_ones p0_land_others p0_land_worths p0_land_hangs = some q) : CtI l D cI cZ yX6_judge wsX6_judge 6 137 [.ref a_p0, .int v1, .long v2] [(a_p0, .inr (6, [.ref a_p0_text, .ref a_p0_reader, .ref a_p0_draft, .ref a_p0_land, .ref a_p0_now, .ref a_p0_trial, .ref a_p0_acts, .ref a_p0_hearings, .ref a_p0_kept, .int p0_keptSlots, .long p0_seedNow])), (a_p0_land, .inr (1, [.ref a_p0_land_places, .ref a_p0_land_kinds, .ref a_p0_land_clapPlaces, .ref a_p0_land_louds, .ref a_p0_land_ones, .ref a_p0_land_others, .ref a_p0_land_worths, .ref a_p0_land_hangs, .int p0_land_persons, .int p0_land_skies, .int p0_land_oaths])), (a_p0_now, .inr (4, [.ref a_p0_land, .int p0_now_places, .int p0_now_wool, .int p0_now_sworn, .int p0_now_worth, .int p0_now_day])), (a_p0_trial, .inr (4, [.ref a_p0_land, .int p0_trial_places, .int p0_trial_wool, .int p0_trial_sworn, .int p0_trial_worth, .int p0_trial_day])), (a_p0_land_kinds, .inl (cI, 5, .inl p0_land_kinds)), (a_p0_land_clapPlaces, .inl (cI, 5, .inl p0_land_clapPlaces)), (a_p0_land_louds, .inl (cI, 5, .inl p0_land_louds)), (a_p0_land_ones, .inl (cI, 5, .inl p0_land_ones)), (a_p0_land_others, .inl (cI, 5, .inl p0_land_others)), (a_p0_land_worths, .inl (cI, 5, .inl p0_land_worths)), (a_p0_land_hangs, .inl (cI, 5, .inl p0_land_hangs))] (fun q => [(a_p0, .inr (6, [.ref a_p0_text, .ref a_p0_reader, .ref a_p0_draft, .ref a_p0_land, .ref a_p0_now, .ref a_p0_trial, .ref a_p0_acts, .ref a_p0_hearings, .ref a_p0_kept, .int p0_keptSlots, .long p0_seedNow])), (a_p0_land, .inr (1, [.ref a_p0_land_places, .ref a_p0_land_kinds, .ref a_p0_land_clapPlaces, .ref a_p0_land_louds, .ref a_p0_land_ones, .ref a_p0_land_others, .ref a_p0_land_worths, .ref a_p0_land_hangs, .int p0_land_persons, .int p0_land_skies, .int p0_land_oaths])), (a_p0_now, .inr (4, [.ref a_p0_land, .int p0_now_places, .int p0_now_wool, .int p0_now_sworn, .int p0_now_worth, .int p0_now_day])), (a_p0_trial, .inr (4, [.ref a_p0_land, .int q.2.1, .int q.2.2.1, .int q.2.2.2.1, .int q.2.2.2.2.1, .int q.2.2.2.2.2])), (a_p0_land_kinds, .inl (cI, 5, .inl p0_land_kinds)), (a_p0_land_clapPlaces, .inl (cI, 5, .inl p0_land_clapPlaces)), (a_p0_land_louds, .inl (cI, 5, .inl p0_land_louds)), (a_p0_land_ones, .inl (cI, 5, .inl p0_land_ones)), (a_p0_land_others, .inl (cI, 5, .inl p0_land_others)), (a_p0_land_worths, .inl (cI, 5, .inl p0_land_worths)), (a_p0_land_hangs, .inl (cI, 5, .inl p0_land_hangs))]) (fun q => q.1) q := by
  refine CtI.of (cc := cX6_judge) (maxL := 6) (plainFor_of_name (by decide)) rfl (Nat.le_of_ble_eq_true rfl) ?_
  intro p e s m args below meth c A Q H ls hB hE hW hl
  have hx := hB.1
  have hb := hB.2.1
  have hml := hB.2.2.2.1
  have hown : s.vm.findClass RX6 = some m.cls := hB.2.2.2.2.1
  have hts := hB.2.2.2.2.2.1
  have hK := hB.2.2.2.2.2.2.2.1.1
  have hl : lv_has ls 6 [(0, .ref a_p0), (1, .int v1), (2, .long v2)] := hl
  have in_X6 : ∀ w ∈ wsX60, w ∈ wsX6_judge := fun w h => List.mem_cons_of_mem _ (List.mem_append_left _ (List.mem_append_left _ (List.mem_append_right _ h)))
  have fl_40 : (Cond.fieldLink RX6 40 (TX6 4).1 (TX6 4).2.1 (TX6 4).2.2.1).before args s = true := hts (.fieldLink RX6 40 "ClapOaths" "now" "LClapOaths$Standing;") (by decide +kernel)
  have fl_44 : (Cond.fieldLink RX6 44 (TX6 5).1 (TX6 5).2.1 (TX6 5).2.2.1).before args s = true := hts (.fieldLink RX6 44 "ClapOaths" "trial" "LClapOaths$Standing;") (by decide +kernel)
  unfold f_X6_judge at hf
  refine lv_iload_n hx hb dX6_judge_0 rfl (lv_at hl 1 rfl) ?_
  refine lv_iconst (v := 1) hx hb dX6_judge_1 (by decide) ?_
  refine lv_iconst (v := 4) hx hb dX6_judge_2 (by decide) ?_
  obtain ⟨r_1, hr_1, hf⟩ := bnd hf
  refine q_callSZ hB hW (As := [.int v1, .int (1 : Int32), .int (4 : Int32)]) (rest := []) (ws' := [(a_p0, .inr (6, [.ref a_p0_text, .ref a_p0_reader, .ref a_p0_draft, .ref a_p0_land, .ref a_p0_now, .ref a_p0_trial, .ref a_p0_acts, .ref a_p0_hearings, .ref a_p0_kept, .int p0_keptSlots, .long p0_seedNow])), (a_p0_land, .inr (1, [.ref a_p0_land_places, .ref a_p0_land_kinds, .ref a_p0_land_clapPlaces, .ref a_p0_land_louds, .ref a_p0_land_ones, .ref a_p0_land_others, .ref a_p0_land_worths, .ref a_p0_land_hangs, .int p0_land_persons, .int p0_land_skies, .int p0_land_oaths])), (a_p0_now, .inr (4, [.ref a_p0_land, .int p0_now_places, .int p0_now_wool, .int p0_now_sworn, .int p0_now_worth, .int p0_now_day])), (a_p0_trial, .inr (4, [.ref a_p0_land, .int p0_trial_places, .int p0_trial_wool, .int p0_trial_sworn, .int p0_trial_worth, .int p0_trial_day])), (a_p0_land_kinds, .inl (cI, 5, .inl p0_land_kinds)), (a_p0_land_clapPlaces, .inl (cI, 5, .inl p0_land_clapPlaces)), (a_p0_land_louds, .inl (cI, 5, .inl p0_land_louds)), (a_p0_land_ones, .inl (cI, 5, .inl p0_land_ones)), (a_p0_land_others, .inl (cI, 5, .inl p0_land_others)), (a_p0_land_worths, .inl (cI, 5, .inl p0_land_worths)), (a_p0_land_hangs, .inl (cI, 5, .inl p0_land_hangs))]) (c_X6_within l D cI cZ v1 (1 : Int32) (4 : Int32) r_1 hr_1) (va_cwS 3 hts gX6_judge_X6_within rfl rfl rfl (by decide +kernel) ⟨Nat.le_of_ble_eq_true rfl, Nat.le_of_ble_eq_true rfl⟩) [] rfl rfl rfl rfl rfl hl.1 rfl (Nat.le_of_ble_eq_true rfl) ⟨Nat.le_of_ble_eq_true rfl, Nat.le_of_ble_eq_true rfl⟩ dX6_judge_3 (fun hzr_1 H locs hW => ?_)
  refine lv_if_eq (tgt := 24) hx hb dX6_judge_6 (by decide) (fun c_2 => ?_) (fun c_2 => ?_)
  · have hf := it_t c_2 hf
    refine lv_bipush (v := -2) hx hb dX6_judge_24 (by decide) ?_
    exact hE _ _ _ _ _ ((-2 : Int32), p0_trial_places, p0_trial_wool, p0_trial_sworn, p0_trial_worth, p0_trial_day) (sm hf) hW rfl dX6_judge_26
  · have hf := it_f c_2 hf
    refine lv_lload_n hx hb dX6_judge_9 rfl (lv_at hl 2 rfl) ?_
    refine lv_lconst (v := 0) hx hb dX6_judge_10 (by decide) ?_
    refine W.lcmp hx hb dX6_judge_11 ?_
    refine lv_if_lt (tgt := 24) hx hb dX6_judge_12 (by decide) (fun c_3 => ?_) (fun c_3 => ?_)
    · have hf := it_t c_3 hf
      refine lv_bipush (v := -2) hx hb dX6_judge_24 (by decide) ?_
      exact hE _ _ _ _ _ ((-2 : Int32), p0_trial_places, p0_trial_wool, p0_trial_sworn, p0_trial_worth, p0_trial_day) (sm hf) hW rfl dX6_judge_26
    · have hf := it_f c_3 hf
      refine lv_lload_n hx hb dX6_judge_15 rfl (lv_at hl 2 rfl) ?_
      refine lv_iload_n hx hb dX6_judge_16 rfl (lv_at hl 1 rfl) ?_
      obtain ⟨r_4, hr_4, hf⟩ := bnd hf
      refine q_callSL hB hW (As := [.int v1]) (rest := [.long v2]) (ws' := [(a_p0, .inr (6, [.ref a_p0_text, .ref a_p0_reader, .ref a_p0_draft, .ref a_p0_land, .ref a_p0_now, .ref a_p0_trial, .ref a_p0_acts, .ref a_p0_hearings, .ref a_p0_kept, .int p0_keptSlots, .long p0_seedNow])), (a_p0_land, .inr (1, [.ref a_p0_land_places, .ref a_p0_land_kinds, .ref a_p0_land_clapPlaces, .ref a_p0_land_louds, .ref a_p0_land_ones, .ref a_p0_land_others, .ref a_p0_land_worths, .ref a_p0_land_hangs, .int p0_land_persons, .int p0_land_skies, .int p0_land_oaths])), (a_p0_now, .inr (4, [.ref a_p0_land, .int p0_now_places, .int p0_now_wool, .int p0_now_sworn, .int p0_now_worth, .int p0_now_day])), (a_p0_trial, .inr (4, [.ref a_p0_land, .int p0_trial_places, .int p0_trial_wool, .int p0_trial_sworn, .int p0_trial_worth, .int p0_trial_day])), (a_p0_land_kinds, .inl (cI, 5, .inl p0_land_kinds)), (a_p0_land_clapPlaces, .inl (cI, 5, .inl p0_land_clapPlaces)), (a_p0_land_louds, .inl (cI, 5, .inl p0_land_louds)), (a_p0_land_ones, .inl (cI, 5, .inl p0_land_ones)), (a_p0_land_others, .inl (cI, 5, .inl p0_land_others)), (a_p0_land_worths, .inl (cI, 5, .inl p0_land_worths)), (a_p0_land_hangs, .inl (cI, 5, .inl p0_land_hangs))]) (c_X6_thousands l D cI cZ v1 r_4 hr_4) (va_cwS 1 hts gX6_judge_X6_thousands rfl rfl rfl (by decide +kernel) ⟨Nat.le_of_ble_eq_true rfl, Nat.le_of_ble_eq_true rfl⟩) [] rfl rfl rfl rfl rfl hl.1 rfl (Nat.le_of_ble_eq_true rfl) ⟨Nat.le_of_ble_eq_true rfl, Nat.le_of_ble_eq_true rfl⟩ dX6_judge_17 (fun H locs hW => ?_)
      refine W.lcmp hx hb dX6_judge_20 ?_
      refine lv_if_lt (tgt := 27) hx hb dX6_judge_21 (by decide) (fun c_5 => ?_) (fun c_5 => ?_)
      · have hf := it_t c_5 hf
        refine lv_aload_n hx hb dX6_judge_27 rfl (lv_at hl 0 rfl) ?_
        refine q_get hB hW 6 in_X6 0 rfl rfl 5 (by decide) fl_44 (v := .ref a_p0_trial) rfl dX6_judge_28 ?_
        refine lv_aload_n hx hb dX6_judge_31 rfl (lv_at hl 0 rfl) ?_
        refine q_get hB hW 6 in_X6 0 rfl rfl 4 (by decide) fl_40 (v := .ref a_p0_now) rfl dX6_judge_32 ?_
        obtain ⟨r_6, hr_6, hf⟩ := bnd hf
        refine q_callVV hB hW (ci := 4) (q0 := 0) rfl rfl rfl (As := [.ref a_p0_now]) (rest := []) (ws' := [(a_p0, .inr (6, [.ref a_p0_text, .ref a_p0_reader, .ref a_p0_draft, .ref a_p0_land, .ref a_p0_now, .ref a_p0_trial, .ref a_p0_acts, .ref a_p0_hearings, .ref a_p0_kept, .int p0_keptSlots, .long p0_seedNow])), (a_p0_land, .inr (1, [.ref a_p0_land_places, .ref a_p0_land_kinds, .ref a_p0_land_clapPlaces, .ref a_p0_land_louds, .ref a_p0_land_ones, .ref a_p0_land_others, .ref a_p0_land_worths, .ref a_p0_land_hangs, .int p0_land_persons, .int p0_land_skies, .int p0_land_oaths])), (a_p0_now, .inr (4, [.ref a_p0_land, .int p0_now_places, .int p0_now_wool, .int p0_now_sworn, .int p0_now_worth, .int p0_now_day])), (a_p0_trial, .inr (4, [.ref a_p0_land, .int r_6.1, .int r_6.2.1, .int r_6.2.2.1, .int r_6.2.2.2.1, .int r_6.2.2.2.2])), (a_p0_land_kinds, .inl (cI, 5, .inl p0_land_kinds)), (a_p0_land_clapPlaces, .inl (cI, 5, .inl p0_land_clapPlaces)), (a_p0_land_louds, .inl (cI, 5, .inl p0_land_louds)), (a_p0_land_ones, .inl (cI, 5, .inl p0_land_ones)), (a_p0_land_others, .inl (cI, 5, .inl p0_land_others)), (a_p0_land_worths, .inl (cI, 5, .inl p0_land_worths)), (a_p0_land_hangs, .inl (cI, 5, .inl p0_land_hangs))]) (c_X4_copyFrom l D cI cZ a_p0_trial a_p0_now a_p0_land a_p0_land p0_trial_places p0_trial_wool p0_trial_sworn p0_trial_worth p0_trial_day p0_now_places p0_now_wool p0_now_sworn p0_now_worth p0_now_day r_6 hr_6) (cwV 1 hts gX6_judge_X4_copyFrom rfl rfl rfl (by decide +kernel) ⟨Nat.le_of_ble_eq_true rfl, Nat.le_of_ble_eq_true rfl⟩) [3, 2] rfl rfl rfl rfl rfl hl.1 rfl (Nat.le_of_ble_eq_true rfl) ⟨Nat.le_of_ble_eq_true rfl, Nat.le_of_ble_eq_true rfl⟩ dX6_judge_35 (fun H locs hW => ?_)
        refine lv_iconst (v := 0) hx hb dX6_judge_38 (by decide) ?_
        refine lv_istore (lv' := [(4, .int (0 : Int32)), (0, .ref a_p0), (1, .int v1), (2, .long v2)]) hx hb dX6_judge_39 hl (by decide) rfl (fun ls hl => ?_)
        obtain ⟨e_41, hl_41, hk_41⟩ := bnd hf
        have K_41 : ∀ x_41 : Int32 × Int32 × Int32 × Int32 × Int32, Sum.inl x_41 = e_41 → ∀ (H : Heap) (locs : List Loc) (ls : Array Slot), Wl D A s.heap [(a_p0, .inr (6, [.ref a_p0_text, .ref a_p0_reader, .ref a_p0_draft, .ref a_p0_land, .ref a_p0_now, .ref a_p0_trial, .ref a_p0_acts, .ref a_p0_hearings, .ref a_p0_kept, .int p0_keptSlots, .long p0_seedNow])), (a_p0_land, .inr (1, [.ref a_p0_land_places, .ref a_p0_land_kinds, .ref a_p0_land_clapPlaces, .ref a_p0_land_louds, .ref a_p0_land_ones, .ref a_p0_land_others, .ref a_p0_land_worths, .ref a_p0_land_hangs, .int p0_land_persons, .int p0_land_skies, .int p0_land_oaths])), (a_p0_now, .inr (4, [.ref a_p0_land, .int p0_now_places, .int p0_now_wool, .int p0_now_sworn, .int p0_now_worth, .int p0_now_day])), (a_p0_trial, .inr (4, [.ref a_p0_land, .int x_41.1, .int x_41.2.1, .int x_41.2.2.1, .int x_41.2.2.2.1, .int x_41.2.2.2.2])), (a_p0_land_kinds, .inl (cI, 5, .inl p0_land_kinds)), (a_p0_land_clapPlaces, .inl (cI, 5, .inl p0_land_clapPlaces)), (a_p0_land_louds, .inl (cI, 5, .inl p0_land_louds)), (a_p0_land_ones, .inl (cI, 5, .inl p0_land_ones)), (a_p0_land_others, .inl (cI, 5, .inl p0_land_others)), (a_p0_land_worths, .inl (cI, 5, .inl p0_land_worths)), (a_p0_land_hangs, .inl (cI, 5, .inl p0_land_hangs))] H locs → lv_has ls 6 [] → W p l e (Rm 6 137) s m args below meth c H locs 0 0 Q (F0 m 93 ls []) := by
          intro x_41 hx_41 H locs ls hW hl
          have hf := s_inl hx_41 hk_41
          refine lv_bipush (v := -9) hx hb dX6_judge_93 (by decide) ?_
          exact hE _ _ _ _ _ ((-9 : Int32), x_41.1, x_41.2.1, x_41.2.2.1, x_41.2.2.2.1, x_41.2.2.2.2) (sm hf) hW rfl dX6_judge_95
        have L_41 : ∀ (n : Nat) (y41_4 : Int32) (y41_p0_trial_places : Int32) (y41_p0_trial_wool : Int32) (y41_p0_trial_sworn : Int32) (y41_p0_trial_worth : Int32) (y41_p0_trial_day : Int32) (H : Heap) (locs : List Loc) (ls : Array Slot), itr (fun s => b_X6_judge_41 v1 v2 p0_land_persons p0_land_skies p0_land_oaths p0_land_kinds p0_land_clapPlaces p0_land_louds p0_land_ones p0_land_others p0_land_worths p0_land_hangs s.1 s.2.1 s.2.2.1 s.2.2.2.1 s.2.2.2.2.1 s.2.2.2.2.2) n (y41_4, y41_p0_trial_places, y41_p0_trial_wool, y41_p0_trial_sworn, y41_p0_trial_worth, y41_p0_trial_day) = some e_41 → Wl D A s.heap [(a_p0, .inr (6, [.ref a_p0_text, .ref a_p0_reader, .ref a_p0_draft, .ref a_p0_land, .ref a_p0_now, .ref a_p0_trial, .ref a_p0_acts, .ref a_p0_hearings, .ref a_p0_kept, .int p0_keptSlots, .long p0_seedNow])), (a_p0_land, .inr (1, [.ref a_p0_land_places, .ref a_p0_land_kinds, .ref a_p0_land_clapPlaces, .ref a_p0_land_louds, .ref a_p0_land_ones, .ref a_p0_land_others, .ref a_p0_land_worths, .ref a_p0_land_hangs, .int p0_land_persons, .int p0_land_skies, .int p0_land_oaths])), (a_p0_now, .inr (4, [.ref a_p0_land, .int p0_now_places, .int p0_now_wool, .int p0_now_sworn, .int p0_now_worth, .int p0_now_day])), (a_p0_trial, .inr (4, [.ref a_p0_land, .int y41_p0_trial_places, .int y41_p0_trial_wool, .int y41_p0_trial_sworn, .int y41_p0_trial_worth, .int y41_p0_trial_day])), (a_p0_land_kinds, .inl (cI, 5, .inl p0_land_kinds)), (a_p0_land_clapPlaces, .inl (cI, 5, .inl p0_land_clapPlaces)), (a_p0_land_louds, .inl (cI, 5, .inl p0_land_louds)), (a_p0_land_ones, .inl (cI, 5, .inl p0_land_ones)), (a_p0_land_others, .inl (cI, 5, .inl p0_land_others)), (a_p0_land_worths, .inl (cI, 5, .inl p0_land_worths)), (a_p0_land_hangs, .inl (cI, 5, .inl p0_land_hangs))] H locs → lv_has ls 6 [(0, .ref a_p0), (1, .int v1), (2, .long v2), (4, .int y41_4)] → W p l e (Rm 6 137) s m args below meth c H locs 0 0 Q (F0 m 41 ls []) := by
          intro n
          induction n with
          | zero => intro y41_4 y41_p0_trial_places y41_p0_trial_wool y41_p0_trial_sworn y41_p0_trial_worth y41_p0_trial_day H locs ls h9; exact itr_0 h9
          | succ n ih =>
            intro y41_4 y41_p0_trial_places y41_p0_trial_wool y41_p0_trial_sworn y41_p0_trial_worth y41_p0_trial_day H locs ls hf hW hl
            obtain ⟨o_41, hf, ho_41⟩ := itr_inv hf
            have hf : b_X6_judge_41 v1 v2 p0_land_persons p0_land_skies p0_land_oaths p0_land_kinds p0_land_clapPlaces p0_land_louds p0_land_ones p0_land_others p0_land_worths p0_land_hangs y41_4 y41_p0_trial_places y41_p0_trial_wool y41_p0_trial_sworn y41_p0_trial_worth y41_p0_trial_day = some o_41 := hf
            unfold b_X6_judge_41 at hf
            refine lv_iload hx hb dX6_judge_41 (lv_at hl 3 rfl) ?_
            refine lv_iload_n hx hb dX6_judge_43 rfl (lv_at hl 1 rfl) ?_
            refine lv_icmp_ge (tgt := 93) hx hb dX6_judge_44 (by decide) (fun c_7 => ?_) (fun c_7 => ?_)
            · have hf := it_t c_7 hf
              have h9 := o_inr hf ho_41
              exact K_41 (y41_p0_trial_places, y41_p0_trial_wool, y41_p0_trial_sworn, y41_p0_trial_worth, y41_p0_trial_day) h9 _ _ _ hW (lv_sub hl [] rfl)
            · have hf := it_f c_7 hf
              refine lv_lload_n hx hb dX6_judge_47 rfl (lv_at hl 2 rfl) ?_
              refine lv_iload_n hx hb dX6_judge_48 rfl (lv_at hl 1 rfl) ?_
              refine lv_iconst (v := 1) hx hb dX6_judge_49 (by decide) ?_
              refine lv_isub hx hb dX6_judge_50 ?_
              refine lv_iload hx hb dX6_judge_51 (lv_at hl 3 rfl) ?_
              refine lv_isub hx hb dX6_judge_53 ?_
              obtain ⟨r_8, hr_8, hf⟩ := bnd hf
              refine q_callSI hB hW (As := [.long v2, .int ((v1 - (1 : Int32)) - y41_4)]) (rest := []) (ws' := [(a_p0, .inr (6, [.ref a_p0_text, .ref a_p0_reader, .ref a_p0_draft, .ref a_p0_land, .ref a_p0_now, .ref a_p0_trial, .ref a_p0_acts, .ref a_p0_hearings, .ref a_p0_kept, .int p0_keptSlots, .long p0_seedNow])), (a_p0_land, .inr (1, [.ref a_p0_land_places, .ref a_p0_land_kinds, .ref a_p0_land_clapPlaces, .ref a_p0_land_louds, .ref a_p0_land_ones, .ref a_p0_land_others, .ref a_p0_land_worths, .ref a_p0_land_hangs, .int p0_land_persons, .int p0_land_skies, .int p0_land_oaths])), (a_p0_now, .inr (4, [.ref a_p0_land, .int p0_now_places, .int p0_now_wool, .int p0_now_sworn, .int p0_now_worth, .int p0_now_day])), (a_p0_trial, .inr (4, [.ref a_p0_land, .int y41_p0_trial_places, .int y41_p0_trial_wool, .int y41_p0_trial_sworn, .int y41_p0_trial_worth, .int y41_p0_trial_day])), (a_p0_land_kinds, .inl (cI, 5, .inl p0_land_kinds)), (a_p0_land_clapPlaces, .inl (cI, 5, .inl p0_land_clapPlaces)), (a_p0_land_louds, .inl (cI, 5, .inl p0_land_louds)), (a_p0_land_ones, .inl (cI, 5, .inl p0_land_ones)), (a_p0_land_others, .inl (cI, 5, .inl p0_land_others)), (a_p0_land_worths, .inl (cI, 5, .inl p0_land_worths)), (a_p0_land_hangs, .inl (cI, 5, .inl p0_land_hangs))]) (c_X6_figuresAt l D cI cZ v2 ((v1 - (1 : Int32)) - y41_4) r_8 hr_8) (va_cwS 2 hts gX6_judge_X6_figuresAt rfl rfl rfl (by decide +kernel) ⟨Nat.le_of_ble_eq_true rfl, Nat.le_of_ble_eq_true rfl⟩) [] rfl rfl rfl rfl rfl hl.1 rfl (Nat.le_of_ble_eq_true rfl) ⟨Nat.le_of_ble_eq_true rfl, Nat.le_of_ble_eq_true rfl⟩ dX6_judge_54 (fun H locs hW => ?_)
              refine lv_istore (lv' := [(5, .int r_8), (0, .ref a_p0), (1, .int v1), (2, .long v2), (4, .int y41_4)]) hx hb dX6_judge_57 hl (by decide) rfl (fun ls hl => ?_)
              refine lv_aload_n hx hb dX6_judge_59 rfl (lv_at hl 1 rfl) ?_
              refine lv_iload hx hb dX6_judge_60 (lv_at hl 0 rfl) ?_
              refine lv_bipush (v := 100) hx hb dX6_judge_62 (by decide) ?_
              refine lv_idiv hx hb dX6_judge_64 (by decide) ?_
              refine lv_iload hx hb dX6_judge_65 (lv_at hl 0 rfl) ?_
              refine lv_bipush (v := 10) hx hb dX6_judge_67 (by decide) ?_
              refine lv_idiv hx hb dX6_judge_69 (by decide) ?_
              refine lv_bipush (v := 10) hx hb dX6_judge_70 (by decide) ?_
              refine lv_irem hx hb dX6_judge_72 (by decide) ?_
              refine lv_iload hx hb dX6_judge_73 (lv_at hl 0 rfl) ?_
              refine lv_bipush (v := 10) hx hb dX6_judge_75 (by decide) ?_
              refine lv_irem hx hb dX6_judge_77 (by decide) ?_
              obtain ⟨r_9, hr_9, hf⟩ := bnd hf
              refine q_callVZ hB hW (ci := 6) (q0 := 0) rfl rfl rfl (As := [.int (r_8 / (100 : Int32)), .int ((r_8 / (10 : Int32)) - (r_8 / (10 : Int32)) / (10 : Int32) * (10 : Int32)), .int (r_8 - r_8 / (10 : Int32) * (10 : Int32))]) (rest := []) (ws' := [(a_p0, .inr (6, [.ref a_p0_text, .ref a_p0_reader, .ref a_p0_draft, .ref a_p0_land, .ref a_p0_now, .ref a_p0_trial, .ref a_p0_acts, .ref a_p0_hearings, .ref a_p0_kept, .int p0_keptSlots, .long p0_seedNow])), (a_p0_land, .inr (1, [.ref a_p0_land_places, .ref a_p0_land_kinds, .ref a_p0_land_clapPlaces, .ref a_p0_land_louds, .ref a_p0_land_ones, .ref a_p0_land_others, .ref a_p0_land_worths, .ref a_p0_land_hangs, .int p0_land_persons, .int p0_land_skies, .int p0_land_oaths])), (a_p0_now, .inr (4, [.ref a_p0_land, .int p0_now_places, .int p0_now_wool, .int p0_now_sworn, .int p0_now_worth, .int p0_now_day])), (a_p0_trial, .inr (4, [.ref a_p0_land, .int r_9.2.1, .int r_9.2.2.1, .int r_9.2.2.2.1, .int r_9.2.2.2.2.1, .int r_9.2.2.2.2.2])), (a_p0_land_kinds, .inl (cI, 5, .inl p0_land_kinds)), (a_p0_land_clapPlaces, .inl (cI, 5, .inl p0_land_clapPlaces)), (a_p0_land_louds, .inl (cI, 5, .inl p0_land_louds)), (a_p0_land_ones, .inl (cI, 5, .inl p0_land_ones)), (a_p0_land_others, .inl (cI, 5, .inl p0_land_others)), (a_p0_land_worths, .inl (cI, 5, .inl p0_land_worths)), (a_p0_land_hangs, .inl (cI, 5, .inl p0_land_hangs))]) (c_X6_canHappen l D cI cZ a_p0 a_p0_text a_p0_reader a_p0_draft a_p0_land a_p0_now a_p0_trial a_p0_acts a_p0_hearings a_p0_kept a_p0_land_places a_p0_land_kinds a_p0_land_clapPlaces a_p0_land_louds a_p0_land_ones a_p0_land_others a_p0_land_worths a_p0_land_hangs p0_keptSlots p0_seedNow p0_land_persons p0_land_skies p0_land_oaths y41_p0_trial_places y41_p0_trial_wool y41_p0_trial_sworn y41_p0_trial_worth y41_p0_trial_day p0_land_kinds p0_land_clapPlaces p0_land_louds p0_land_ones p0_land_others p0_land_worths p0_land_hangs (r_8 / (100 : Int32)) ((r_8 / (10 : Int32)) - (r_8 / (10 : Int32)) / (10 : Int32) * (10 : Int32)) (r_8 - r_8 / (10 : Int32) * (10 : Int32)) r_9 hr_9) (cwV 3 hts gX6_judge_X6_canHappen rfl rfl rfl (by decide +kernel) ⟨Nat.le_of_ble_eq_true rfl, Nat.le_of_ble_eq_true rfl⟩) [0, 1, 3, 4, 5, 6, 7, 8, 9, 10] rfl rfl rfl rfl rfl hl.1 rfl (Nat.le_of_ble_eq_true rfl) ⟨Nat.le_of_ble_eq_true rfl, Nat.le_of_ble_eq_true rfl⟩ dX6_judge_78 (fun hzr_9 H locs hW => ?_)
              refine lv_if_ne (tgt := 87) hx hb dX6_judge_81 (by decide) (fun c_10 => ?_) (fun c_10 => ?_)
              · have hf := it_f c_10 hf
                refine lv_iinc (v := (y41_4 + (1 : Int32))) (lv' := [(4, .int (y41_4 + (1 : Int32))), (5, .int r_8), (0, .ref a_p0), (1, .int v1), (2, .long v2)]) hx hb dX6_judge_87 hl (k := 4) rfl rfl (by decide) rfl (fun ls hl => ?_)
                refine lv_goto (tgt := 41) hx hb dX6_judge_90 (by decide) ?_
                have h9 := o_inl hf ho_41
                exact ih (y41_4 + (1 : Int32)) r_9.2.1 r_9.2.2.1 r_9.2.2.2.1 r_9.2.2.2.2.1 r_9.2.2.2.2.2 _ _ _ h9 hW (lv_sub hl [2, 3, 4, 0] rfl)
              · have hf := it_t c_10 hf
                refine lv_iload hx hb dX6_judge_84 (lv_at hl 4 rfl) ?_
                have h9 := o_inr hf ho_41
                have h9 := s_inr h9 hk_41
                exact hE _ _ _ _ _ (y41_4, r_9.2.1, r_9.2.2.1, r_9.2.2.2.1, r_9.2.2.2.2.1, r_9.2.2.2.2.2) (sm h9) hW rfl dX6_judge_86
        exact L_41 FU (0 : Int32) r_6.1 r_6.2.1 r_6.2.2.1 r_6.2.2.2.1 r_6.2.2.2.2 _ _ _ hl_41 hW (lv_sub hl [1, 2, 3, 0] rfl)
      · have hf := it_f c_5 hf
        refine lv_bipush (v := -2) hx hb dX6_judge_24 (by decide) ?_
        exact hE _ _ _ _ _ ((-2 : Int32), p0_trial_places, p0_trial_wool, p0_trial_sworn, p0_trial_worth, p0_trial_day) (sm hf) hW rfl dX6_judge_26
def f_X2_add (v1 : Int32) (v2 : Int32) (v3 : Int32) (p0_length : Int32) (p0_places : Nat → Int32) (p0_wools : Nat → Int32) (p0_answers : Nat → Int32) : Option (Int32 × Int32 × (Nat → Int32) × (Nat → Int32) × (Nat → Int32)) := (f_X6_put 6 p0_length v1 p0_places).bind fun r_1 => (f_X6_put 6 p0_length v2 p0_wools).bind fun r_2 => (f_X6_put 6 p0_length v3 p0_answers).bind fun r_3 => (some (p0_length + (1 : Int32))).bind fun w_4 => some (w_4, w_4, r_1, r_2, r_3)
set_option maxHeartbeats 4000000 in
set_option maxRecDepth 100000 in
theorem c_X2_add (l : Launch) (D : va_G) (cI cZ : ClassId) (a_p0 a_p0_places a_p0_wools a_p0_answers : Nat) (p0_length : Int32) (p0_places : Nat → Int32) (p0_wools : Nat → Int32) (p0_answers : Nat → Int32) (v1 : Int32) (v2 : Int32) (v3 : Int32) (q : Int32 × Int32 × (Nat → Int32) × (Nat → Int32) × (Nat → Int32)) (hf : f_X2_add v1 v2 v3 p0_length p0_places p0_wools p0_answers = some q) : CtI l D cI cZ yX2_add wsX2_add 1 22 [.ref a_p0, .int v1, .int v2, .int v3] [(a_p0, .inr (2, [.ref a_p0_places, .ref a_p0_wools, .ref a_p0_answers, .int p0_length])), (a_p0_places, .inl (cI, 6, .inl p0_places)), (a_p0_wools, .inl (cI, 6, .inl p0_wools)), (a_p0_answers, .inl (cI, 6, .inl p0_answers))] (fun q => [(a_p0, .inr (2, [.ref a_p0_places, .ref a_p0_wools, .ref a_p0_answers, .int q.2.1])), (a_p0_places, .inl (cI, 6, .inl q.2.2.1)), (a_p0_wools, .inl (cI, 6, .inl q.2.2.2.1)), (a_p0_answers, .inl (cI, 6, .inl q.2.2.2.2))]) (fun q => q.1) q := by
  refine CtI.of (cc := cX2_add) (maxL := 4) (plainFor_of_name (by decide)) rfl (Nat.le_of_ble_eq_true rfl) ?_
  intro p e s m args below meth c A Q H ls hB hE hW hl
  have hx := hB.1
  have hb := hB.2.1
  have hml := hB.2.2.2.1
  have hown : s.vm.findClass RX2 = some m.cls := hB.2.2.2.2.1
  have hts := hB.2.2.2.2.2.1
  have hK := hB.2.2.2.2.2.2.2.1.1
  have hl : lv_has ls 4 [(0, .ref a_p0), (1, .int v1), (2, .int v2), (3, .int v3)] := hl
  have in_X2 : ∀ w ∈ wsX20, w ∈ wsX2_add := fun w h => List.mem_cons_of_mem _ (List.mem_append_right _ h)
  have fl_9 : (Cond.fieldLink RX2 9 (TX2 0).1 (TX2 0).2.1 (TX2 0).2.2.1).before args s = true := hts (.fieldLink RX2 9 "ClapOaths$Heard" "places" "[I") (by decide +kernel)
  have fl_15 : (Cond.fieldLink RX2 15 (TX2 1).1 (TX2 1).2.1 (TX2 1).2.2.1).before args s = true := hts (.fieldLink RX2 15 "ClapOaths$Heard" "wools" "[I") (by decide +kernel)
  have fl_18 : (Cond.fieldLink RX2 18 (TX2 2).1 (TX2 2).2.1 (TX2 2).2.2.1).before args s = true := hts (.fieldLink RX2 18 "ClapOaths$Heard" "answers" "[I") (by decide +kernel)
  have fl_21 : (Cond.fieldLink RX2 21 (TX2 3).1 (TX2 3).2.1 (TX2 3).2.2.1).before args s = true := hts (.fieldLink RX2 21 "ClapOaths$Heard" "length" "I") (by decide +kernel)
  unfold f_X2_add at hf
  refine lv_aload_n hx hb dX2_add_0 rfl (lv_at hl 0 rfl) ?_
  refine q_get hB hW 2 in_X2 0 rfl rfl 0 (by decide) fl_9 (v := .ref a_p0_places) rfl dX2_add_1 ?_
  refine lv_aload_n hx hb dX2_add_4 rfl (lv_at hl 0 rfl) ?_
  refine q_get hB hW 2 in_X2 0 rfl rfl 3 (by decide) fl_21 (v := .int p0_length) rfl dX2_add_5 ?_
  refine lv_iload_n hx hb dX2_add_8 rfl (lv_at hl 1 rfl) ?_
  obtain ⟨r_1, hr_1, hf⟩ := bnd hf
  refine q_callNV hB hW (As := [.ref a_p0_places, .int p0_length, .int v1]) (rest := []) (ws' := [(a_p0, .inr (2, [.ref a_p0_places, .ref a_p0_wools, .ref a_p0_answers, .int p0_length])), (a_p0_places, .inl (cI, 6, .inl r_1)), (a_p0_wools, .inl (cI, 6, .inl p0_wools)), (a_p0_answers, .inl (cI, 6, .inl p0_answers))]) (c_X6_put l D cI cZ a_p0_places 6 p0_places p0_length v1 r_1 hr_1) ⟨va_cnB 3 hts gX2_add_X6_put_n25 rfl rfl rfl (hB.2.2.2.2.2.2.2.1.2 (RX2, 25, yX6_put, RX6) (by decide +kernel)) (hts (.initialized RX6) (by decide +kernel)) (by decide +kernel) ⟨Nat.le_of_ble_eq_true rfl, Nat.le_of_ble_eq_true rfl⟩, hts (.static yX6_put) (by decide +kernel), trivial⟩ [1] rfl rfl rfl rfl rfl hl.1 rfl (Nat.le_of_ble_eq_true rfl) ⟨Nat.le_of_ble_eq_true rfl, Nat.le_of_ble_eq_true rfl⟩ dX2_add_9 (fun H locs hW => ?_)
  refine lv_aload_n hx hb dX2_add_12 rfl (lv_at hl 0 rfl) ?_
  refine q_get hB hW 2 in_X2 0 rfl rfl 1 (by decide) fl_15 (v := .ref a_p0_wools) rfl dX2_add_13 ?_
  refine lv_aload_n hx hb dX2_add_16 rfl (lv_at hl 0 rfl) ?_
  refine q_get hB hW 2 in_X2 0 rfl rfl 3 (by decide) fl_21 (v := .int p0_length) rfl dX2_add_17 ?_
  refine lv_iload_n hx hb dX2_add_20 rfl (lv_at hl 2 rfl) ?_
  obtain ⟨r_2, hr_2, hf⟩ := bnd hf
  refine q_callNV hB hW (As := [.ref a_p0_wools, .int p0_length, .int v2]) (rest := []) (ws' := [(a_p0, .inr (2, [.ref a_p0_places, .ref a_p0_wools, .ref a_p0_answers, .int p0_length])), (a_p0_places, .inl (cI, 6, .inl r_1)), (a_p0_wools, .inl (cI, 6, .inl r_2)), (a_p0_answers, .inl (cI, 6, .inl p0_answers))]) (c_X6_put l D cI cZ a_p0_wools 6 p0_wools p0_length v2 r_2 hr_2) ⟨va_cnB 3 hts gX2_add_X6_put_n25 rfl rfl rfl (hB.2.2.2.2.2.2.2.1.2 (RX2, 25, yX6_put, RX6) (by decide +kernel)) (hts (.initialized RX6) (by decide +kernel)) (by decide +kernel) ⟨Nat.le_of_ble_eq_true rfl, Nat.le_of_ble_eq_true rfl⟩, hts (.static yX6_put) (by decide +kernel), trivial⟩ [2] rfl rfl rfl rfl rfl hl.1 rfl (Nat.le_of_ble_eq_true rfl) ⟨Nat.le_of_ble_eq_true rfl, Nat.le_of_ble_eq_true rfl⟩ dX2_add_21 (fun H locs hW => ?_)
  refine lv_aload_n hx hb dX2_add_24 rfl (lv_at hl 0 rfl) ?_
  refine q_get hB hW 2 in_X2 0 rfl rfl 2 (by decide) fl_18 (v := .ref a_p0_answers) rfl dX2_add_25 ?_
  refine lv_aload_n hx hb dX2_add_28 rfl (lv_at hl 0 rfl) ?_
  refine q_get hB hW 2 in_X2 0 rfl rfl 3 (by decide) fl_21 (v := .int p0_length) rfl dX2_add_29 ?_
  refine lv_iload_n hx hb dX2_add_32 rfl (lv_at hl 3 rfl) ?_
  obtain ⟨r_3, hr_3, hf⟩ := bnd hf
  refine q_callNV hB hW (As := [.ref a_p0_answers, .int p0_length, .int v3]) (rest := []) (ws' := [(a_p0, .inr (2, [.ref a_p0_places, .ref a_p0_wools, .ref a_p0_answers, .int p0_length])), (a_p0_places, .inl (cI, 6, .inl r_1)), (a_p0_wools, .inl (cI, 6, .inl r_2)), (a_p0_answers, .inl (cI, 6, .inl r_3))]) (c_X6_put l D cI cZ a_p0_answers 6 p0_answers p0_length v3 r_3 hr_3) ⟨va_cnB 3 hts gX2_add_X6_put_n25 rfl rfl rfl (hB.2.2.2.2.2.2.2.1.2 (RX2, 25, yX6_put, RX6) (by decide +kernel)) (hts (.initialized RX6) (by decide +kernel)) (by decide +kernel) ⟨Nat.le_of_ble_eq_true rfl, Nat.le_of_ble_eq_true rfl⟩, hts (.static yX6_put) (by decide +kernel), trivial⟩ [3] rfl rfl rfl rfl rfl hl.1 rfl (Nat.le_of_ble_eq_true rfl) ⟨Nat.le_of_ble_eq_true rfl, Nat.le_of_ble_eq_true rfl⟩ dX2_add_33 (fun H locs hW => ?_)
  refine lv_aload_n hx hb dX2_add_36 rfl (lv_at hl 0 rfl) ?_
  refine lv_dup hx hb dX2_add_37 rfl ?_
  refine q_get hB hW 2 in_X2 0 rfl rfl 3 (by decide) fl_21 (v := .int p0_length) rfl dX2_add_38 ?_
  refine lv_iconst (v := 1) hx hb dX2_add_41 (by decide) ?_
  refine lv_iadd hx hb dX2_add_42 ?_
  obtain ⟨w_4, hw_4, hf⟩ := bnd hf
  refine q_nmI hw_4 ?_
  refine q_put hB hW 2 in_X2 tyX2 tyX2_ok nmX2 0 rfl rfl 3 (by decide) fl_21 rfl (by first | rfl | decide) (by first | rfl | decide) (Nat.le_of_ble_eq_true rfl) (ws' := [(a_p0, .inr (2, [.ref a_p0_places, .ref a_p0_wools, .ref a_p0_answers, .int w_4])), (a_p0_places, .inl (cI, 6, .inl r_1)), (a_p0_wools, .inl (cI, 6, .inl r_2)), (a_p0_answers, .inl (cI, 6, .inl r_3))]) rfl dX2_add_43 (fun H locs hW => ?_)
  refine lv_aload_n hx hb dX2_add_46 rfl (lv_at hl 0 rfl) ?_
  refine q_get hB hW 2 in_X2 0 rfl rfl 3 (by decide) fl_21 (v := .int w_4) rfl dX2_add_47 ?_
  exact hE _ _ _ _ _ (w_4, w_4, r_1, r_2, r_3) (sm hf) hW rfl dX2_add_50
def f_X6_hear (v1 : Int32) (v2 : Int32) (v3 : Int32) (p0_hearings_length : Int32) (p0_hearings_places : Nat → Int32) (p0_hearings_wools : Nat → Int32) (p0_hearings_answers : Nat → Int32) : Option (Int32 × Int32 × (Nat → Int32) × (Nat → Int32) × (Nat → Int32)) := (f_X6_isPlace v1).bind fun r_1 => if r_1 = (0 : Int32) then some ((-1 : Int32), p0_hearings_length, p0_hearings_places, p0_hearings_wools, p0_hearings_answers) else (f_X6_within v2 (0 : Int32) (1 : Int32)).bind fun r_3 => if r_3 = (0 : Int32) then some ((-2 : Int32), p0_hearings_length, p0_hearings_places, p0_hearings_wools, p0_hearings_answers) else (f_X6_within v3 (0 : Int32) (1 : Int32)).bind fun r_5 => if r_5 = (0 : Int32) then some ((-2 : Int32), p0_hearings_length, p0_hearings_places, p0_hearings_wools, p0_hearings_answers) else if p0_hearings_length < (6 : Int32) then (f_X2_add v1 v2 v3 p0_hearings_length p0_hearings_places p0_hearings_wools p0_hearings_answers).bind fun r_8 => some (r_8.1, r_8.2.1, r_8.2.2.1, r_8.2.2.2.1, r_8.2.2.2.2) else some ((-4 : Int32), p0_hearings_length, p0_hearings_places, p0_hearings_wools, p0_hearings_answers)
set_option maxHeartbeats 4000000 in
set_option maxRecDepth 100000 in
theorem c_X6_hear (l : Launch) (D : va_G) (cI cZ : ClassId) (a_p0 a_p0_text a_p0_reader a_p0_draft a_p0_land a_p0_now a_p0_trial a_p0_acts a_p0_hearings a_p0_kept a_p0_hearings_places a_p0_hearings_wools a_p0_hearings_answers : Nat) (p0_keptSlots : Int32) (p0_seedNow : Int64) (p0_hearings_length : Int32) (p0_hearings_places : Nat → Int32) (p0_hearings_wools : Nat → Int32) (p0_hearings_answers : Nat → Int32) (v1 : Int32) (v2 : Int32) (v3 : Int32) (q : Int32 × Int32 × (Nat → Int32) × (Nat → Int32) × (Nat → Int32)) (hf : f_X6_hear v1 v2 v3 p0_hearings_length p0_hearings_places p0_hearings_wools p0_hearings_answers = some q) : CtI l D cI cZ yX6_hear wsX6_hear 2 45 [.ref a_p0, .int v1, .int v2, .int v3] [(a_p0, .inr (6, [.ref a_p0_text, .ref a_p0_reader, .ref a_p0_draft, .ref a_p0_land, .ref a_p0_now, .ref a_p0_trial, .ref a_p0_acts, .ref a_p0_hearings, .ref a_p0_kept, .int p0_keptSlots, .long p0_seedNow])), (a_p0_hearings, .inr (2, [.ref a_p0_hearings_places, .ref a_p0_hearings_wools, .ref a_p0_hearings_answers, .int p0_hearings_length])), (a_p0_hearings_places, .inl (cI, 6, .inl p0_hearings_places)), (a_p0_hearings_wools, .inl (cI, 6, .inl p0_hearings_wools)), (a_p0_hearings_answers, .inl (cI, 6, .inl p0_hearings_answers))] (fun q => [(a_p0, .inr (6, [.ref a_p0_text, .ref a_p0_reader, .ref a_p0_draft, .ref a_p0_land, .ref a_p0_now, .ref a_p0_trial, .ref a_p0_acts, .ref a_p0_hearings, .ref a_p0_kept, .int p0_keptSlots, .long p0_seedNow])), (a_p0_hearings, .inr (2, [.ref a_p0_hearings_places, .ref a_p0_hearings_wools, .ref a_p0_hearings_answers, .int q.2.1])), (a_p0_hearings_places, .inl (cI, 6, .inl q.2.2.1)), (a_p0_hearings_wools, .inl (cI, 6, .inl q.2.2.2.1)), (a_p0_hearings_answers, .inl (cI, 6, .inl q.2.2.2.2))]) (fun q => q.1) q := by
  refine CtI.of (cc := cX6_hear) (maxL := 4) (plainFor_of_name (by decide)) rfl (Nat.le_of_ble_eq_true rfl) ?_
  intro p e s m args below meth c A Q H ls hB hE hW hl
  have hx := hB.1
  have hb := hB.2.1
  have hml := hB.2.2.2.1
  have hown : s.vm.findClass RX6 = some m.cls := hB.2.2.2.2.1
  have hts := hB.2.2.2.2.2.1
  have hK := hB.2.2.2.2.2.2.2.1.1
  have hl : lv_has ls 4 [(0, .ref a_p0), (1, .int v1), (2, .int v2), (3, .int v3)] := hl
  have in_X2 : ∀ w ∈ wsX20, w ∈ wsX6_hear := fun w h => List.mem_cons_of_mem _ (List.mem_append_right _ h)
  have in_X6 : ∀ w ∈ wsX60, w ∈ wsX6_hear := fun w h => List.mem_cons_of_mem _ (List.mem_append_left _ (List.mem_append_right _ h))
  have fl_57 : (Cond.fieldLink RX6 57 (TX6 7).1 (TX6 7).2.1 (TX6 7).2.2.1).before args s = true := hts (.fieldLink RX6 57 "ClapOaths" "hearings" "LClapOaths$Heard;") (by decide +kernel)
  have fl_210 : (Cond.fieldLink RX6 210 (TX2 3).1 (TX2 3).2.1 (TX2 3).2.2.1).before args s = true := hts (.fieldLink RX6 210 "ClapOaths$Heard" "length" "I") (by decide +kernel)
  unfold f_X6_hear at hf
  refine lv_iload_n hx hb dX6_hear_0 rfl (lv_at hl 1 rfl) ?_
  obtain ⟨r_1, hr_1, hf⟩ := bnd hf
  refine q_callSZ hB hW (As := [.int v1]) (rest := []) (ws' := [(a_p0, .inr (6, [.ref a_p0_text, .ref a_p0_reader, .ref a_p0_draft, .ref a_p0_land, .ref a_p0_now, .ref a_p0_trial, .ref a_p0_acts, .ref a_p0_hearings, .ref a_p0_kept, .int p0_keptSlots, .long p0_seedNow])), (a_p0_hearings, .inr (2, [.ref a_p0_hearings_places, .ref a_p0_hearings_wools, .ref a_p0_hearings_answers, .int p0_hearings_length])), (a_p0_hearings_places, .inl (cI, 6, .inl p0_hearings_places)), (a_p0_hearings_wools, .inl (cI, 6, .inl p0_hearings_wools)), (a_p0_hearings_answers, .inl (cI, 6, .inl p0_hearings_answers))]) (c_X6_isPlace l D cI cZ v1 r_1 hr_1) (va_cwS 1 hts gX6_hear_X6_isPlace rfl rfl rfl (by decide +kernel) ⟨Nat.le_of_ble_eq_true rfl, Nat.le_of_ble_eq_true rfl⟩) [] rfl rfl rfl rfl rfl hl.1 rfl (Nat.le_of_ble_eq_true rfl) ⟨Nat.le_of_ble_eq_true rfl, Nat.le_of_ble_eq_true rfl⟩ dX6_hear_1 (fun hzr_1 H locs hW => ?_)
  refine lv_if_ne (tgt := 9) hx hb dX6_hear_4 (by decide) (fun c_2 => ?_) (fun c_2 => ?_)
  · have hf := it_f c_2 hf
    refine lv_iload_n hx hb dX6_hear_9 rfl (lv_at hl 2 rfl) ?_
    refine lv_iconst (v := 0) hx hb dX6_hear_10 (by decide) ?_
    refine lv_iconst (v := 1) hx hb dX6_hear_11 (by decide) ?_
    obtain ⟨r_3, hr_3, hf⟩ := bnd hf
    refine q_callSZ hB hW (As := [.int v2, .int (0 : Int32), .int (1 : Int32)]) (rest := []) (ws' := [(a_p0, .inr (6, [.ref a_p0_text, .ref a_p0_reader, .ref a_p0_draft, .ref a_p0_land, .ref a_p0_now, .ref a_p0_trial, .ref a_p0_acts, .ref a_p0_hearings, .ref a_p0_kept, .int p0_keptSlots, .long p0_seedNow])), (a_p0_hearings, .inr (2, [.ref a_p0_hearings_places, .ref a_p0_hearings_wools, .ref a_p0_hearings_answers, .int p0_hearings_length])), (a_p0_hearings_places, .inl (cI, 6, .inl p0_hearings_places)), (a_p0_hearings_wools, .inl (cI, 6, .inl p0_hearings_wools)), (a_p0_hearings_answers, .inl (cI, 6, .inl p0_hearings_answers))]) (c_X6_within l D cI cZ v2 (0 : Int32) (1 : Int32) r_3 hr_3) (va_cwS 3 hts gX6_hear_X6_within rfl rfl rfl (by decide +kernel) ⟨Nat.le_of_ble_eq_true rfl, Nat.le_of_ble_eq_true rfl⟩) [] rfl rfl rfl rfl rfl hl.1 rfl (Nat.le_of_ble_eq_true rfl) ⟨Nat.le_of_ble_eq_true rfl, Nat.le_of_ble_eq_true rfl⟩ dX6_hear_12 (fun hzr_3 H locs hW => ?_)
    refine lv_if_eq (tgt := 27) hx hb dX6_hear_15 (by decide) (fun c_4 => ?_) (fun c_4 => ?_)
    · have hf := it_t c_4 hf
      refine lv_bipush (v := -2) hx hb dX6_hear_27 (by decide) ?_
      exact hE _ _ _ _ _ ((-2 : Int32), p0_hearings_length, p0_hearings_places, p0_hearings_wools, p0_hearings_answers) (sm hf) hW rfl dX6_hear_29
    · have hf := it_f c_4 hf
      refine lv_iload_n hx hb dX6_hear_18 rfl (lv_at hl 3 rfl) ?_
      refine lv_iconst (v := 0) hx hb dX6_hear_19 (by decide) ?_
      refine lv_iconst (v := 1) hx hb dX6_hear_20 (by decide) ?_
      obtain ⟨r_5, hr_5, hf⟩ := bnd hf
      refine q_callSZ hB hW (As := [.int v3, .int (0 : Int32), .int (1 : Int32)]) (rest := []) (ws' := [(a_p0, .inr (6, [.ref a_p0_text, .ref a_p0_reader, .ref a_p0_draft, .ref a_p0_land, .ref a_p0_now, .ref a_p0_trial, .ref a_p0_acts, .ref a_p0_hearings, .ref a_p0_kept, .int p0_keptSlots, .long p0_seedNow])), (a_p0_hearings, .inr (2, [.ref a_p0_hearings_places, .ref a_p0_hearings_wools, .ref a_p0_hearings_answers, .int p0_hearings_length])), (a_p0_hearings_places, .inl (cI, 6, .inl p0_hearings_places)), (a_p0_hearings_wools, .inl (cI, 6, .inl p0_hearings_wools)), (a_p0_hearings_answers, .inl (cI, 6, .inl p0_hearings_answers))]) (c_X6_within l D cI cZ v3 (0 : Int32) (1 : Int32) r_5 hr_5) (va_cwS 3 hts gX6_hear_X6_within rfl rfl rfl (by decide +kernel) ⟨Nat.le_of_ble_eq_true rfl, Nat.le_of_ble_eq_true rfl⟩) [] rfl rfl rfl rfl rfl hl.1 rfl (Nat.le_of_ble_eq_true rfl) ⟨Nat.le_of_ble_eq_true rfl, Nat.le_of_ble_eq_true rfl⟩ dX6_hear_21 (fun hzr_5 H locs hW => ?_)
      refine lv_if_ne (tgt := 30) hx hb dX6_hear_24 (by decide) (fun c_6 => ?_) (fun c_6 => ?_)
      · have hf := it_f c_6 hf
        refine lv_aload_n hx hb dX6_hear_30 rfl (lv_at hl 0 rfl) ?_
        refine q_get hB hW 6 in_X6 0 rfl rfl 7 (by decide) fl_57 (v := .ref a_p0_hearings) rfl dX6_hear_31 ?_
        refine q_get hB hW 2 in_X2 1 rfl rfl 3 (by decide) fl_210 (v := .int p0_hearings_length) rfl dX6_hear_34 ?_
        refine lv_bipush (v := 6) hx hb dX6_hear_37 (by decide) ?_
        refine lv_icmp_lt (tgt := 45) hx hb dX6_hear_39 (by decide) (fun c_7 => ?_) (fun c_7 => ?_)
        · have hf := it_t c_7 hf
          refine lv_aload_n hx hb dX6_hear_45 rfl (lv_at hl 0 rfl) ?_
          refine q_get hB hW 6 in_X6 0 rfl rfl 7 (by decide) fl_57 (v := .ref a_p0_hearings) rfl dX6_hear_46 ?_
          refine lv_iload_n hx hb dX6_hear_49 rfl (lv_at hl 1 rfl) ?_
          refine lv_iload_n hx hb dX6_hear_50 rfl (lv_at hl 2 rfl) ?_
          refine lv_iload_n hx hb dX6_hear_51 rfl (lv_at hl 3 rfl) ?_
          obtain ⟨r_8, hr_8, hf⟩ := bnd hf
          refine q_callVI hB hW (ci := 2) (q0 := 0) rfl rfl rfl (As := [.int v1, .int v2, .int v3]) (rest := []) (ws' := [(a_p0, .inr (6, [.ref a_p0_text, .ref a_p0_reader, .ref a_p0_draft, .ref a_p0_land, .ref a_p0_now, .ref a_p0_trial, .ref a_p0_acts, .ref a_p0_hearings, .ref a_p0_kept, .int p0_keptSlots, .long p0_seedNow])), (a_p0_hearings, .inr (2, [.ref a_p0_hearings_places, .ref a_p0_hearings_wools, .ref a_p0_hearings_answers, .int r_8.2.1])), (a_p0_hearings_places, .inl (cI, 6, .inl r_8.2.2.1)), (a_p0_hearings_wools, .inl (cI, 6, .inl r_8.2.2.2.1)), (a_p0_hearings_answers, .inl (cI, 6, .inl r_8.2.2.2.2))]) (c_X2_add l D cI cZ a_p0_hearings a_p0_hearings_places a_p0_hearings_wools a_p0_hearings_answers p0_hearings_length p0_hearings_places p0_hearings_wools p0_hearings_answers v1 v2 v3 r_8 hr_8) (cwV 3 hts gX6_hear_X2_add rfl rfl rfl (by decide +kernel) ⟨Nat.le_of_ble_eq_true rfl, Nat.le_of_ble_eq_true rfl⟩) [1, 2, 3, 4] rfl rfl rfl rfl rfl hl.1 rfl (Nat.le_of_ble_eq_true rfl) ⟨Nat.le_of_ble_eq_true rfl, Nat.le_of_ble_eq_true rfl⟩ dX6_hear_52 (fun H locs hW => ?_)
          exact hE _ _ _ _ _ (r_8.1, r_8.2.1, r_8.2.2.1, r_8.2.2.2.1, r_8.2.2.2.2) (sm hf) hW rfl dX6_hear_55
        · have hf := it_f c_7 hf
          refine lv_bipush (v := -4) hx hb dX6_hear_42 (by decide) ?_
          exact hE _ _ _ _ _ ((-4 : Int32), p0_hearings_length, p0_hearings_places, p0_hearings_wools, p0_hearings_answers) (sm hf) hW rfl dX6_hear_44
      · have hf := it_t c_6 hf
        refine lv_bipush (v := -2) hx hb dX6_hear_27 (by decide) ?_
        exact hE _ _ _ _ _ ((-2 : Int32), p0_hearings_length, p0_hearings_places, p0_hearings_wools, p0_hearings_answers) (sm hf) hW rfl dX6_hear_29
  · have hf := it_t c_2 hf
    refine lv_iconst (v := -1) hx hb dX6_hear_7 (by decide) ?_
    exact hE _ _ _ _ _ ((-1 : Int32), p0_hearings_length, p0_hearings_places, p0_hearings_wools, p0_hearings_answers) (sm hf) hW rfl dX6_hear_8
def f_X6_unhear (p0_hearings_length : Int32) : Option (Int32 × Int32) := some (p0_hearings_length, (0 : Int32))
set_option maxHeartbeats 4000000 in
set_option maxRecDepth 100000 in
theorem c_X6_unhear (l : Launch) (D : va_G) (cI cZ : ClassId) (a_p0 a_p0_text a_p0_reader a_p0_draft a_p0_land a_p0_now a_p0_trial a_p0_acts a_p0_hearings a_p0_kept a_p0_hearings_places a_p0_hearings_wools a_p0_hearings_answers : Nat) (p0_keptSlots : Int32) (p0_seedNow : Int64) (p0_hearings_length : Int32) (q : Int32 × Int32) (hf : f_X6_unhear p0_hearings_length = some q) : CtI l D cI cZ yX6_unhear wsX6_unhear 0 0 [.ref a_p0] [(a_p0, .inr (6, [.ref a_p0_text, .ref a_p0_reader, .ref a_p0_draft, .ref a_p0_land, .ref a_p0_now, .ref a_p0_trial, .ref a_p0_acts, .ref a_p0_hearings, .ref a_p0_kept, .int p0_keptSlots, .long p0_seedNow])), (a_p0_hearings, .inr (2, [.ref a_p0_hearings_places, .ref a_p0_hearings_wools, .ref a_p0_hearings_answers, .int p0_hearings_length]))] (fun q => [(a_p0, .inr (6, [.ref a_p0_text, .ref a_p0_reader, .ref a_p0_draft, .ref a_p0_land, .ref a_p0_now, .ref a_p0_trial, .ref a_p0_acts, .ref a_p0_hearings, .ref a_p0_kept, .int p0_keptSlots, .long p0_seedNow])), (a_p0_hearings, .inr (2, [.ref a_p0_hearings_places, .ref a_p0_hearings_wools, .ref a_p0_hearings_answers, .int q.2]))]) (fun q => q.1) q := by
  refine CtI.of (cc := cX6_unhear) (maxL := 2) (plainFor_of_name (by decide)) rfl (Nat.le_of_ble_eq_true rfl) ?_
  intro p e s m args below meth c A Q H ls hB hE hW hl
  have hx := hB.1
  have hb := hB.2.1
  have hml := hB.2.2.2.1
  have hown : s.vm.findClass RX6 = some m.cls := hB.2.2.2.2.1
  have hts := hB.2.2.2.2.2.1
  have hK := hB.2.2.2.2.2.2.2.1.1
  have hl : lv_has ls 2 [(0, .ref a_p0)] := hl
  have in_X2 : ∀ w ∈ wsX20, w ∈ wsX6_unhear := fun w h => List.mem_cons_of_mem _ (List.mem_append_right _ h)
  have in_X6 : ∀ w ∈ wsX60, w ∈ wsX6_unhear := fun w h => List.mem_cons_of_mem _ (List.mem_append_left _ (List.mem_append_right _ h))
  have fl_57 : (Cond.fieldLink RX6 57 (TX6 7).1 (TX6 7).2.1 (TX6 7).2.2.1).before args s = true := hts (.fieldLink RX6 57 "ClapOaths" "hearings" "LClapOaths$Heard;") (by decide +kernel)
  have fl_210 : (Cond.fieldLink RX6 210 (TX2 3).1 (TX2 3).2.1 (TX2 3).2.2.1).before args s = true := hts (.fieldLink RX6 210 "ClapOaths$Heard" "length" "I") (by decide +kernel)
  unfold f_X6_unhear at hf
  refine lv_aload_n hx hb dX6_unhear_0 rfl (lv_at hl 0 rfl) ?_
  refine q_get hB hW 6 in_X6 0 rfl rfl 7 (by decide) fl_57 (v := .ref a_p0_hearings) rfl dX6_unhear_1 ?_
  refine q_get hB hW 2 in_X2 1 rfl rfl 3 (by decide) fl_210 (v := .int p0_hearings_length) rfl dX6_unhear_4 ?_
  refine lv_istore_n (lv' := [(1, .int p0_hearings_length), (0, .ref a_p0)]) hx hb dX6_unhear_7 rfl hl (by decide) rfl (fun ls hl => ?_)
  refine lv_aload_n hx hb dX6_unhear_8 rfl (lv_at hl 1 rfl) ?_
  refine q_get hB hW 6 in_X6 0 rfl rfl 7 (by decide) fl_57 (v := .ref a_p0_hearings) rfl dX6_unhear_9 ?_
  refine lv_iconst (v := 0) hx hb dX6_unhear_12 (by decide) ?_
  refine q_put hB hW 2 in_X2 tyX2 tyX2_ok nmX2 1 rfl rfl 3 (by decide) fl_210 rfl (by first | rfl | decide) (by first | rfl | decide) (Nat.le_of_ble_eq_true rfl) (ws' := [(a_p0, .inr (6, [.ref a_p0_text, .ref a_p0_reader, .ref a_p0_draft, .ref a_p0_land, .ref a_p0_now, .ref a_p0_trial, .ref a_p0_acts, .ref a_p0_hearings, .ref a_p0_kept, .int p0_keptSlots, .long p0_seedNow])), (a_p0_hearings, .inr (2, [.ref a_p0_hearings_places, .ref a_p0_hearings_wools, .ref a_p0_hearings_answers, .int (0 : Int32)]))]) rfl dX6_unhear_13 (fun H locs hW => ?_)
  refine lv_iload_n hx hb dX6_unhear_16 rfl (lv_at hl 0 rfl) ?_
  exact hE _ _ _ _ _ (p0_hearings_length, (0 : Int32)) (sm hf) hW rfl dX6_unhear_17
def b_X2_fits_2 (v1 : Int32) (v2 : Int32) (p0_length : Int32) (p0_places : Nat → Int32) (p0_wools : Nat → Int32) (p0_answers : Nat → Int32) (v3 : Int32) : Option ((Int32) ⊕ (((Unit) ⊕ (Int32)))) := if p0_length ≤ v3 then some (.inr (.inl ())) else (f_X6_at 6 v3 p0_places).bind fun r_504 => (f_X6_at 6 v3 p0_wools).bind fun r_505 => if r_505 = (1 : Int32) then (f_X6_reaches v1 v2 r_504 (1 : Int32)).bind fun r_512 => (f_X6_at 6 v3 p0_answers).bind fun r_513 => if r_513 = (1 : Int32) then if r_512 = (1 : Int32) then some (.inl (v3 + (1 : Int32))) else some (.inr (.inr (0 : Int32))) else if r_512 = (0 : Int32) then some (.inl (v3 + (1 : Int32))) else some (.inr (.inr (0 : Int32))) else (f_X6_reaches v1 v2 r_504 (0 : Int32)).bind fun r_507 => (f_X6_at 6 v3 p0_answers).bind fun r_508 => if r_508 = (1 : Int32) then if r_507 = (1 : Int32) then some (.inl (v3 + (1 : Int32))) else some (.inr (.inr (0 : Int32))) else if r_507 = (0 : Int32) then some (.inl (v3 + (1 : Int32))) else some (.inr (.inr (0 : Int32)))
def f_X2_fits (v1 : Int32) (v2 : Int32) (p0_length : Int32) (p0_places : Nat → Int32) (p0_wools : Nat → Int32) (p0_answers : Nat → Int32) : Option (Int32) := (itr (fun s => b_X2_fits_2 v1 v2 p0_length p0_places p0_wools p0_answers s) FU (0 : Int32)).bind fun e_2 => Sum.elim (fun x_2 => some (1 : Int32)) (fun r_2 => some r_2) e_2
set_option maxHeartbeats 4000000 in
set_option maxRecDepth 100000 in
theorem c_X2_fits (l : Launch) (D : va_G) (cI cZ : ClassId) (a_p0 a_p0_places a_p0_wools a_p0_answers : Nat) (p0_length : Int32) (p0_places : Nat → Int32) (p0_wools : Nat → Int32) (p0_answers : Nat → Int32) (v1 : Int32) (v2 : Int32) (q : Int32) (hf : f_X2_fits v1 v2 p0_length p0_places p0_wools p0_answers = some q) : CtZ l D cI cZ yX2_fits wsX2_fits 1 24 [.ref a_p0, .int v1, .int v2] [(a_p0, .inr (2, [.ref a_p0_places, .ref a_p0_wools, .ref a_p0_answers, .int p0_length])), (a_p0_places, .inl (cI, 6, .inl p0_places)), (a_p0_wools, .inl (cI, 6, .inl p0_wools)), (a_p0_answers, .inl (cI, 6, .inl p0_answers))] (fun q => [(a_p0, .inr (2, [.ref a_p0_places, .ref a_p0_wools, .ref a_p0_answers, .int p0_length])), (a_p0_places, .inl (cI, 6, .inl p0_places)), (a_p0_wools, .inl (cI, 6, .inl p0_wools)), (a_p0_answers, .inl (cI, 6, .inl p0_answers))]) (fun q => q) q := by
  refine CtZ.of (cc := cX2_fits) (maxL := 5) (plainFor_of_name (by decide)) rfl (Nat.le_of_ble_eq_true rfl) ?_
  intro p e s m args below meth c A Q H ls hB hE hW hl
  have hx := hB.1
  have hb := hB.2.1
  have hml := hB.2.2.2.1
  have hown : s.vm.findClass RX2 = some m.cls := hB.2.2.2.2.1
  have hts := hB.2.2.2.2.2.1
  have hK := hB.2.2.2.2.2.2.2.1.1
  have hl : lv_has ls 5 [(0, .ref a_p0), (1, .int v1), (2, .int v2)] := hl
  have in_X2 : ∀ w ∈ wsX20, w ∈ wsX2_fits := fun w h => List.mem_cons_of_mem _ (List.mem_append_right _ h)
  have fl_9 : (Cond.fieldLink RX2 9 (TX2 0).1 (TX2 0).2.1 (TX2 0).2.2.1).before args s = true := hts (.fieldLink RX2 9 "ClapOaths$Heard" "places" "[I") (by decide +kernel)
  have fl_15 : (Cond.fieldLink RX2 15 (TX2 1).1 (TX2 1).2.1 (TX2 1).2.2.1).before args s = true := hts (.fieldLink RX2 15 "ClapOaths$Heard" "wools" "[I") (by decide +kernel)
  have fl_18 : (Cond.fieldLink RX2 18 (TX2 2).1 (TX2 2).2.1 (TX2 2).2.2.1).before args s = true := hts (.fieldLink RX2 18 "ClapOaths$Heard" "answers" "[I") (by decide +kernel)
  have fl_21 : (Cond.fieldLink RX2 21 (TX2 3).1 (TX2 3).2.1 (TX2 3).2.2.1).before args s = true := hts (.fieldLink RX2 21 "ClapOaths$Heard" "length" "I") (by decide +kernel)
  unfold f_X2_fits at hf
  refine lv_iconst (v := 0) hx hb dX2_fits_0 (by decide) ?_
  refine lv_istore_n (lv' := [(3, .int (0 : Int32)), (0, .ref a_p0), (1, .int v1), (2, .int v2)]) hx hb dX2_fits_1 rfl hl (by decide) rfl (fun ls hl => ?_)
  obtain ⟨e_2, hl_2, hk_2⟩ := bnd hf
  have K_2 : ∀ x_2 : Unit, Sum.inl x_2 = e_2 → ∀ (H : Heap) (locs : List Loc) (ls : Array Slot), Wl D A s.heap [(a_p0, .inr (2, [.ref a_p0_places, .ref a_p0_wools, .ref a_p0_answers, .int p0_length])), (a_p0_places, .inl (cI, 6, .inl p0_places)), (a_p0_wools, .inl (cI, 6, .inl p0_wools)), (a_p0_answers, .inl (cI, 6, .inl p0_answers))] H locs → lv_has ls 5 [] → W p l e (Rm 1 24) s m args below meth c H locs 0 0 Q (F0 m 72 ls []) := by
    intro x_2 hx_2 H locs ls hW hl
    have hf := s_inl hx_2 hk_2
    refine lv_iconst (v := 1) hx hb dX2_fits_72 (by decide) ?_
    exact hE _ _ _ _ _ (1 : Int32) (sm hf) hW rfl nz_1 dX2_fits_73
  have L_2 : ∀ (n : Nat) (y2_3 : Int32) (H : Heap) (locs : List Loc) (ls : Array Slot), itr (fun s => b_X2_fits_2 v1 v2 p0_length p0_places p0_wools p0_answers s) n y2_3 = some e_2 → Wl D A s.heap [(a_p0, .inr (2, [.ref a_p0_places, .ref a_p0_wools, .ref a_p0_answers, .int p0_length])), (a_p0_places, .inl (cI, 6, .inl p0_places)), (a_p0_wools, .inl (cI, 6, .inl p0_wools)), (a_p0_answers, .inl (cI, 6, .inl p0_answers))] H locs → lv_has ls 5 [(0, .ref a_p0), (1, .int v1), (2, .int v2), (3, .int y2_3)] → W p l e (Rm 1 24) s m args below meth c H locs 0 0 Q (F0 m 2 ls []) := by
    intro n
    induction n with
    | zero => intro y2_3 H locs ls h9; exact itr_0 h9
    | succ n ih =>
      intro y2_3 H locs ls hf hW hl
      obtain ⟨o_2, hf, ho_2⟩ := itr_inv hf
      have hf : b_X2_fits_2 v1 v2 p0_length p0_places p0_wools p0_answers y2_3 = some o_2 := hf
      unfold b_X2_fits_2 at hf
      refine lv_iload_n hx hb dX2_fits_2 rfl (lv_at hl 3 rfl) ?_
      refine lv_aload_n hx hb dX2_fits_3 rfl (lv_at hl 0 rfl) ?_
      refine q_get hB hW 2 in_X2 0 rfl rfl 3 (by decide) fl_21 (v := .int p0_length) rfl dX2_fits_4 ?_
      refine lv_icmp_ge (tgt := 72) hx hb dX2_fits_7 (by decide) (fun c_1 => ?_) (fun c_1 => ?_)
      · have hf := it_t c_1 hf
        have h9 := o_inr hf ho_2
        exact K_2 () h9 _ _ _ hW (lv_sub hl [] rfl)
      · have hf := it_f c_1 hf
        refine lv_iload_n hx hb dX2_fits_10 rfl (lv_at hl 1 rfl) ?_
        refine lv_iload_n hx hb dX2_fits_11 rfl (lv_at hl 2 rfl) ?_
        refine lv_aload_n hx hb dX2_fits_12 rfl (lv_at hl 0 rfl) ?_
        refine q_get hB hW 2 in_X2 0 rfl rfl 0 (by decide) fl_9 (v := .ref a_p0_places) rfl dX2_fits_13 ?_
        refine lv_iload_n hx hb dX2_fits_16 rfl (lv_at hl 3 rfl) ?_
        obtain ⟨r_2, hr_2, hf⟩ := bnd hf
        refine q_callNI hB hW (As := [.ref a_p0_places, .int y2_3]) (rest := [.int v2, .int v1]) (ws' := [(a_p0, .inr (2, [.ref a_p0_places, .ref a_p0_wools, .ref a_p0_answers, .int p0_length])), (a_p0_places, .inl (cI, 6, .inl p0_places)), (a_p0_wools, .inl (cI, 6, .inl p0_wools)), (a_p0_answers, .inl (cI, 6, .inl p0_answers))]) (c_X6_at l D cI cZ a_p0_places 6 p0_places y2_3 r_2 hr_2) ⟨va_cnB 2 hts gX2_fits_X6_at_n29 rfl rfl rfl (hB.2.2.2.2.2.2.2.1.2 (RX2, 29, yX6_at, RX6) (by decide +kernel)) (hts (.initialized RX6) (by decide +kernel)) (by decide +kernel) ⟨Nat.le_of_ble_eq_true rfl, Nat.le_of_ble_eq_true rfl⟩, hts (.static yX6_at) (by decide +kernel), trivial⟩ [1] rfl rfl rfl rfl rfl hl.1 rfl (Nat.le_of_ble_eq_true rfl) ⟨Nat.le_of_ble_eq_true rfl, Nat.le_of_ble_eq_true rfl⟩ dX2_fits_17 (fun H locs hW => ?_)
        refine lv_aload_n hx hb dX2_fits_20 rfl (lv_at hl 0 rfl) ?_
        refine q_get hB hW 2 in_X2 0 rfl rfl 1 (by decide) fl_15 (v := .ref a_p0_wools) rfl dX2_fits_21 ?_
        refine lv_iload_n hx hb dX2_fits_24 rfl (lv_at hl 3 rfl) ?_
        obtain ⟨r_3, hr_3, hf⟩ := bnd hf
        refine q_callNI hB hW (As := [.ref a_p0_wools, .int y2_3]) (rest := [.int r_2, .int v2, .int v1]) (ws' := [(a_p0, .inr (2, [.ref a_p0_places, .ref a_p0_wools, .ref a_p0_answers, .int p0_length])), (a_p0_places, .inl (cI, 6, .inl p0_places)), (a_p0_wools, .inl (cI, 6, .inl p0_wools)), (a_p0_answers, .inl (cI, 6, .inl p0_answers))]) (c_X6_at l D cI cZ a_p0_wools 6 p0_wools y2_3 r_3 hr_3) ⟨va_cnB 2 hts gX2_fits_X6_at_n29 rfl rfl rfl (hB.2.2.2.2.2.2.2.1.2 (RX2, 29, yX6_at, RX6) (by decide +kernel)) (hts (.initialized RX6) (by decide +kernel)) (by decide +kernel) ⟨Nat.le_of_ble_eq_true rfl, Nat.le_of_ble_eq_true rfl⟩, hts (.static yX6_at) (by decide +kernel), trivial⟩ [2] rfl rfl rfl rfl rfl hl.1 rfl (Nat.le_of_ble_eq_true rfl) ⟨Nat.le_of_ble_eq_true rfl, Nat.le_of_ble_eq_true rfl⟩ dX2_fits_25 (fun H locs hW => ?_)
        refine lv_iconst (v := 1) hx hb dX2_fits_28 (by decide) ?_
        refine lv_icmp_ne (tgt := 36) hx hb dX2_fits_29 (by decide) (fun c_4 => ?_) (fun c_4 => ?_)
        · have hf := it_f c_4 hf
          refine lv_iconst (v := 0) hx hb dX2_fits_36 (by decide) ?_
          obtain ⟨r_5, hr_5, hf⟩ := bnd hf
          refine q_callNZ hB hW (As := [.int v1, .int v2, .int r_2, .int (0 : Int32)]) (rest := []) (ws' := [(a_p0, .inr (2, [.ref a_p0_places, .ref a_p0_wools, .ref a_p0_answers, .int p0_length])), (a_p0_places, .inl (cI, 6, .inl p0_places)), (a_p0_wools, .inl (cI, 6, .inl p0_wools)), (a_p0_answers, .inl (cI, 6, .inl p0_answers))]) (c_X6_reaches l D cI cZ v1 v2 r_2 (0 : Int32) r_5 hr_5) ⟨va_cnB 4 hts gX2_fits_X6_reaches_n33 rfl rfl rfl (hB.2.2.2.2.2.2.2.1.2 (RX2, 33, yX6_reaches, RX6) (by decide +kernel)) (hts (.initialized RX6) (by decide +kernel)) (by decide +kernel) ⟨Nat.le_of_ble_eq_true rfl, Nat.le_of_ble_eq_true rfl⟩, hts (.static yX6_reaches) (by decide +kernel), trivial⟩ [] rfl rfl rfl rfl rfl hl.1 rfl (Nat.le_of_ble_eq_true rfl) ⟨Nat.le_of_ble_eq_true rfl, Nat.le_of_ble_eq_true rfl⟩ dX2_fits_37 (fun hzr_5 H locs hW => ?_)
          refine lv_istore (lv' := [(4, .int r_5), (0, .ref a_p0), (1, .int v1), (2, .int v2), (3, .int y2_3)]) hx hb dX2_fits_40 hl (by decide) rfl (fun ls hl => ?_)
          refine lv_iload hx hb dX2_fits_42 (lv_at hl 0 rfl) ?_
          refine lv_aload_n hx hb dX2_fits_44 rfl (lv_at hl 1 rfl) ?_
          refine q_get hB hW 2 in_X2 0 rfl rfl 2 (by decide) fl_18 (v := .ref a_p0_answers) rfl dX2_fits_45 ?_
          refine lv_iload_n hx hb dX2_fits_48 rfl (lv_at hl 4 rfl) ?_
          obtain ⟨r_6, hr_6, hf⟩ := bnd hf
          refine q_callNI hB hW (As := [.ref a_p0_answers, .int y2_3]) (rest := [.int r_5]) (ws' := [(a_p0, .inr (2, [.ref a_p0_places, .ref a_p0_wools, .ref a_p0_answers, .int p0_length])), (a_p0_places, .inl (cI, 6, .inl p0_places)), (a_p0_wools, .inl (cI, 6, .inl p0_wools)), (a_p0_answers, .inl (cI, 6, .inl p0_answers))]) (c_X6_at l D cI cZ a_p0_answers 6 p0_answers y2_3 r_6 hr_6) ⟨va_cnB 2 hts gX2_fits_X6_at_n29 rfl rfl rfl (hB.2.2.2.2.2.2.2.1.2 (RX2, 29, yX6_at, RX6) (by decide +kernel)) (hts (.initialized RX6) (by decide +kernel)) (by decide +kernel) ⟨Nat.le_of_ble_eq_true rfl, Nat.le_of_ble_eq_true rfl⟩, hts (.static yX6_at) (by decide +kernel), trivial⟩ [3] rfl rfl rfl rfl rfl hl.1 rfl (Nat.le_of_ble_eq_true rfl) ⟨Nat.le_of_ble_eq_true rfl, Nat.le_of_ble_eq_true rfl⟩ dX2_fits_49 (fun H locs hW => ?_)
          refine lv_iconst (v := 1) hx hb dX2_fits_52 (by decide) ?_
          refine lv_icmp_ne (tgt := 60) hx hb dX2_fits_53 (by decide) (fun c_7 => ?_) (fun c_7 => ?_)
          · have hf := it_f c_7 hf
            refine lv_iconst (v := 0) hx hb dX2_fits_60 (by decide) ?_
            refine lv_icmp_eq (tgt := 66) hx hb dX2_fits_61 (by decide) (fun c_8 => ?_) (fun c_8 => ?_)
            · have hf := it_t c_8 hf
              refine lv_iinc (v := (y2_3 + (1 : Int32))) (lv' := [(3, .int (y2_3 + (1 : Int32))), (4, .int r_5), (0, .ref a_p0), (1, .int v1), (2, .int v2)]) hx hb dX2_fits_66 hl (k := 4) rfl rfl (by decide) rfl (fun ls hl => ?_)
              refine lv_goto (tgt := 2) hx hb dX2_fits_69 (by decide) ?_
              have h9 := o_inl hf ho_2
              exact ih (y2_3 + (1 : Int32)) _ _ _ h9 hW (lv_sub hl [2, 3, 4, 0] rfl)
            · have hf := it_f c_8 hf
              refine lv_iconst (v := 0) hx hb dX2_fits_64 (by decide) ?_
              have h9 := o_inr hf ho_2
              have h9 := s_inr h9 hk_2
              exact hE _ _ _ _ _ (0 : Int32) (sm h9) hW rfl nz_0 dX2_fits_65
          · have hf := it_t c_7 hf
            refine lv_iconst (v := 1) hx hb dX2_fits_56 (by decide) ?_
            refine lv_goto (tgt := 61) hx hb dX2_fits_57 (by decide) ?_
            refine lv_icmp_eq (tgt := 66) hx hb dX2_fits_61 (by decide) (fun c_9 => ?_) (fun c_9 => ?_)
            · have hf := it_t c_9 hf
              refine lv_iinc (v := (y2_3 + (1 : Int32))) (lv' := [(3, .int (y2_3 + (1 : Int32))), (4, .int r_5), (0, .ref a_p0), (1, .int v1), (2, .int v2)]) hx hb dX2_fits_66 hl (k := 4) rfl rfl (by decide) rfl (fun ls hl => ?_)
              refine lv_goto (tgt := 2) hx hb dX2_fits_69 (by decide) ?_
              have h9 := o_inl hf ho_2
              exact ih (y2_3 + (1 : Int32)) _ _ _ h9 hW (lv_sub hl [2, 3, 4, 0] rfl)
            · have hf := it_f c_9 hf
              refine lv_iconst (v := 0) hx hb dX2_fits_64 (by decide) ?_
              have h9 := o_inr hf ho_2
              have h9 := s_inr h9 hk_2
              exact hE _ _ _ _ _ (0 : Int32) (sm h9) hW rfl nz_0 dX2_fits_65
        · have hf := it_t c_4 hf
          refine lv_iconst (v := 1) hx hb dX2_fits_32 (by decide) ?_
          refine lv_goto (tgt := 37) hx hb dX2_fits_33 (by decide) ?_
          obtain ⟨r_10, hr_10, hf⟩ := bnd hf
          refine q_callNZ hB hW (As := [.int v1, .int v2, .int r_2, .int (1 : Int32)]) (rest := []) (ws' := [(a_p0, .inr (2, [.ref a_p0_places, .ref a_p0_wools, .ref a_p0_answers, .int p0_length])), (a_p0_places, .inl (cI, 6, .inl p0_places)), (a_p0_wools, .inl (cI, 6, .inl p0_wools)), (a_p0_answers, .inl (cI, 6, .inl p0_answers))]) (c_X6_reaches l D cI cZ v1 v2 r_2 (1 : Int32) r_10 hr_10) ⟨va_cnB 4 hts gX2_fits_X6_reaches_n33 rfl rfl rfl (hB.2.2.2.2.2.2.2.1.2 (RX2, 33, yX6_reaches, RX6) (by decide +kernel)) (hts (.initialized RX6) (by decide +kernel)) (by decide +kernel) ⟨Nat.le_of_ble_eq_true rfl, Nat.le_of_ble_eq_true rfl⟩, hts (.static yX6_reaches) (by decide +kernel), trivial⟩ [] rfl rfl rfl rfl rfl hl.1 rfl (Nat.le_of_ble_eq_true rfl) ⟨Nat.le_of_ble_eq_true rfl, Nat.le_of_ble_eq_true rfl⟩ dX2_fits_37 (fun hzr_10 H locs hW => ?_)
          refine lv_istore (lv' := [(4, .int r_10), (0, .ref a_p0), (1, .int v1), (2, .int v2), (3, .int y2_3)]) hx hb dX2_fits_40 hl (by decide) rfl (fun ls hl => ?_)
          refine lv_iload hx hb dX2_fits_42 (lv_at hl 0 rfl) ?_
          refine lv_aload_n hx hb dX2_fits_44 rfl (lv_at hl 1 rfl) ?_
          refine q_get hB hW 2 in_X2 0 rfl rfl 2 (by decide) fl_18 (v := .ref a_p0_answers) rfl dX2_fits_45 ?_
          refine lv_iload_n hx hb dX2_fits_48 rfl (lv_at hl 4 rfl) ?_
          obtain ⟨r_11, hr_11, hf⟩ := bnd hf
          refine q_callNI hB hW (As := [.ref a_p0_answers, .int y2_3]) (rest := [.int r_10]) (ws' := [(a_p0, .inr (2, [.ref a_p0_places, .ref a_p0_wools, .ref a_p0_answers, .int p0_length])), (a_p0_places, .inl (cI, 6, .inl p0_places)), (a_p0_wools, .inl (cI, 6, .inl p0_wools)), (a_p0_answers, .inl (cI, 6, .inl p0_answers))]) (c_X6_at l D cI cZ a_p0_answers 6 p0_answers y2_3 r_11 hr_11) ⟨va_cnB 2 hts gX2_fits_X6_at_n29 rfl rfl rfl (hB.2.2.2.2.2.2.2.1.2 (RX2, 29, yX6_at, RX6) (by decide +kernel)) (hts (.initialized RX6) (by decide +kernel)) (by decide +kernel) ⟨Nat.le_of_ble_eq_true rfl, Nat.le_of_ble_eq_true rfl⟩, hts (.static yX6_at) (by decide +kernel), trivial⟩ [3] rfl rfl rfl rfl rfl hl.1 rfl (Nat.le_of_ble_eq_true rfl) ⟨Nat.le_of_ble_eq_true rfl, Nat.le_of_ble_eq_true rfl⟩ dX2_fits_49 (fun H locs hW => ?_)
          refine lv_iconst (v := 1) hx hb dX2_fits_52 (by decide) ?_
          refine lv_icmp_ne (tgt := 60) hx hb dX2_fits_53 (by decide) (fun c_12 => ?_) (fun c_12 => ?_)
          · have hf := it_f c_12 hf
            refine lv_iconst (v := 0) hx hb dX2_fits_60 (by decide) ?_
            refine lv_icmp_eq (tgt := 66) hx hb dX2_fits_61 (by decide) (fun c_13 => ?_) (fun c_13 => ?_)
            · have hf := it_t c_13 hf
              refine lv_iinc (v := (y2_3 + (1 : Int32))) (lv' := [(3, .int (y2_3 + (1 : Int32))), (4, .int r_10), (0, .ref a_p0), (1, .int v1), (2, .int v2)]) hx hb dX2_fits_66 hl (k := 4) rfl rfl (by decide) rfl (fun ls hl => ?_)
              refine lv_goto (tgt := 2) hx hb dX2_fits_69 (by decide) ?_
              have h9 := o_inl hf ho_2
              exact ih (y2_3 + (1 : Int32)) _ _ _ h9 hW (lv_sub hl [2, 3, 4, 0] rfl)
            · have hf := it_f c_13 hf
              refine lv_iconst (v := 0) hx hb dX2_fits_64 (by decide) ?_
              have h9 := o_inr hf ho_2
              have h9 := s_inr h9 hk_2
              exact hE _ _ _ _ _ (0 : Int32) (sm h9) hW rfl nz_0 dX2_fits_65
          · have hf := it_t c_12 hf
            refine lv_iconst (v := 1) hx hb dX2_fits_56 (by decide) ?_
            refine lv_goto (tgt := 61) hx hb dX2_fits_57 (by decide) ?_
            refine lv_icmp_eq (tgt := 66) hx hb dX2_fits_61 (by decide) (fun c_14 => ?_) (fun c_14 => ?_)
            · have hf := it_t c_14 hf
              refine lv_iinc (v := (y2_3 + (1 : Int32))) (lv' := [(3, .int (y2_3 + (1 : Int32))), (4, .int r_10), (0, .ref a_p0), (1, .int v1), (2, .int v2)]) hx hb dX2_fits_66 hl (k := 4) rfl rfl (by decide) rfl (fun ls hl => ?_)
              refine lv_goto (tgt := 2) hx hb dX2_fits_69 (by decide) ?_
              have h9 := o_inl hf ho_2
              exact ih (y2_3 + (1 : Int32)) _ _ _ h9 hW (lv_sub hl [2, 3, 4, 0] rfl)
            · have hf := it_f c_14 hf
              refine lv_iconst (v := 0) hx hb dX2_fits_64 (by decide) ?_
              have h9 := o_inr hf ho_2
              have h9 := s_inr h9 hk_2
              exact hE _ _ _ _ _ (0 : Int32) (sm h9) hW rfl nz_0 dX2_fits_65
  exact L_2 FU (0 : Int32) _ _ _ hl_2 hW (lv_sub hl [1, 2, 3, 0] rfl)
def b_X6_which_20 (v1 : Int32) (p0_hearings_length : Int32) (p0_hearings_places : Nat → Int32) (p0_hearings_wools : Nat → Int32) (p0_hearings_answers : Nat → Int32) (v2 : Int32) (v3 : Int32) (v4 : Int32) : Option ((Int32 × Int32 × Int32) ⊕ (Int32 × Int32)) := if (100 : Int32) ≤ v4 then some (.inr (v2, v3)) else (f_X2_fits (v4 / (10 : Int32)) (v4 - v4 / (10 : Int32) * (10 : Int32)) p0_hearings_length p0_hearings_places p0_hearings_wools p0_hearings_answers).bind fun r_522 => if r_522 = (0 : Int32) then some (.inl (v2, v3, (v4 + (1 : Int32)))) else if v3 = (-9 : Int32) then some (.inl ((v2 + (1 : Int32)), v4, (v4 + (1 : Int32)))) else some (.inl ((v2 + (1 : Int32)), v3, (v4 + (1 : Int32))))
def f_X6_which (v1 : Int32) (p0_hearings_length : Int32) (p0_hearings_places : Nat → Int32) (p0_hearings_wools : Nat → Int32) (p0_hearings_answers : Nat → Int32) : Option (Int32) := (f_X6_within v1 (0 : Int32) (1 : Int32)).bind fun r_1 => if r_1 = (0 : Int32) then some (-2 : Int32) else (itr (fun s => b_X6_which_20 v1 p0_hearings_length p0_hearings_places p0_hearings_wools p0_hearings_answers s.1 s.2.1 s.2.2) FU ((0 : Int32), (-9 : Int32), (0 : Int32))).bind fun x_20 => if v1 = (0 : Int32) then some x_20.1 else some x_20.2
set_option maxHeartbeats 4000000 in
set_option maxRecDepth 100000 in
theorem c_X6_which (l : Launch) (D : va_G) (cI cZ : ClassId) (a_p0 a_p0_text a_p0_reader a_p0_draft a_p0_land a_p0_now a_p0_trial a_p0_acts a_p0_hearings a_p0_kept a_p0_hearings_places a_p0_hearings_wools a_p0_hearings_answers : Nat) (p0_keptSlots : Int32) (p0_seedNow : Int64) (p0_hearings_length : Int32) (p0_hearings_places : Nat → Int32) (p0_hearings_wools : Nat → Int32) (p0_hearings_answers : Nat → Int32) (v1 : Int32) (q : Int32) (hf : f_X6_which v1 p0_hearings_length p0_hearings_places p0_hearings_wools p0_hearings_answers = some q) : CtI l D cI cZ yX6_which wsX6_which 2 48 [.ref a_p0, .int v1] [(a_p0, .inr (6, [.ref a_p0_text, .ref a_p0_reader, .ref a_p0_draft, .ref a_p0_land, .ref a_p0_now, .ref a_p0_trial, .ref a_p0_acts, .ref a_p0_hearings, .ref a_p0_kept, .int p0_keptSlots, .long p0_seedNow])), (a_p0_hearings, .inr (2, [.ref a_p0_hearings_places, .ref a_p0_hearings_wools, .ref a_p0_hearings_answers, .int p0_hearings_length])), (a_p0_hearings_places, .inl (cI, 6, .inl p0_hearings_places)), (a_p0_hearings_wools, .inl (cI, 6, .inl p0_hearings_wools)), (a_p0_hearings_answers, .inl (cI, 6, .inl p0_hearings_answers))] (fun q => [(a_p0, .inr (6, [.ref a_p0_text, .ref a_p0_reader, .ref a_p0_draft, .ref a_p0_land, .ref a_p0_now, .ref a_p0_trial, .ref a_p0_acts, .ref a_p0_hearings, .ref a_p0_kept, .int p0_keptSlots, .long p0_seedNow])), (a_p0_hearings, .inr (2, [.ref a_p0_hearings_places, .ref a_p0_hearings_wools, .ref a_p0_hearings_answers, .int p0_hearings_length])), (a_p0_hearings_places, .inl (cI, 6, .inl p0_hearings_places)), (a_p0_hearings_wools, .inl (cI, 6, .inl p0_hearings_wools)), (a_p0_hearings_answers, .inl (cI, 6, .inl p0_hearings_answers))]) (fun q => q) q := by
  refine CtI.of (cc := cX6_which) (maxL := 5) (plainFor_of_name (by decide)) rfl (Nat.le_of_ble_eq_true rfl) ?_
  intro p e s m args below meth c A Q H ls hB hE hW hl
  have hx := hB.1
  have hb := hB.2.1
  have hml := hB.2.2.2.1
  have hown : s.vm.findClass RX6 = some m.cls := hB.2.2.2.2.1
  have hts := hB.2.2.2.2.2.1
  have hK := hB.2.2.2.2.2.2.2.1.1
  have hl : lv_has ls 5 [(0, .ref a_p0), (1, .int v1)] := hl
  have in_X6 : ∀ w ∈ wsX60, w ∈ wsX6_which := fun w h => List.mem_cons_of_mem _ (List.mem_append_left _ (List.mem_append_right _ h))
  have fl_57 : (Cond.fieldLink RX6 57 (TX6 7).1 (TX6 7).2.1 (TX6 7).2.2.1).before args s = true := hts (.fieldLink RX6 57 "ClapOaths" "hearings" "LClapOaths$Heard;") (by decide +kernel)
  unfold f_X6_which at hf
  refine lv_iload_n hx hb dX6_which_0 rfl (lv_at hl 1 rfl) ?_
  refine lv_iconst (v := 0) hx hb dX6_which_1 (by decide) ?_
  refine lv_iconst (v := 1) hx hb dX6_which_2 (by decide) ?_
  obtain ⟨r_1, hr_1, hf⟩ := bnd hf
  refine q_callSZ hB hW (As := [.int v1, .int (0 : Int32), .int (1 : Int32)]) (rest := []) (ws' := [(a_p0, .inr (6, [.ref a_p0_text, .ref a_p0_reader, .ref a_p0_draft, .ref a_p0_land, .ref a_p0_now, .ref a_p0_trial, .ref a_p0_acts, .ref a_p0_hearings, .ref a_p0_kept, .int p0_keptSlots, .long p0_seedNow])), (a_p0_hearings, .inr (2, [.ref a_p0_hearings_places, .ref a_p0_hearings_wools, .ref a_p0_hearings_answers, .int p0_hearings_length])), (a_p0_hearings_places, .inl (cI, 6, .inl p0_hearings_places)), (a_p0_hearings_wools, .inl (cI, 6, .inl p0_hearings_wools)), (a_p0_hearings_answers, .inl (cI, 6, .inl p0_hearings_answers))]) (c_X6_within l D cI cZ v1 (0 : Int32) (1 : Int32) r_1 hr_1) (va_cwS 3 hts gX6_which_X6_within rfl rfl rfl (by decide +kernel) ⟨Nat.le_of_ble_eq_true rfl, Nat.le_of_ble_eq_true rfl⟩) [] rfl rfl rfl rfl rfl hl.1 rfl (Nat.le_of_ble_eq_true rfl) ⟨Nat.le_of_ble_eq_true rfl, Nat.le_of_ble_eq_true rfl⟩ dX6_which_3 (fun hzr_1 H locs hW => ?_)
  refine lv_if_ne (tgt := 12) hx hb dX6_which_6 (by decide) (fun c_2 => ?_) (fun c_2 => ?_)
  · have hf := it_f c_2 hf
    refine lv_iconst (v := 0) hx hb dX6_which_12 (by decide) ?_
    refine lv_istore_n (lv' := [(2, .int (0 : Int32)), (0, .ref a_p0), (1, .int v1)]) hx hb dX6_which_13 rfl hl (by decide) rfl (fun ls hl => ?_)
    refine lv_bipush (v := -9) hx hb dX6_which_14 (by decide) ?_
    refine lv_istore_n (lv' := [(3, .int (-9 : Int32)), (2, .int (0 : Int32)), (0, .ref a_p0), (1, .int v1)]) hx hb dX6_which_16 rfl hl (by decide) rfl (fun ls hl => ?_)
    refine lv_iconst (v := 0) hx hb dX6_which_17 (by decide) ?_
    refine lv_istore (lv' := [(4, .int (0 : Int32)), (3, .int (-9 : Int32)), (2, .int (0 : Int32)), (0, .ref a_p0), (1, .int v1)]) hx hb dX6_which_18 hl (by decide) rfl (fun ls hl => ?_)
    obtain ⟨e_20, hl_20, hk_20⟩ := bnd hf
    have K_20 : ∀ x_20 : Int32 × Int32, x_20 = e_20 → ∀ (H : Heap) (locs : List Loc) (ls : Array Slot), Wl D A s.heap [(a_p0, .inr (6, [.ref a_p0_text, .ref a_p0_reader, .ref a_p0_draft, .ref a_p0_land, .ref a_p0_now, .ref a_p0_trial, .ref a_p0_acts, .ref a_p0_hearings, .ref a_p0_kept, .int p0_keptSlots, .long p0_seedNow])), (a_p0_hearings, .inr (2, [.ref a_p0_hearings_places, .ref a_p0_hearings_wools, .ref a_p0_hearings_answers, .int p0_hearings_length])), (a_p0_hearings_places, .inl (cI, 6, .inl p0_hearings_places)), (a_p0_hearings_wools, .inl (cI, 6, .inl p0_hearings_wools)), (a_p0_hearings_answers, .inl (cI, 6, .inl p0_hearings_answers))] H locs → lv_has ls 5 [(1, .int v1), (2, .int x_20.1), (3, .int x_20.2)] → W p l e (Rm 2 48) s m args below meth c H locs 0 0 Q (F0 m 69 ls []) := by
      intro x_20 hx_20 H locs ls hW hl
      have hf := hk_20
      rw [← hx_20] at hf
      refine lv_iload_n hx hb dX6_which_69 rfl (lv_at hl 0 rfl) ?_
      refine lv_if_ne (tgt := 77) hx hb dX6_which_70 (by decide) (fun c_3 => ?_) (fun c_3 => ?_)
      · have hf := it_f c_3 hf
        refine lv_iload_n hx hb dX6_which_77 rfl (lv_at hl 2 rfl) ?_
        exact hE _ _ _ _ _ x_20.2 (sm hf) hW rfl dX6_which_78
      · have hf := it_t c_3 hf
        refine lv_iload_n hx hb dX6_which_73 rfl (lv_at hl 1 rfl) ?_
        refine lv_goto (tgt := 78) hx hb dX6_which_74 (by decide) ?_
        exact hE _ _ _ _ _ x_20.1 (sm hf) hW rfl dX6_which_78
    have L_20 : ∀ (n : Nat) (y20_2 : Int32) (y20_3 : Int32) (y20_4 : Int32) (H : Heap) (locs : List Loc) (ls : Array Slot), itr (fun s => b_X6_which_20 v1 p0_hearings_length p0_hearings_places p0_hearings_wools p0_hearings_answers s.1 s.2.1 s.2.2) n (y20_2, y20_3, y20_4) = some e_20 → Wl D A s.heap [(a_p0, .inr (6, [.ref a_p0_text, .ref a_p0_reader, .ref a_p0_draft, .ref a_p0_land, .ref a_p0_now, .ref a_p0_trial, .ref a_p0_acts, .ref a_p0_hearings, .ref a_p0_kept, .int p0_keptSlots, .long p0_seedNow])), (a_p0_hearings, .inr (2, [.ref a_p0_hearings_places, .ref a_p0_hearings_wools, .ref a_p0_hearings_answers, .int p0_hearings_length])), (a_p0_hearings_places, .inl (cI, 6, .inl p0_hearings_places)), (a_p0_hearings_wools, .inl (cI, 6, .inl p0_hearings_wools)), (a_p0_hearings_answers, .inl (cI, 6, .inl p0_hearings_answers))] H locs → lv_has ls 5 [(0, .ref a_p0), (1, .int v1), (2, .int y20_2), (3, .int y20_3), (4, .int y20_4)] → W p l e (Rm 2 48) s m args below meth c H locs 0 0 Q (F0 m 20 ls []) := by
      intro n
      induction n with
      | zero => intro y20_2 y20_3 y20_4 H locs ls h9; exact itr_0 h9
      | succ n ih =>
        intro y20_2 y20_3 y20_4 H locs ls hf hW hl
        obtain ⟨o_20, hf, ho_20⟩ := itr_inv hf
        have hf : b_X6_which_20 v1 p0_hearings_length p0_hearings_places p0_hearings_wools p0_hearings_answers y20_2 y20_3 y20_4 = some o_20 := hf
        unfold b_X6_which_20 at hf
        refine lv_iload hx hb dX6_which_20 (lv_at hl 4 rfl) ?_
        refine lv_bipush (v := 100) hx hb dX6_which_22 (by decide) ?_
        refine lv_icmp_ge (tgt := 69) hx hb dX6_which_24 (by decide) (fun c_4 => ?_) (fun c_4 => ?_)
        · have hf := it_t c_4 hf
          have h9 := o_inr hf ho_20
          exact K_20 (y20_2, y20_3) h9 _ _ _ hW (lv_sub hl [1, 2, 3] rfl)
        · have hf := it_f c_4 hf
          refine lv_aload_n hx hb dX6_which_27 rfl (lv_at hl 0 rfl) ?_
          refine q_get hB hW 6 in_X6 0 rfl rfl 7 (by decide) fl_57 (v := .ref a_p0_hearings) rfl dX6_which_28 ?_
          refine lv_iload hx hb dX6_which_31 (lv_at hl 4 rfl) ?_
          refine lv_bipush (v := 10) hx hb dX6_which_33 (by decide) ?_
          refine lv_idiv hx hb dX6_which_35 (by decide) ?_
          refine lv_iload hx hb dX6_which_36 (lv_at hl 4 rfl) ?_
          refine lv_bipush (v := 10) hx hb dX6_which_38 (by decide) ?_
          refine lv_irem hx hb dX6_which_40 (by decide) ?_
          obtain ⟨r_5, hr_5, hf⟩ := bnd hf
          refine q_callVZ hB hW (ci := 2) (q0 := 0) rfl rfl rfl (As := [.int (y20_4 / (10 : Int32)), .int (y20_4 - y20_4 / (10 : Int32) * (10 : Int32))]) (rest := []) (ws' := [(a_p0, .inr (6, [.ref a_p0_text, .ref a_p0_reader, .ref a_p0_draft, .ref a_p0_land, .ref a_p0_now, .ref a_p0_trial, .ref a_p0_acts, .ref a_p0_hearings, .ref a_p0_kept, .int p0_keptSlots, .long p0_seedNow])), (a_p0_hearings, .inr (2, [.ref a_p0_hearings_places, .ref a_p0_hearings_wools, .ref a_p0_hearings_answers, .int p0_hearings_length])), (a_p0_hearings_places, .inl (cI, 6, .inl p0_hearings_places)), (a_p0_hearings_wools, .inl (cI, 6, .inl p0_hearings_wools)), (a_p0_hearings_answers, .inl (cI, 6, .inl p0_hearings_answers))]) (c_X2_fits l D cI cZ a_p0_hearings a_p0_hearings_places a_p0_hearings_wools a_p0_hearings_answers p0_hearings_length p0_hearings_places p0_hearings_wools p0_hearings_answers (y20_4 / (10 : Int32)) (y20_4 - y20_4 / (10 : Int32) * (10 : Int32)) r_5 hr_5) (cwV 2 hts gX6_which_X2_fits rfl rfl rfl (by decide +kernel) ⟨Nat.le_of_ble_eq_true rfl, Nat.le_of_ble_eq_true rfl⟩) [1, 2, 3, 4] rfl rfl rfl rfl rfl hl.1 rfl (Nat.le_of_ble_eq_true rfl) ⟨Nat.le_of_ble_eq_true rfl, Nat.le_of_ble_eq_true rfl⟩ dX6_which_41 (fun hzr_5 H locs hW => ?_)
          refine lv_if_eq (tgt := 63) hx hb dX6_which_44 (by decide) (fun c_6 => ?_) (fun c_6 => ?_)
          · have hf := it_t c_6 hf
            refine lv_iinc (v := (y20_4 + (1 : Int32))) (lv' := [(4, .int (y20_4 + (1 : Int32))), (0, .ref a_p0), (1, .int v1), (2, .int y20_2), (3, .int y20_3)]) hx hb dX6_which_63 hl (k := 4) rfl rfl (by decide) rfl (fun ls hl => ?_)
            refine lv_goto (tgt := 20) hx hb dX6_which_66 (by decide) ?_
            have h9 := o_inl hf ho_20
            exact ih y20_2 y20_3 (y20_4 + (1 : Int32)) _ _ _ h9 hW (lv_sub hl [1, 2, 3, 4, 0] rfl)
          · have hf := it_f c_6 hf
            refine lv_iinc (v := (y20_2 + (1 : Int32))) (lv' := [(2, .int (y20_2 + (1 : Int32))), (0, .ref a_p0), (1, .int v1), (3, .int y20_3), (4, .int y20_4)]) hx hb dX6_which_47 hl (k := 2) rfl rfl (by decide) rfl (fun ls hl => ?_)
            refine lv_iload_n hx hb dX6_which_50 rfl (lv_at hl 3 rfl) ?_
            refine lv_bipush (v := -9) hx hb dX6_which_51 (by decide) ?_
            refine lv_icmp_ne (tgt := 61) hx hb dX6_which_53 (by decide) (fun c_7 => ?_) (fun c_7 => ?_)
            · have hf := it_f c_7 hf
              refine lv_iload_n hx hb dX6_which_61 rfl (lv_at hl 3 rfl) ?_
              refine lv_istore_n (lv' := [(3, .int y20_3), (2, .int (y20_2 + (1 : Int32))), (0, .ref a_p0), (1, .int v1), (4, .int y20_4)]) hx hb dX6_which_62 rfl hl (by decide) rfl (fun ls hl => ?_)
              refine lv_iinc (v := (y20_4 + (1 : Int32))) (lv' := [(4, .int (y20_4 + (1 : Int32))), (3, .int y20_3), (2, .int (y20_2 + (1 : Int32))), (0, .ref a_p0), (1, .int v1)]) hx hb dX6_which_63 hl (k := 4) rfl rfl (by decide) rfl (fun ls hl => ?_)
              refine lv_goto (tgt := 20) hx hb dX6_which_66 (by decide) ?_
              have h9 := o_inl hf ho_20
              exact ih (y20_2 + (1 : Int32)) y20_3 (y20_4 + (1 : Int32)) _ _ _ h9 hW (lv_sub hl [3, 4, 2, 1, 0] rfl)
            · have hf := it_t c_7 hf
              refine lv_iload hx hb dX6_which_56 (lv_at hl 4 rfl) ?_
              refine lv_goto (tgt := 62) hx hb dX6_which_58 (by decide) ?_
              refine lv_istore_n (lv' := [(3, .int y20_4), (2, .int (y20_2 + (1 : Int32))), (0, .ref a_p0), (1, .int v1), (4, .int y20_4)]) hx hb dX6_which_62 rfl hl (by decide) rfl (fun ls hl => ?_)
              refine lv_iinc (v := (y20_4 + (1 : Int32))) (lv' := [(4, .int (y20_4 + (1 : Int32))), (3, .int y20_4), (2, .int (y20_2 + (1 : Int32))), (0, .ref a_p0), (1, .int v1)]) hx hb dX6_which_63 hl (k := 4) rfl rfl (by decide) rfl (fun ls hl => ?_)
              refine lv_goto (tgt := 20) hx hb dX6_which_66 (by decide) ?_
              have h9 := o_inl hf ho_20
              exact ih (y20_2 + (1 : Int32)) y20_4 (y20_4 + (1 : Int32)) _ _ _ h9 hW (lv_sub hl [3, 4, 2, 1, 0] rfl)
    exact L_20 FU (0 : Int32) (-9 : Int32) (0 : Int32) _ _ _ hl_20 hW (lv_sub hl [3, 4, 2, 1, 0] rfl)
  · have hf := it_t c_2 hf
    refine lv_bipush (v := -2) hx hb dX6_which_9 (by decide) ?_
    exact hE _ _ _ _ _ (-2 : Int32) (sm hf) hW rfl dX6_which_11
def b_X6_commonDivisor_7 (v2 : Int32) (v3 : Int32) (v4 : Int32) : Option ((Int32 × Int32 × Int32) ⊕ (Int32)) := if (64 : Int32) ≤ v4 then some (.inr v2) else if v3 = (0 : Int32) then some (.inr v2) else (rmI v2 v3).bind fun r_510 => some (.inl (v3, r_510, (v4 + (1 : Int32))))
def f_X6_commonDivisor (v0 : Int32) (v1 : Int32) : Option (Int32) := (itr (fun s => b_X6_commonDivisor_7 s.1 s.2.1 s.2.2) FU (v0, v1, (0 : Int32))).bind fun x_7 => some x_7
set_option maxHeartbeats 4000000 in
set_option maxRecDepth 100000 in
theorem c_X6_commonDivisor (l : Launch) (D : va_G) (cI cZ : ClassId) (v0 : Int32) (v1 : Int32) (q : Int32) (hf : f_X6_commonDivisor v0 v1 = some q) : CtI l D cI cZ yX6_commonDivisor wsX6_commonDivisor 0 0 [.int v0, .int v1] [] (fun q => []) (fun q => q) q := by
  refine CtI.of (cc := cX6_commonDivisor) (maxL := 6) (plainFor_of_name (by decide)) rfl (Nat.le_of_ble_eq_true rfl) ?_
  intro p e s m args below meth c A Q H ls hB hE hW hl
  have hx := hB.1
  have hb := hB.2.1
  have hml := hB.2.2.2.1
  have hown : s.vm.findClass RX6 = some m.cls := hB.2.2.2.2.1
  have hts := hB.2.2.2.2.2.1
  have hK := hB.2.2.2.2.2.2.2.1.1
  have hl : lv_has ls 6 [(0, .int v0), (1, .int v1)] := hl
  unfold f_X6_commonDivisor at hf
  refine lv_iload_n hx hb dX6_commonDivisor_0 rfl (lv_at hl 0 rfl) ?_
  refine lv_istore_n (lv' := [(2, .int v0), (0, .int v0), (1, .int v1)]) hx hb dX6_commonDivisor_1 rfl hl (by decide) rfl (fun ls hl => ?_)
  refine lv_iload_n hx hb dX6_commonDivisor_2 rfl (lv_at hl 2 rfl) ?_
  refine lv_istore_n (lv' := [(3, .int v1), (2, .int v0), (0, .int v0), (1, .int v1)]) hx hb dX6_commonDivisor_3 rfl hl (by decide) rfl (fun ls hl => ?_)
  refine lv_iconst (v := 0) hx hb dX6_commonDivisor_4 (by decide) ?_
  refine lv_istore (lv' := [(4, .int (0 : Int32)), (3, .int v1), (2, .int v0), (0, .int v0), (1, .int v1)]) hx hb dX6_commonDivisor_5 hl (by decide) rfl (fun ls hl => ?_)
  obtain ⟨e_7, hl_7, hk_7⟩ := bnd hf
  have K_7 : ∀ x_7 : Int32, x_7 = e_7 → ∀ (H : Heap) (locs : List Loc) (ls : Array Slot), Wl D A s.heap [] H locs → lv_has ls 6 [(2, .int x_7)] → W p l e (Rm 0 0) s m args below meth c H locs 0 0 Q (F0 m 34 ls []) := by
    intro x_7 hx_7 H locs ls hW hl
    have hf := hk_7
    rw [← hx_7] at hf
    refine lv_iload_n hx hb dX6_commonDivisor_34 rfl (lv_at hl 0 rfl) ?_
    exact hE _ _ _ _ _ x_7 (sm hf) hW rfl dX6_commonDivisor_35
  have L_7 : ∀ (n : Nat) (y7_2 : Int32) (y7_3 : Int32) (y7_4 : Int32) (H : Heap) (locs : List Loc) (ls : Array Slot), itr (fun s => b_X6_commonDivisor_7 s.1 s.2.1 s.2.2) n (y7_2, y7_3, y7_4) = some e_7 → Wl D A s.heap [] H locs → lv_has ls 6 [(2, .int y7_2), (3, .int y7_3), (4, .int y7_4)] → W p l e (Rm 0 0) s m args below meth c H locs 0 0 Q (F0 m 7 ls []) := by
    intro n
    induction n with
    | zero => intro y7_2 y7_3 y7_4 H locs ls h9; exact itr_0 h9
    | succ n ih =>
      intro y7_2 y7_3 y7_4 H locs ls hf hW hl
      obtain ⟨o_7, hf, ho_7⟩ := itr_inv hf
      have hf : b_X6_commonDivisor_7 y7_2 y7_3 y7_4 = some o_7 := hf
      unfold b_X6_commonDivisor_7 at hf
      refine lv_iload hx hb dX6_commonDivisor_7 (lv_at hl 2 rfl) ?_
      refine lv_bipush (v := 64) hx hb dX6_commonDivisor_9 (by decide) ?_
      refine lv_icmp_ge (tgt := 34) hx hb dX6_commonDivisor_11 (by decide) (fun c_1 => ?_) (fun c_1 => ?_)
      · have hf := it_t c_1 hf
        have h9 := o_inr hf ho_7
        exact K_7 y7_2 h9 _ _ _ hW (lv_sub hl [0] rfl)
      · have hf := it_f c_1 hf
        refine lv_iload_n hx hb dX6_commonDivisor_14 rfl (lv_at hl 1 rfl) ?_
        refine lv_if_eq (tgt := 34) hx hb dX6_commonDivisor_15 (by decide) (fun c_2 => ?_) (fun c_2 => ?_)
        · have hf := it_t c_2 hf
          have h9 := o_inr hf ho_7
          exact K_7 y7_2 h9 _ _ _ hW (lv_sub hl [0] rfl)
        · have hf := it_f c_2 hf
          refine lv_iload_n hx hb dX6_commonDivisor_18 rfl (lv_at hl 0 rfl) ?_
          refine lv_iload_n hx hb dX6_commonDivisor_19 rfl (lv_at hl 1 rfl) ?_
          obtain ⟨r_3, hr_3, hf⟩ := bnd hf
          refine q_irem hB hr_3 dX6_commonDivisor_20 ?_
          refine lv_istore (lv' := [(5, .int r_3), (2, .int y7_2), (3, .int y7_3), (4, .int y7_4)]) hx hb dX6_commonDivisor_21 hl (by decide) rfl (fun ls hl => ?_)
          refine lv_iload_n hx hb dX6_commonDivisor_23 rfl (lv_at hl 2 rfl) ?_
          refine lv_istore_n (lv' := [(2, .int y7_3), (5, .int r_3), (3, .int y7_3), (4, .int y7_4)]) hx hb dX6_commonDivisor_24 rfl hl (by decide) rfl (fun ls hl => ?_)
          refine lv_iload hx hb dX6_commonDivisor_25 (lv_at hl 1 rfl) ?_
          refine lv_istore_n (lv' := [(3, .int r_3), (2, .int y7_3), (5, .int r_3), (4, .int y7_4)]) hx hb dX6_commonDivisor_27 rfl hl (by decide) rfl (fun ls hl => ?_)
          refine lv_iinc (v := (y7_4 + (1 : Int32))) (lv' := [(4, .int (y7_4 + (1 : Int32))), (3, .int r_3), (2, .int y7_3), (5, .int r_3)]) hx hb dX6_commonDivisor_28 hl (k := 3) rfl rfl (by decide) rfl (fun ls hl => ?_)
          refine lv_goto (tgt := 7) hx hb dX6_commonDivisor_31 (by decide) ?_
          have h9 := o_inl hf ho_7
          exact ih y7_3 r_3 (y7_4 + (1 : Int32)) _ _ _ h9 hW (lv_sub hl [2, 1, 0] rfl)
  exact L_7 FU v0 v1 (0 : Int32) _ _ _ hl_7 hW (lv_sub hl [2, 1, 0] rfl)
def f_X6_fraction (v0 : Int32) (v1 : Int32) (v2 : Int32) : Option (Int32) := (f_X6_commonDivisor v0 v1).bind fun r_1 => if v2 = (0 : Int32) then (dvI v1 (if (1 : Int32) < r_1 then r_1 else (1 : Int32))).bind fun r_3 => some r_3 else (dvI v0 (if (1 : Int32) < r_1 then r_1 else (1 : Int32))).bind fun r_4 => some r_4
set_option maxHeartbeats 4000000 in
set_option maxRecDepth 100000 in
theorem c_X6_fraction (l : Launch) (D : va_G) (cI cZ : ClassId) (v0 : Int32) (v1 : Int32) (v2 : Int32) (q : Int32) (hf : f_X6_fraction v0 v1 v2 = some q) : CtI l D cI cZ yX6_fraction wsX6_fraction 1 25 [.int v0, .int v1, .int v2] [] (fun q => []) (fun q => q) q := by
  refine CtI.of (cc := cX6_fraction) (maxL := 4) (plainFor_of_name (by decide)) rfl (Nat.le_of_ble_eq_true rfl) ?_
  intro p e s m args below meth c A Q H ls hB hE hW hl
  have hx := hB.1
  have hb := hB.2.1
  have hml := hB.2.2.2.1
  have hown : s.vm.findClass RX6 = some m.cls := hB.2.2.2.2.1
  have hts := hB.2.2.2.2.2.1
  have hK := hB.2.2.2.2.2.2.2.1.1
  have hl : lv_has ls 4 [(0, .int v0), (1, .int v1), (2, .int v2)] := hl
  unfold f_X6_fraction at hf
  refine lv_iload_n hx hb dX6_fraction_0 rfl (lv_at hl 0 rfl) ?_
  refine lv_iload_n hx hb dX6_fraction_1 rfl (lv_at hl 1 rfl) ?_
  obtain ⟨r_1, hr_1, hf⟩ := bnd hf
  refine q_callSI hB hW (As := [.int v0, .int v1]) (rest := []) (ws' := []) (c_X6_commonDivisor l D cI cZ v0 v1 r_1 hr_1) (va_cwS 2 hts gX6_fraction_X6_commonDivisor rfl rfl rfl (by decide +kernel) ⟨Nat.le_of_ble_eq_true rfl, Nat.le_of_ble_eq_true rfl⟩) [] rfl rfl rfl rfl rfl hl.1 rfl (Nat.le_of_ble_eq_true rfl) ⟨Nat.le_of_ble_eq_true rfl, Nat.le_of_ble_eq_true rfl⟩ dX6_fraction_2 (fun H locs hW => ?_)
  refine lv_istore_n (lv' := [(3, .int r_1), (0, .int v0), (1, .int v1), (2, .int v2)]) hx hb dX6_fraction_5 rfl hl (by decide) rfl (fun ls hl => ?_)
  refine lv_iload_n hx hb dX6_fraction_6 rfl (lv_at hl 3 rfl) ?_
  refine lv_if_eq (tgt := 14) hx hb dX6_fraction_7 (by decide) (fun c_2 => ?_) (fun c_2 => ?_)
  · have hf := it_t c_2 hf
    refine lv_iload_n hx hb dX6_fraction_14 rfl (lv_at hl 2 rfl) ?_
    refine lv_iconst (v := 1) hx hb dX6_fraction_15 (by decide) ?_
    refine lv_iload_n hx hb dX6_fraction_16 rfl (lv_at hl 0 rfl) ?_
    refine va_mmax hx hb (hml.trans hl.1.symm) hown (hts (.methodLink RX6 278 Lib.Math.max.name) (by decide +kernel)) (hts (.static Lib.Math.max.name) (by decide +kernel)) (hts (.initialized "java/lang/Math") (by decide +kernel)) (hts (.code Lib.Math.max.name Lib.Math.max.code 2 (some .int)) (by decide +kernel)) (Nat.le_of_ble_eq_true rfl) (Nat.le_of_ble_eq_true rfl) (Nat.le_of_ble_eq_true rfl) (Nat.le_of_ble_eq_true rfl) dX6_fraction_17 ?_
    obtain ⟨r_3, hr_3, hf⟩ := bnd hf
    refine q_idiv hB hr_3 dX6_fraction_20 ?_
    exact hE _ _ _ _ _ r_3 (sm hf) hW rfl dX6_fraction_21
  · have hf := it_f c_2 hf
    refine lv_iload_n hx hb dX6_fraction_10 rfl (lv_at hl 1 rfl) ?_
    refine lv_goto (tgt := 15) hx hb dX6_fraction_11 (by decide) ?_
    refine lv_iconst (v := 1) hx hb dX6_fraction_15 (by decide) ?_
    refine lv_iload_n hx hb dX6_fraction_16 rfl (lv_at hl 0 rfl) ?_
    refine va_mmax hx hb (hml.trans hl.1.symm) hown (hts (.methodLink RX6 278 Lib.Math.max.name) (by decide +kernel)) (hts (.static Lib.Math.max.name) (by decide +kernel)) (hts (.initialized "java/lang/Math") (by decide +kernel)) (hts (.code Lib.Math.max.name Lib.Math.max.code 2 (some .int)) (by decide +kernel)) (Nat.le_of_ble_eq_true rfl) (Nat.le_of_ble_eq_true rfl) (Nat.le_of_ble_eq_true rfl) (Nat.le_of_ble_eq_true rfl) dX6_fraction_17 ?_
    obtain ⟨r_4, hr_4, hf⟩ := bnd hf
    refine q_idiv hB hr_4 dX6_fraction_20 ?_
    exact hE _ _ _ _ _ r_4 (sm hf) hW rfl dX6_fraction_21
def f_X6_share (v1 : Int32) (v2 : Int32) (p0_land_persons : Int32) (p0_land_oaths : Int32) (p0_now_sworn : Int32) (p0_land_ones : Nat → Int32) (p0_land_others : Nat → Int32) (p0_land_worths : Nat → Int32) : Option (Int32) := (f_X1_hasPerson v1 p0_land_persons).bind fun r_1 => if r_1 = (0 : Int32) then some (-1 : Int32) else (f_X1_oathsOf v1 p0_land_oaths p0_land_ones p0_land_others).bind fun r_3 => (f_X1_worthOf (r_3 &&& p0_now_sworn) p0_land_oaths p0_land_worths).bind fun r_4 => (f_X6_fraction r_4 (2 : Int32) v2).bind fun r_5 => some r_5
set_option maxHeartbeats 4000000 in
set_option maxRecDepth 100000 in
theorem c_X6_share (l : Launch) (D : va_G) (cI cZ : ClassId) (a_p0 a_p0_text a_p0_reader a_p0_draft a_p0_land a_p0_now a_p0_trial a_p0_acts a_p0_hearings a_p0_kept a_p0_land_places a_p0_land_kinds a_p0_land_clapPlaces a_p0_land_louds a_p0_land_ones a_p0_land_others a_p0_land_worths a_p0_land_hangs : Nat) (p0_keptSlots : Int32) (p0_seedNow : Int64) (p0_land_persons : Int32) (p0_land_skies : Int32) (p0_land_oaths : Int32) (p0_now_places : Int32) (p0_now_wool : Int32) (p0_now_sworn : Int32) (p0_now_worth : Int32) (p0_now_day : Int32) (p0_land_ones : Nat → Int32) (p0_land_others : Nat → Int32) (p0_land_worths : Nat → Int32) (v1 : Int32) (v2 : Int32) (q : Int32) (hf : f_X6_share v1 v2 p0_land_persons p0_land_oaths p0_now_sworn p0_land_ones p0_land_others p0_land_worths = some q) : CtI l D cI cZ yX6_share wsX6_share 2 48 [.ref a_p0, .int v1, .int v2] [(a_p0, .inr (6, [.ref a_p0_text, .ref a_p0_reader, .ref a_p0_draft, .ref a_p0_land, .ref a_p0_now, .ref a_p0_trial, .ref a_p0_acts, .ref a_p0_hearings, .ref a_p0_kept, .int p0_keptSlots, .long p0_seedNow])), (a_p0_land, .inr (1, [.ref a_p0_land_places, .ref a_p0_land_kinds, .ref a_p0_land_clapPlaces, .ref a_p0_land_louds, .ref a_p0_land_ones, .ref a_p0_land_others, .ref a_p0_land_worths, .ref a_p0_land_hangs, .int p0_land_persons, .int p0_land_skies, .int p0_land_oaths])), (a_p0_now, .inr (4, [.ref a_p0_land, .int p0_now_places, .int p0_now_wool, .int p0_now_sworn, .int p0_now_worth, .int p0_now_day])), (a_p0_land_ones, .inl (cI, 5, .inl p0_land_ones)), (a_p0_land_others, .inl (cI, 5, .inl p0_land_others)), (a_p0_land_worths, .inl (cI, 5, .inl p0_land_worths))] (fun q => [(a_p0, .inr (6, [.ref a_p0_text, .ref a_p0_reader, .ref a_p0_draft, .ref a_p0_land, .ref a_p0_now, .ref a_p0_trial, .ref a_p0_acts, .ref a_p0_hearings, .ref a_p0_kept, .int p0_keptSlots, .long p0_seedNow])), (a_p0_land, .inr (1, [.ref a_p0_land_places, .ref a_p0_land_kinds, .ref a_p0_land_clapPlaces, .ref a_p0_land_louds, .ref a_p0_land_ones, .ref a_p0_land_others, .ref a_p0_land_worths, .ref a_p0_land_hangs, .int p0_land_persons, .int p0_land_skies, .int p0_land_oaths])), (a_p0_now, .inr (4, [.ref a_p0_land, .int p0_now_places, .int p0_now_wool, .int p0_now_sworn, .int p0_now_worth, .int p0_now_day])), (a_p0_land_ones, .inl (cI, 5, .inl p0_land_ones)), (a_p0_land_others, .inl (cI, 5, .inl p0_land_others)), (a_p0_land_worths, .inl (cI, 5, .inl p0_land_worths))]) (fun q => q) q := by
  refine CtI.of (cc := cX6_share) (maxL := 3) (plainFor_of_name (by decide)) rfl (Nat.le_of_ble_eq_true rfl) ?_
  intro p e s m args below meth c A Q H ls hB hE hW hl
  have hx := hB.1
  have hb := hB.2.1
  have hml := hB.2.2.2.1
  have hown : s.vm.findClass RX6 = some m.cls := hB.2.2.2.2.1
  have hts := hB.2.2.2.2.2.1
  have hK := hB.2.2.2.2.2.2.2.1.1
  have hl : lv_has ls 3 [(0, .ref a_p0), (1, .int v1), (2, .int v2)] := hl
  have in_X4 : ∀ w ∈ wsX40, w ∈ wsX6_share := fun w h => List.mem_cons_of_mem _ (List.mem_append_left _ (List.mem_append_right _ h))
  have in_X6 : ∀ w ∈ wsX60, w ∈ wsX6_share := fun w h => List.mem_cons_of_mem _ (List.mem_append_left _ (List.mem_append_left _ (List.mem_append_right _ h)))
  have fl_32 : (Cond.fieldLink RX6 32 (TX6 3).1 (TX6 3).2.1 (TX6 3).2.2.1).before args s = true := hts (.fieldLink RX6 32 "ClapOaths" "land" "LClapOaths$County;") (by decide +kernel)
  have fl_40 : (Cond.fieldLink RX6 40 (TX6 4).1 (TX6 4).2.1 (TX6 4).2.2.1).before args s = true := hts (.fieldLink RX6 40 "ClapOaths" "now" "LClapOaths$Standing;") (by decide +kernel)
  have fl_125 : (Cond.fieldLink RX6 125 (TX4 3).1 (TX4 3).2.1 (TX4 3).2.2.1).before args s = true := hts (.fieldLink RX6 125 "ClapOaths$Standing" "sworn" "I") (by decide +kernel)
  unfold f_X6_share at hf
  refine lv_aload_n hx hb dX6_share_0 rfl (lv_at hl 0 rfl) ?_
  refine q_get hB hW 6 in_X6 0 rfl rfl 3 (by decide) fl_32 (v := .ref a_p0_land) rfl dX6_share_1 ?_
  refine lv_iload_n hx hb dX6_share_4 rfl (lv_at hl 1 rfl) ?_
  obtain ⟨r_1, hr_1, hf⟩ := bnd hf
  refine q_callVZ hB hW (ci := 1) (q0 := 0) rfl rfl rfl (As := [.int v1]) (rest := []) (ws' := [(a_p0, .inr (6, [.ref a_p0_text, .ref a_p0_reader, .ref a_p0_draft, .ref a_p0_land, .ref a_p0_now, .ref a_p0_trial, .ref a_p0_acts, .ref a_p0_hearings, .ref a_p0_kept, .int p0_keptSlots, .long p0_seedNow])), (a_p0_land, .inr (1, [.ref a_p0_land_places, .ref a_p0_land_kinds, .ref a_p0_land_clapPlaces, .ref a_p0_land_louds, .ref a_p0_land_ones, .ref a_p0_land_others, .ref a_p0_land_worths, .ref a_p0_land_hangs, .int p0_land_persons, .int p0_land_skies, .int p0_land_oaths])), (a_p0_now, .inr (4, [.ref a_p0_land, .int p0_now_places, .int p0_now_wool, .int p0_now_sworn, .int p0_now_worth, .int p0_now_day])), (a_p0_land_ones, .inl (cI, 5, .inl p0_land_ones)), (a_p0_land_others, .inl (cI, 5, .inl p0_land_others)), (a_p0_land_worths, .inl (cI, 5, .inl p0_land_worths))]) (c_X1_hasPerson l D cI cZ a_p0_land a_p0_land_places a_p0_land_kinds a_p0_land_clapPlaces a_p0_land_louds a_p0_land_ones a_p0_land_others a_p0_land_worths a_p0_land_hangs p0_land_persons p0_land_skies p0_land_oaths v1 r_1 hr_1) (cwV 1 hts gX6_share_X1_hasPerson rfl rfl rfl (by decide +kernel) ⟨Nat.le_of_ble_eq_true rfl, Nat.le_of_ble_eq_true rfl⟩) [1] rfl rfl rfl rfl rfl hl.1 rfl (Nat.le_of_ble_eq_true rfl) ⟨Nat.le_of_ble_eq_true rfl, Nat.le_of_ble_eq_true rfl⟩ dX6_share_5 (fun hzr_1 H locs hW => ?_)
  refine lv_if_ne (tgt := 13) hx hb dX6_share_8 (by decide) (fun c_2 => ?_) (fun c_2 => ?_)
  · have hf := it_f c_2 hf
    refine lv_aload_n hx hb dX6_share_13 rfl (lv_at hl 0 rfl) ?_
    refine q_get hB hW 6 in_X6 0 rfl rfl 3 (by decide) fl_32 (v := .ref a_p0_land) rfl dX6_share_14 ?_
    refine lv_aload_n hx hb dX6_share_17 rfl (lv_at hl 0 rfl) ?_
    refine q_get hB hW 6 in_X6 0 rfl rfl 3 (by decide) fl_32 (v := .ref a_p0_land) rfl dX6_share_18 ?_
    refine lv_iload_n hx hb dX6_share_21 rfl (lv_at hl 1 rfl) ?_
    obtain ⟨r_3, hr_3, hf⟩ := bnd hf
    refine q_callVI hB hW (ci := 1) (q0 := 0) rfl rfl rfl (As := [.int v1]) (rest := [.ref a_p0_land]) (ws' := [(a_p0, .inr (6, [.ref a_p0_text, .ref a_p0_reader, .ref a_p0_draft, .ref a_p0_land, .ref a_p0_now, .ref a_p0_trial, .ref a_p0_acts, .ref a_p0_hearings, .ref a_p0_kept, .int p0_keptSlots, .long p0_seedNow])), (a_p0_land, .inr (1, [.ref a_p0_land_places, .ref a_p0_land_kinds, .ref a_p0_land_clapPlaces, .ref a_p0_land_louds, .ref a_p0_land_ones, .ref a_p0_land_others, .ref a_p0_land_worths, .ref a_p0_land_hangs, .int p0_land_persons, .int p0_land_skies, .int p0_land_oaths])), (a_p0_now, .inr (4, [.ref a_p0_land, .int p0_now_places, .int p0_now_wool, .int p0_now_sworn, .int p0_now_worth, .int p0_now_day])), (a_p0_land_ones, .inl (cI, 5, .inl p0_land_ones)), (a_p0_land_others, .inl (cI, 5, .inl p0_land_others)), (a_p0_land_worths, .inl (cI, 5, .inl p0_land_worths))]) (c_X1_oathsOf l D cI cZ a_p0_land a_p0_land_places a_p0_land_kinds a_p0_land_clapPlaces a_p0_land_louds a_p0_land_ones a_p0_land_others a_p0_land_worths a_p0_land_hangs p0_land_persons p0_land_skies p0_land_oaths p0_land_ones p0_land_others v1 r_3 hr_3) (cwV 1 hts gX6_share_X1_oathsOf rfl rfl rfl (by decide +kernel) ⟨Nat.le_of_ble_eq_true rfl, Nat.le_of_ble_eq_true rfl⟩) [1, 3, 4] rfl rfl rfl rfl rfl hl.1 rfl (Nat.le_of_ble_eq_true rfl) ⟨Nat.le_of_ble_eq_true rfl, Nat.le_of_ble_eq_true rfl⟩ dX6_share_22 (fun H locs hW => ?_)
    refine lv_aload_n hx hb dX6_share_25 rfl (lv_at hl 0 rfl) ?_
    refine q_get hB hW 6 in_X6 0 rfl rfl 4 (by decide) fl_40 (v := .ref a_p0_now) rfl dX6_share_26 ?_
    refine q_get hB hW 4 in_X4 2 rfl rfl 3 (by decide) fl_125 (v := .int p0_now_sworn) rfl dX6_share_29 ?_
    refine lv_iand hx hb dX6_share_32 ?_
    obtain ⟨r_4, hr_4, hf⟩ := bnd hf
    refine q_callVI hB hW (ci := 1) (q0 := 0) rfl rfl rfl (As := [.int (r_3 &&& p0_now_sworn)]) (rest := []) (ws' := [(a_p0, .inr (6, [.ref a_p0_text, .ref a_p0_reader, .ref a_p0_draft, .ref a_p0_land, .ref a_p0_now, .ref a_p0_trial, .ref a_p0_acts, .ref a_p0_hearings, .ref a_p0_kept, .int p0_keptSlots, .long p0_seedNow])), (a_p0_land, .inr (1, [.ref a_p0_land_places, .ref a_p0_land_kinds, .ref a_p0_land_clapPlaces, .ref a_p0_land_louds, .ref a_p0_land_ones, .ref a_p0_land_others, .ref a_p0_land_worths, .ref a_p0_land_hangs, .int p0_land_persons, .int p0_land_skies, .int p0_land_oaths])), (a_p0_now, .inr (4, [.ref a_p0_land, .int p0_now_places, .int p0_now_wool, .int p0_now_sworn, .int p0_now_worth, .int p0_now_day])), (a_p0_land_ones, .inl (cI, 5, .inl p0_land_ones)), (a_p0_land_others, .inl (cI, 5, .inl p0_land_others)), (a_p0_land_worths, .inl (cI, 5, .inl p0_land_worths))]) (c_X1_worthOf l D cI cZ a_p0_land a_p0_land_places a_p0_land_kinds a_p0_land_clapPlaces a_p0_land_louds a_p0_land_ones a_p0_land_others a_p0_land_worths a_p0_land_hangs p0_land_persons p0_land_skies p0_land_oaths p0_land_worths (r_3 &&& p0_now_sworn) r_4 hr_4) (cwV 1 hts gX6_share_X1_worthOf rfl rfl rfl (by decide +kernel) ⟨Nat.le_of_ble_eq_true rfl, Nat.le_of_ble_eq_true rfl⟩) [1, 5] rfl rfl rfl rfl rfl hl.1 rfl (Nat.le_of_ble_eq_true rfl) ⟨Nat.le_of_ble_eq_true rfl, Nat.le_of_ble_eq_true rfl⟩ dX6_share_33 (fun H locs hW => ?_)
    refine lv_iconst (v := 2) hx hb dX6_share_36 (by decide) ?_
    refine lv_iload_n hx hb dX6_share_37 rfl (lv_at hl 2 rfl) ?_
    obtain ⟨r_5, hr_5, hf⟩ := bnd hf
    refine q_callSI hB hW (As := [.int r_4, .int (2 : Int32), .int v2]) (rest := []) (ws' := [(a_p0, .inr (6, [.ref a_p0_text, .ref a_p0_reader, .ref a_p0_draft, .ref a_p0_land, .ref a_p0_now, .ref a_p0_trial, .ref a_p0_acts, .ref a_p0_hearings, .ref a_p0_kept, .int p0_keptSlots, .long p0_seedNow])), (a_p0_land, .inr (1, [.ref a_p0_land_places, .ref a_p0_land_kinds, .ref a_p0_land_clapPlaces, .ref a_p0_land_louds, .ref a_p0_land_ones, .ref a_p0_land_others, .ref a_p0_land_worths, .ref a_p0_land_hangs, .int p0_land_persons, .int p0_land_skies, .int p0_land_oaths])), (a_p0_now, .inr (4, [.ref a_p0_land, .int p0_now_places, .int p0_now_wool, .int p0_now_sworn, .int p0_now_worth, .int p0_now_day])), (a_p0_land_ones, .inl (cI, 5, .inl p0_land_ones)), (a_p0_land_others, .inl (cI, 5, .inl p0_land_others)), (a_p0_land_worths, .inl (cI, 5, .inl p0_land_worths))]) (c_X6_fraction l D cI cZ r_4 (2 : Int32) v2 r_5 hr_5) (va_cwS 3 hts gX6_share_X6_fraction rfl rfl rfl (by decide +kernel) ⟨Nat.le_of_ble_eq_true rfl, Nat.le_of_ble_eq_true rfl⟩) [] rfl rfl rfl rfl rfl hl.1 rfl (Nat.le_of_ble_eq_true rfl) ⟨Nat.le_of_ble_eq_true rfl, Nat.le_of_ble_eq_true rfl⟩ dX6_share_38 (fun H locs hW => ?_)
    exact hE _ _ _ _ _ r_5 (sm hf) hW rfl dX6_share_41
  · have hf := it_t c_2 hf
    refine lv_iconst (v := -1) hx hb dX6_share_11 (by decide) ?_
    exact hE _ _ _ _ _ (-1 : Int32) (sm hf) hW rfl dX6_share_12
def f_X6_gain (v1 : Int32) (v2 : Int32) (v3 : Int32) (v4 : Int32) (p0_land_persons : Int32) (p0_land_skies : Int32) (p0_land_oaths : Int32) (p0_now_places : Int32) (p0_now_wool : Int32) (p0_now_sworn : Int32) (p0_now_worth : Int32) (p0_now_day : Int32) (p0_trial_places : Int32) (p0_trial_wool : Int32) (p0_trial_sworn : Int32) (p0_trial_worth : Int32) (p0_trial_day : Int32) (p0_land_kinds : Nat → Int32) (p0_land_clapPlaces : Nat → Int32) (p0_land_louds : Nat → Int32) (p0_land_ones : Nat → Int32) (p0_land_others : Nat → Int32) (p0_land_worths : Nat → Int32) (p0_land_hangs : Nat → Int32) : Option (Int32 × Int32 × Int32 × Int32 × Int32 × Int32) := (f_X4_copyFrom p0_trial_places p0_trial_wool p0_trial_sworn p0_trial_worth p0_trial_day p0_now_places p0_now_wool p0_now_sworn p0_now_worth p0_now_day).bind fun r_1 => (f_X4_chooseWool v1 v2 r_1.2.1 p0_land_persons p0_land_kinds).bind fun r_2 => (f_X4_chooseWool v3 v4 r_2 p0_land_persons p0_land_kinds).bind fun r_3 => (f_X4_passDay (1 : Int32) r_1.1 r_3 r_1.2.2.1 r_1.2.2.2.1 r_1.2.2.2.2 p0_land_persons p0_land_skies p0_land_oaths p0_land_kinds p0_land_clapPlaces p0_land_louds p0_land_ones p0_land_others p0_land_worths p0_land_hangs).bind fun r_4 => (f_X1_oathsOf v1 p0_land_oaths p0_land_ones p0_land_others).bind fun r_5 => (f_X1_worthOf (r_5 &&& r_4.2.1) p0_land_oaths p0_land_worths).bind fun r_6 => some ((r_6 - v2), r_1.1, r_3, r_4.2.1, r_4.2.2.1, r_4.2.2.2)
set_option maxHeartbeats 4000000 in
set_option maxRecDepth 100000 in
theorem c_X6_gain (l : Launch) (D : va_G) (cI cZ : ClassId) (a_p0 a_p0_text a_p0_reader a_p0_draft a_p0_land a_p0_now a_p0_trial a_p0_acts a_p0_hearings a_p0_kept a_p0_land_places a_p0_land_kinds a_p0_land_clapPlaces a_p0_land_louds a_p0_land_ones a_p0_land_others a_p0_land_worths a_p0_land_hangs : Nat) (p0_keptSlots : Int32) (p0_seedNow : Int64) (p0_land_persons : Int32) (p0_land_skies : Int32) (p0_land_oaths : Int32) (p0_now_places : Int32) (p0_now_wool : Int32) (p0_now_sworn : Int32) (p0_now_worth : Int32) (p0_now_day : Int32) (p0_trial_places : Int32) (p0_trial_wool : Int32) (p0_trial_sworn : Int32) (p0_trial_worth : Int32) (p0_trial_day : Int32) (p0_land_kinds : Nat → Int32) (p0_land_clapPlaces : Nat → Int32) (p0_land_louds : Nat → Int32) (p0_land_ones : Nat → Int32) (p0_land_others : Nat → Int32) (p0_land_worths : Nat → Int32) (p0_land_hangs : Nat → Int32) (v1 : Int32) (v2 : Int32) (v3 : Int32) (v4 : Int32) (q : Int32 × Int32 × Int32 × Int32 × Int32 × Int32) (hf : f_X6_gain v1 v2 v3 v4 p0_land_persons p0_land_skies p0_land_oaths p0_now_places p0_now_wool p0_now_sworn p0_now_worth p0_now_day p0_trial_places p0_trial_wool p0_trial_sworn p0_trial_worth p0_trial_day p0_land_kinds p0_land_clapPlaces p0_land_louds p0_land_ones p0_land_others p0_land_worths p0_land_hangs = some q) : CtI l D cI cZ yX6_gain wsX6_gain 4 92 [.ref a_p0, .int v1, .int v2, .int v3, .int v4] [(a_p0, .inr (6, [.ref a_p0_text, .ref a_p0_reader, .ref a_p0_draft, .ref a_p0_land, .ref a_p0_now, .ref a_p0_trial, .ref a_p0_acts, .ref a_p0_hearings, .ref a_p0_kept, .int p0_keptSlots, .long p0_seedNow])), (a_p0_land, .inr (1, [.ref a_p0_land_places, .ref a_p0_land_kinds, .ref a_p0_land_clapPlaces, .ref a_p0_land_louds, .ref a_p0_land_ones, .ref a_p0_land_others, .ref a_p0_land_worths, .ref a_p0_land_hangs, .int p0_land_persons, .int p0_land_skies, .int p0_land_oaths])), (a_p0_now, .inr (4, [.ref a_p0_land, .int p0_now_places, .int p0_now_wool, .int p0_now_sworn, .int p0_now_worth, .int p0_now_day])), (a_p0_trial, .inr (4, [.ref a_p0_land, .int p0_trial_places, .int p0_trial_wool, .int p0_trial_sworn, .int p0_trial_worth, .int p0_trial_day])), (a_p0_land_kinds, .inl (cI, 5, .inl p0_land_kinds)), (a_p0_land_clapPlaces, .inl (cI, 5, .inl p0_land_clapPlaces)), (a_p0_land_louds, .inl (cI, 5, .inl p0_land_louds)), (a_p0_land_ones, .inl (cI, 5, .inl p0_land_ones)), (a_p0_land_others, .inl (cI, 5, .inl p0_land_others)), (a_p0_land_worths, .inl (cI, 5, .inl p0_land_worths)), (a_p0_land_hangs, .inl (cI, 5, .inl p0_land_hangs))] (fun q => [(a_p0, .inr (6, [.ref a_p0_text, .ref a_p0_reader, .ref a_p0_draft, .ref a_p0_land, .ref a_p0_now, .ref a_p0_trial, .ref a_p0_acts, .ref a_p0_hearings, .ref a_p0_kept, .int p0_keptSlots, .long p0_seedNow])), (a_p0_land, .inr (1, [.ref a_p0_land_places, .ref a_p0_land_kinds, .ref a_p0_land_clapPlaces, .ref a_p0_land_louds, .ref a_p0_land_ones, .ref a_p0_land_others, .ref a_p0_land_worths, .ref a_p0_land_hangs, .int p0_land_persons, .int p0_land_skies, .int p0_land_oaths])), (a_p0_now, .inr (4, [.ref a_p0_land, .int p0_now_places, .int p0_now_wool, .int p0_now_sworn, .int p0_now_worth, .int p0_now_day])), (a_p0_trial, .inr (4, [.ref a_p0_land, .int q.2.1, .int q.2.2.1, .int q.2.2.2.1, .int q.2.2.2.2.1, .int q.2.2.2.2.2])), (a_p0_land_kinds, .inl (cI, 5, .inl p0_land_kinds)), (a_p0_land_clapPlaces, .inl (cI, 5, .inl p0_land_clapPlaces)), (a_p0_land_louds, .inl (cI, 5, .inl p0_land_louds)), (a_p0_land_ones, .inl (cI, 5, .inl p0_land_ones)), (a_p0_land_others, .inl (cI, 5, .inl p0_land_others)), (a_p0_land_worths, .inl (cI, 5, .inl p0_land_worths)), (a_p0_land_hangs, .inl (cI, 5, .inl p0_land_hangs))]) (fun q => q.1) q := by
  refine CtI.of (cc := cX6_gain) (maxL := 5) (plainFor_of_name (by decide)) rfl (Nat.le_of_ble_eq_true rfl) ?_
  intro p e s m args below meth c A Q H ls hB hE hW hl
  have hx := hB.1
  have hb := hB.2.1
  have hml := hB.2.2.2.1
  have hown : s.vm.findClass RX6 = some m.cls := hB.2.2.2.2.1
  have hts := hB.2.2.2.2.2.1
  have hK := hB.2.2.2.2.2.2.2.1.1
  have hl : lv_has ls 5 [(0, .ref a_p0), (1, .int v1), (2, .int v2), (3, .int v3), (4, .int v4)] := hl
  have in_X4 : ∀ w ∈ wsX40, w ∈ wsX6_gain := fun w h => List.mem_cons_of_mem _ (List.mem_append_left _ (List.mem_append_right _ h))
  have in_X6 : ∀ w ∈ wsX60, w ∈ wsX6_gain := fun w h => List.mem_cons_of_mem _ (List.mem_append_left _ (List.mem_append_left _ (List.mem_append_right _ h)))
  have fl_32 : (Cond.fieldLink RX6 32 (TX6 3).1 (TX6 3).2.1 (TX6 3).2.2.1).before args s = true := hts (.fieldLink RX6 32 "ClapOaths" "land" "LClapOaths$County;") (by decide +kernel)
  have fl_40 : (Cond.fieldLink RX6 40 (TX6 4).1 (TX6 4).2.1 (TX6 4).2.2.1).before args s = true := hts (.fieldLink RX6 40 "ClapOaths" "now" "LClapOaths$Standing;") (by decide +kernel)
  have fl_44 : (Cond.fieldLink RX6 44 (TX6 5).1 (TX6 5).2.1 (TX6 5).2.2.1).before args s = true := hts (.fieldLink RX6 44 "ClapOaths" "trial" "LClapOaths$Standing;") (by decide +kernel)
  have fl_125 : (Cond.fieldLink RX6 125 (TX4 3).1 (TX4 3).2.1 (TX4 3).2.2.1).before args s = true := hts (.fieldLink RX6 125 "ClapOaths$Standing" "sworn" "I") (by decide +kernel)
  unfold f_X6_gain at hf
  refine lv_aload_n hx hb dX6_gain_0 rfl (lv_at hl 0 rfl) ?_
  refine q_get hB hW 6 in_X6 0 rfl rfl 5 (by decide) fl_44 (v := .ref a_p0_trial) rfl dX6_gain_1 ?_
  refine lv_aload_n hx hb dX6_gain_4 rfl (lv_at hl 0 rfl) ?_
  refine q_get hB hW 6 in_X6 0 rfl rfl 4 (by decide) fl_40 (v := .ref a_p0_now) rfl dX6_gain_5 ?_
  obtain ⟨r_1, hr_1, hf⟩ := bnd hf
  refine q_callVV hB hW (ci := 4) (q0 := 0) rfl rfl rfl (As := [.ref a_p0_now]) (rest := []) (ws' := [(a_p0, .inr (6, [.ref a_p0_text, .ref a_p0_reader, .ref a_p0_draft, .ref a_p0_land, .ref a_p0_now, .ref a_p0_trial, .ref a_p0_acts, .ref a_p0_hearings, .ref a_p0_kept, .int p0_keptSlots, .long p0_seedNow])), (a_p0_land, .inr (1, [.ref a_p0_land_places, .ref a_p0_land_kinds, .ref a_p0_land_clapPlaces, .ref a_p0_land_louds, .ref a_p0_land_ones, .ref a_p0_land_others, .ref a_p0_land_worths, .ref a_p0_land_hangs, .int p0_land_persons, .int p0_land_skies, .int p0_land_oaths])), (a_p0_now, .inr (4, [.ref a_p0_land, .int p0_now_places, .int p0_now_wool, .int p0_now_sworn, .int p0_now_worth, .int p0_now_day])), (a_p0_trial, .inr (4, [.ref a_p0_land, .int r_1.1, .int r_1.2.1, .int r_1.2.2.1, .int r_1.2.2.2.1, .int r_1.2.2.2.2])), (a_p0_land_kinds, .inl (cI, 5, .inl p0_land_kinds)), (a_p0_land_clapPlaces, .inl (cI, 5, .inl p0_land_clapPlaces)), (a_p0_land_louds, .inl (cI, 5, .inl p0_land_louds)), (a_p0_land_ones, .inl (cI, 5, .inl p0_land_ones)), (a_p0_land_others, .inl (cI, 5, .inl p0_land_others)), (a_p0_land_worths, .inl (cI, 5, .inl p0_land_worths)), (a_p0_land_hangs, .inl (cI, 5, .inl p0_land_hangs))]) (c_X4_copyFrom l D cI cZ a_p0_trial a_p0_now a_p0_land a_p0_land p0_trial_places p0_trial_wool p0_trial_sworn p0_trial_worth p0_trial_day p0_now_places p0_now_wool p0_now_sworn p0_now_worth p0_now_day r_1 hr_1) (cwV 1 hts gX6_gain_X4_copyFrom rfl rfl rfl (by decide +kernel) ⟨Nat.le_of_ble_eq_true rfl, Nat.le_of_ble_eq_true rfl⟩) [3, 2] rfl rfl rfl rfl rfl hl.1 rfl (Nat.le_of_ble_eq_true rfl) ⟨Nat.le_of_ble_eq_true rfl, Nat.le_of_ble_eq_true rfl⟩ dX6_gain_8 (fun H locs hW => ?_)
  refine lv_aload_n hx hb dX6_gain_11 rfl (lv_at hl 0 rfl) ?_
  refine q_get hB hW 6 in_X6 0 rfl rfl 5 (by decide) fl_44 (v := .ref a_p0_trial) rfl dX6_gain_12 ?_
  refine lv_iload_n hx hb dX6_gain_15 rfl (lv_at hl 1 rfl) ?_
  refine lv_iload_n hx hb dX6_gain_16 rfl (lv_at hl 2 rfl) ?_
  obtain ⟨r_2, hr_2, hf⟩ := bnd hf
  refine q_callVV hB hW (ci := 4) (q0 := 0) rfl rfl rfl (As := [.int v1, .int v2]) (rest := []) (ws' := [(a_p0, .inr (6, [.ref a_p0_text, .ref a_p0_reader, .ref a_p0_draft, .ref a_p0_land, .ref a_p0_now, .ref a_p0_trial, .ref a_p0_acts, .ref a_p0_hearings, .ref a_p0_kept, .int p0_keptSlots, .long p0_seedNow])), (a_p0_land, .inr (1, [.ref a_p0_land_places, .ref a_p0_land_kinds, .ref a_p0_land_clapPlaces, .ref a_p0_land_louds, .ref a_p0_land_ones, .ref a_p0_land_others, .ref a_p0_land_worths, .ref a_p0_land_hangs, .int p0_land_persons, .int p0_land_skies, .int p0_land_oaths])), (a_p0_now, .inr (4, [.ref a_p0_land, .int p0_now_places, .int p0_now_wool, .int p0_now_sworn, .int p0_now_worth, .int p0_now_day])), (a_p0_trial, .inr (4, [.ref a_p0_land, .int r_1.1, .int r_2, .int r_1.2.2.1, .int r_1.2.2.2.1, .int r_1.2.2.2.2])), (a_p0_land_kinds, .inl (cI, 5, .inl p0_land_kinds)), (a_p0_land_clapPlaces, .inl (cI, 5, .inl p0_land_clapPlaces)), (a_p0_land_louds, .inl (cI, 5, .inl p0_land_louds)), (a_p0_land_ones, .inl (cI, 5, .inl p0_land_ones)), (a_p0_land_others, .inl (cI, 5, .inl p0_land_others)), (a_p0_land_worths, .inl (cI, 5, .inl p0_land_worths)), (a_p0_land_hangs, .inl (cI, 5, .inl p0_land_hangs))]) (c_X4_chooseWool l D cI cZ a_p0_trial a_p0_land a_p0_land_places a_p0_land_kinds a_p0_land_clapPlaces a_p0_land_louds a_p0_land_ones a_p0_land_others a_p0_land_worths a_p0_land_hangs r_1.1 r_1.2.1 r_1.2.2.1 r_1.2.2.2.1 r_1.2.2.2.2 p0_land_persons p0_land_skies p0_land_oaths p0_land_kinds v1 v2 r_2 hr_2) (cwV 2 hts gX6_gain_X4_chooseWool rfl rfl rfl (by decide +kernel) ⟨Nat.le_of_ble_eq_true rfl, Nat.le_of_ble_eq_true rfl⟩) [3, 1, 4] rfl rfl rfl rfl rfl hl.1 rfl (Nat.le_of_ble_eq_true rfl) ⟨Nat.le_of_ble_eq_true rfl, Nat.le_of_ble_eq_true rfl⟩ dX6_gain_17 (fun H locs hW => ?_)
  refine lv_aload_n hx hb dX6_gain_20 rfl (lv_at hl 0 rfl) ?_
  refine q_get hB hW 6 in_X6 0 rfl rfl 5 (by decide) fl_44 (v := .ref a_p0_trial) rfl dX6_gain_21 ?_
  refine lv_iload_n hx hb dX6_gain_24 rfl (lv_at hl 3 rfl) ?_
  refine lv_iload hx hb dX6_gain_25 (lv_at hl 4 rfl) ?_
  obtain ⟨r_3, hr_3, hf⟩ := bnd hf
  refine q_callVV hB hW (ci := 4) (q0 := 0) rfl rfl rfl (As := [.int v3, .int v4]) (rest := []) (ws' := [(a_p0, .inr (6, [.ref a_p0_text, .ref a_p0_reader, .ref a_p0_draft, .ref a_p0_land, .ref a_p0_now, .ref a_p0_trial, .ref a_p0_acts, .ref a_p0_hearings, .ref a_p0_kept, .int p0_keptSlots, .long p0_seedNow])), (a_p0_land, .inr (1, [.ref a_p0_land_places, .ref a_p0_land_kinds, .ref a_p0_land_clapPlaces, .ref a_p0_land_louds, .ref a_p0_land_ones, .ref a_p0_land_others, .ref a_p0_land_worths, .ref a_p0_land_hangs, .int p0_land_persons, .int p0_land_skies, .int p0_land_oaths])), (a_p0_now, .inr (4, [.ref a_p0_land, .int p0_now_places, .int p0_now_wool, .int p0_now_sworn, .int p0_now_worth, .int p0_now_day])), (a_p0_trial, .inr (4, [.ref a_p0_land, .int r_1.1, .int r_3, .int r_1.2.2.1, .int r_1.2.2.2.1, .int r_1.2.2.2.2])), (a_p0_land_kinds, .inl (cI, 5, .inl p0_land_kinds)), (a_p0_land_clapPlaces, .inl (cI, 5, .inl p0_land_clapPlaces)), (a_p0_land_louds, .inl (cI, 5, .inl p0_land_louds)), (a_p0_land_ones, .inl (cI, 5, .inl p0_land_ones)), (a_p0_land_others, .inl (cI, 5, .inl p0_land_others)), (a_p0_land_worths, .inl (cI, 5, .inl p0_land_worths)), (a_p0_land_hangs, .inl (cI, 5, .inl p0_land_hangs))]) (c_X4_chooseWool l D cI cZ a_p0_trial a_p0_land a_p0_land_places a_p0_land_kinds a_p0_land_clapPlaces a_p0_land_louds a_p0_land_ones a_p0_land_others a_p0_land_worths a_p0_land_hangs r_1.1 r_2 r_1.2.2.1 r_1.2.2.2.1 r_1.2.2.2.2 p0_land_persons p0_land_skies p0_land_oaths p0_land_kinds v3 v4 r_3 hr_3) (cwV 2 hts gX6_gain_X4_chooseWool rfl rfl rfl (by decide +kernel) ⟨Nat.le_of_ble_eq_true rfl, Nat.le_of_ble_eq_true rfl⟩) [3, 1, 4] rfl rfl rfl rfl rfl hl.1 rfl (Nat.le_of_ble_eq_true rfl) ⟨Nat.le_of_ble_eq_true rfl, Nat.le_of_ble_eq_true rfl⟩ dX6_gain_27 (fun H locs hW => ?_)
  refine lv_aload_n hx hb dX6_gain_30 rfl (lv_at hl 0 rfl) ?_
  refine q_get hB hW 6 in_X6 0 rfl rfl 5 (by decide) fl_44 (v := .ref a_p0_trial) rfl dX6_gain_31 ?_
  refine lv_iconst (v := 1) hx hb dX6_gain_34 (by decide) ?_
  obtain ⟨r_4, hr_4, hf⟩ := bnd hf
  refine q_callVI hB hW (ci := 4) (q0 := 0) rfl rfl rfl (As := [.int (1 : Int32)]) (rest := []) (ws' := [(a_p0, .inr (6, [.ref a_p0_text, .ref a_p0_reader, .ref a_p0_draft, .ref a_p0_land, .ref a_p0_now, .ref a_p0_trial, .ref a_p0_acts, .ref a_p0_hearings, .ref a_p0_kept, .int p0_keptSlots, .long p0_seedNow])), (a_p0_land, .inr (1, [.ref a_p0_land_places, .ref a_p0_land_kinds, .ref a_p0_land_clapPlaces, .ref a_p0_land_louds, .ref a_p0_land_ones, .ref a_p0_land_others, .ref a_p0_land_worths, .ref a_p0_land_hangs, .int p0_land_persons, .int p0_land_skies, .int p0_land_oaths])), (a_p0_now, .inr (4, [.ref a_p0_land, .int p0_now_places, .int p0_now_wool, .int p0_now_sworn, .int p0_now_worth, .int p0_now_day])), (a_p0_trial, .inr (4, [.ref a_p0_land, .int r_1.1, .int r_3, .int r_4.2.1, .int r_4.2.2.1, .int r_4.2.2.2])), (a_p0_land_kinds, .inl (cI, 5, .inl p0_land_kinds)), (a_p0_land_clapPlaces, .inl (cI, 5, .inl p0_land_clapPlaces)), (a_p0_land_louds, .inl (cI, 5, .inl p0_land_louds)), (a_p0_land_ones, .inl (cI, 5, .inl p0_land_ones)), (a_p0_land_others, .inl (cI, 5, .inl p0_land_others)), (a_p0_land_worths, .inl (cI, 5, .inl p0_land_worths)), (a_p0_land_hangs, .inl (cI, 5, .inl p0_land_hangs))]) (c_X4_passDay l D cI cZ a_p0_trial a_p0_land a_p0_land_places a_p0_land_kinds a_p0_land_clapPlaces a_p0_land_louds a_p0_land_ones a_p0_land_others a_p0_land_worths a_p0_land_hangs r_1.1 r_3 r_1.2.2.1 r_1.2.2.2.1 r_1.2.2.2.2 p0_land_persons p0_land_skies p0_land_oaths p0_land_kinds p0_land_clapPlaces p0_land_louds p0_land_ones p0_land_others p0_land_worths p0_land_hangs (1 : Int32) r_4 hr_4) (cwV 1 hts gX6_gain_X4_passDay rfl rfl rfl (by decide +kernel) ⟨Nat.le_of_ble_eq_true rfl, Nat.le_of_ble_eq_true rfl⟩) [3, 1, 4, 5, 6, 7, 8, 9, 10] rfl rfl rfl rfl rfl hl.1 rfl (Nat.le_of_ble_eq_true rfl) ⟨Nat.le_of_ble_eq_true rfl, Nat.le_of_ble_eq_true rfl⟩ dX6_gain_35 (fun H locs hW => ?_)
  refine lv_pop hx hb dX6_gain_38 rfl ?_
  refine lv_aload_n hx hb dX6_gain_39 rfl (lv_at hl 0 rfl) ?_
  refine q_get hB hW 6 in_X6 0 rfl rfl 3 (by decide) fl_32 (v := .ref a_p0_land) rfl dX6_gain_40 ?_
  refine lv_aload_n hx hb dX6_gain_43 rfl (lv_at hl 0 rfl) ?_
  refine q_get hB hW 6 in_X6 0 rfl rfl 3 (by decide) fl_32 (v := .ref a_p0_land) rfl dX6_gain_44 ?_
  refine lv_iload_n hx hb dX6_gain_47 rfl (lv_at hl 1 rfl) ?_
  obtain ⟨r_5, hr_5, hf⟩ := bnd hf
  refine q_callVI hB hW (ci := 1) (q0 := 0) rfl rfl rfl (As := [.int v1]) (rest := [.ref a_p0_land]) (ws' := [(a_p0, .inr (6, [.ref a_p0_text, .ref a_p0_reader, .ref a_p0_draft, .ref a_p0_land, .ref a_p0_now, .ref a_p0_trial, .ref a_p0_acts, .ref a_p0_hearings, .ref a_p0_kept, .int p0_keptSlots, .long p0_seedNow])), (a_p0_land, .inr (1, [.ref a_p0_land_places, .ref a_p0_land_kinds, .ref a_p0_land_clapPlaces, .ref a_p0_land_louds, .ref a_p0_land_ones, .ref a_p0_land_others, .ref a_p0_land_worths, .ref a_p0_land_hangs, .int p0_land_persons, .int p0_land_skies, .int p0_land_oaths])), (a_p0_now, .inr (4, [.ref a_p0_land, .int p0_now_places, .int p0_now_wool, .int p0_now_sworn, .int p0_now_worth, .int p0_now_day])), (a_p0_trial, .inr (4, [.ref a_p0_land, .int r_1.1, .int r_3, .int r_4.2.1, .int r_4.2.2.1, .int r_4.2.2.2])), (a_p0_land_kinds, .inl (cI, 5, .inl p0_land_kinds)), (a_p0_land_clapPlaces, .inl (cI, 5, .inl p0_land_clapPlaces)), (a_p0_land_louds, .inl (cI, 5, .inl p0_land_louds)), (a_p0_land_ones, .inl (cI, 5, .inl p0_land_ones)), (a_p0_land_others, .inl (cI, 5, .inl p0_land_others)), (a_p0_land_worths, .inl (cI, 5, .inl p0_land_worths)), (a_p0_land_hangs, .inl (cI, 5, .inl p0_land_hangs))]) (c_X1_oathsOf l D cI cZ a_p0_land a_p0_land_places a_p0_land_kinds a_p0_land_clapPlaces a_p0_land_louds a_p0_land_ones a_p0_land_others a_p0_land_worths a_p0_land_hangs p0_land_persons p0_land_skies p0_land_oaths p0_land_ones p0_land_others v1 r_5 hr_5) (cwV 1 hts gX6_gain_X1_oathsOf rfl rfl rfl (by decide +kernel) ⟨Nat.le_of_ble_eq_true rfl, Nat.le_of_ble_eq_true rfl⟩) [1, 7, 8] rfl rfl rfl rfl rfl hl.1 rfl (Nat.le_of_ble_eq_true rfl) ⟨Nat.le_of_ble_eq_true rfl, Nat.le_of_ble_eq_true rfl⟩ dX6_gain_48 (fun H locs hW => ?_)
  refine lv_aload_n hx hb dX6_gain_51 rfl (lv_at hl 0 rfl) ?_
  refine q_get hB hW 6 in_X6 0 rfl rfl 5 (by decide) fl_44 (v := .ref a_p0_trial) rfl dX6_gain_52 ?_
  refine q_get hB hW 4 in_X4 3 rfl rfl 3 (by decide) fl_125 (v := .int r_4.2.1) rfl dX6_gain_55 ?_
  refine lv_iand hx hb dX6_gain_58 ?_
  obtain ⟨r_6, hr_6, hf⟩ := bnd hf
  refine q_callVI hB hW (ci := 1) (q0 := 0) rfl rfl rfl (As := [.int (r_5 &&& r_4.2.1)]) (rest := []) (ws' := [(a_p0, .inr (6, [.ref a_p0_text, .ref a_p0_reader, .ref a_p0_draft, .ref a_p0_land, .ref a_p0_now, .ref a_p0_trial, .ref a_p0_acts, .ref a_p0_hearings, .ref a_p0_kept, .int p0_keptSlots, .long p0_seedNow])), (a_p0_land, .inr (1, [.ref a_p0_land_places, .ref a_p0_land_kinds, .ref a_p0_land_clapPlaces, .ref a_p0_land_louds, .ref a_p0_land_ones, .ref a_p0_land_others, .ref a_p0_land_worths, .ref a_p0_land_hangs, .int p0_land_persons, .int p0_land_skies, .int p0_land_oaths])), (a_p0_now, .inr (4, [.ref a_p0_land, .int p0_now_places, .int p0_now_wool, .int p0_now_sworn, .int p0_now_worth, .int p0_now_day])), (a_p0_trial, .inr (4, [.ref a_p0_land, .int r_1.1, .int r_3, .int r_4.2.1, .int r_4.2.2.1, .int r_4.2.2.2])), (a_p0_land_kinds, .inl (cI, 5, .inl p0_land_kinds)), (a_p0_land_clapPlaces, .inl (cI, 5, .inl p0_land_clapPlaces)), (a_p0_land_louds, .inl (cI, 5, .inl p0_land_louds)), (a_p0_land_ones, .inl (cI, 5, .inl p0_land_ones)), (a_p0_land_others, .inl (cI, 5, .inl p0_land_others)), (a_p0_land_worths, .inl (cI, 5, .inl p0_land_worths)), (a_p0_land_hangs, .inl (cI, 5, .inl p0_land_hangs))]) (c_X1_worthOf l D cI cZ a_p0_land a_p0_land_places a_p0_land_kinds a_p0_land_clapPlaces a_p0_land_louds a_p0_land_ones a_p0_land_others a_p0_land_worths a_p0_land_hangs p0_land_persons p0_land_skies p0_land_oaths p0_land_worths (r_5 &&& r_4.2.1) r_6 hr_6) (cwV 1 hts gX6_gain_X1_worthOf rfl rfl rfl (by decide +kernel) ⟨Nat.le_of_ble_eq_true rfl, Nat.le_of_ble_eq_true rfl⟩) [1, 9] rfl rfl rfl rfl rfl hl.1 rfl (Nat.le_of_ble_eq_true rfl) ⟨Nat.le_of_ble_eq_true rfl, Nat.le_of_ble_eq_true rfl⟩ dX6_gain_59 (fun H locs hW => ?_)
  refine lv_iload_n hx hb dX6_gain_62 rfl (lv_at hl 2 rfl) ?_
  refine lv_isub hx hb dX6_gain_63 ?_
  exact hE _ _ _ _ _ ((r_6 - v2), r_1.1, r_3, r_4.2.1, r_4.2.2.1, r_4.2.2.2) (sm hf) hW rfl dX6_gain_64
def f_X6_isBest (v1 : Int32) (v2 : Int32) (v3 : Int32) (v4 : Int32) (p0_land_persons : Int32) (p0_land_skies : Int32) (p0_land_oaths : Int32) (p0_now_places : Int32) (p0_now_wool : Int32) (p0_now_sworn : Int32) (p0_now_worth : Int32) (p0_now_day : Int32) (p0_trial_places : Int32) (p0_trial_wool : Int32) (p0_trial_sworn : Int32) (p0_trial_worth : Int32) (p0_trial_day : Int32) (p0_land_kinds : Nat → Int32) (p0_land_clapPlaces : Nat → Int32) (p0_land_louds : Nat → Int32) (p0_land_ones : Nat → Int32) (p0_land_others : Nat → Int32) (p0_land_worths : Nat → Int32) (p0_land_hangs : Nat → Int32) : Option (Int32 × Int32 × Int32 × Int32 × Int32 × Int32) := (f_X6_gain v1 v2 v3 v4 p0_land_persons p0_land_skies p0_land_oaths p0_now_places p0_now_wool p0_now_sworn p0_now_worth p0_now_day p0_trial_places p0_trial_wool p0_trial_sworn p0_trial_worth p0_trial_day p0_land_kinds p0_land_clapPlaces p0_land_louds p0_land_ones p0_land_others p0_land_worths p0_land_hangs).bind fun r_1 => (f_X6_gain v1 ((1 : Int32) - v2) v3 v4 p0_land_persons p0_land_skies p0_land_oaths p0_now_places p0_now_wool p0_now_sworn p0_now_worth p0_now_day r_1.2.1 r_1.2.2.1 r_1.2.2.2.1 r_1.2.2.2.2.1 r_1.2.2.2.2.2 p0_land_kinds p0_land_clapPlaces p0_land_louds p0_land_ones p0_land_others p0_land_worths p0_land_hangs).bind fun r_2 => if r_1.1 < r_2.1 then some ((0 : Int32), r_2.2.1, r_2.2.2.1, r_2.2.2.2.1, r_2.2.2.2.2.1, r_2.2.2.2.2.2) else some ((1 : Int32), r_2.2.1, r_2.2.2.1, r_2.2.2.2.1, r_2.2.2.2.2.1, r_2.2.2.2.2.2)
set_option maxHeartbeats 4000000 in
set_option maxRecDepth 100000 in
theorem c_X6_isBest (l : Launch) (D : va_G) (cI cZ : ClassId) (a_p0 a_p0_text a_p0_reader a_p0_draft a_p0_land a_p0_now a_p0_trial a_p0_acts a_p0_hearings a_p0_kept a_p0_land_places a_p0_land_kinds a_p0_land_clapPlaces a_p0_land_louds a_p0_land_ones a_p0_land_others a_p0_land_worths a_p0_land_hangs : Nat) (p0_keptSlots : Int32) (p0_seedNow : Int64) (p0_land_persons : Int32) (p0_land_skies : Int32) (p0_land_oaths : Int32) (p0_now_places : Int32) (p0_now_wool : Int32) (p0_now_sworn : Int32) (p0_now_worth : Int32) (p0_now_day : Int32) (p0_trial_places : Int32) (p0_trial_wool : Int32) (p0_trial_sworn : Int32) (p0_trial_worth : Int32) (p0_trial_day : Int32) (p0_land_kinds : Nat → Int32) (p0_land_clapPlaces : Nat → Int32) (p0_land_louds : Nat → Int32) (p0_land_ones : Nat → Int32) (p0_land_others : Nat → Int32) (p0_land_worths : Nat → Int32) (p0_land_hangs : Nat → Int32) (v1 : Int32) (v2 : Int32) (v3 : Int32) (v4 : Int32) (q : Int32 × Int32 × Int32 × Int32 × Int32 × Int32) (hf : f_X6_isBest v1 v2 v3 v4 p0_land_persons p0_land_skies p0_land_oaths p0_now_places p0_now_wool p0_now_sworn p0_now_worth p0_now_day p0_trial_places p0_trial_wool p0_trial_sworn p0_trial_worth p0_trial_day p0_land_kinds p0_land_clapPlaces p0_land_louds p0_land_ones p0_land_others p0_land_worths p0_land_hangs = some q) : CtZ l D cI cZ yX6_isBest wsX6_isBest 5 116 [.ref a_p0, .int v1, .int v2, .int v3, .int v4] [(a_p0, .inr (6, [.ref a_p0_text, .ref a_p0_reader, .ref a_p0_draft, .ref a_p0_land, .ref a_p0_now, .ref a_p0_trial, .ref a_p0_acts, .ref a_p0_hearings, .ref a_p0_kept, .int p0_keptSlots, .long p0_seedNow])), (a_p0_land, .inr (1, [.ref a_p0_land_places, .ref a_p0_land_kinds, .ref a_p0_land_clapPlaces, .ref a_p0_land_louds, .ref a_p0_land_ones, .ref a_p0_land_others, .ref a_p0_land_worths, .ref a_p0_land_hangs, .int p0_land_persons, .int p0_land_skies, .int p0_land_oaths])), (a_p0_now, .inr (4, [.ref a_p0_land, .int p0_now_places, .int p0_now_wool, .int p0_now_sworn, .int p0_now_worth, .int p0_now_day])), (a_p0_trial, .inr (4, [.ref a_p0_land, .int p0_trial_places, .int p0_trial_wool, .int p0_trial_sworn, .int p0_trial_worth, .int p0_trial_day])), (a_p0_land_kinds, .inl (cI, 5, .inl p0_land_kinds)), (a_p0_land_clapPlaces, .inl (cI, 5, .inl p0_land_clapPlaces)), (a_p0_land_louds, .inl (cI, 5, .inl p0_land_louds)), (a_p0_land_ones, .inl (cI, 5, .inl p0_land_ones)), (a_p0_land_others, .inl (cI, 5, .inl p0_land_others)), (a_p0_land_worths, .inl (cI, 5, .inl p0_land_worths)), (a_p0_land_hangs, .inl (cI, 5, .inl p0_land_hangs))] (fun q => [(a_p0, .inr (6, [.ref a_p0_text, .ref a_p0_reader, .ref a_p0_draft, .ref a_p0_land, .ref a_p0_now, .ref a_p0_trial, .ref a_p0_acts, .ref a_p0_hearings, .ref a_p0_kept, .int p0_keptSlots, .long p0_seedNow])), (a_p0_land, .inr (1, [.ref a_p0_land_places, .ref a_p0_land_kinds, .ref a_p0_land_clapPlaces, .ref a_p0_land_louds, .ref a_p0_land_ones, .ref a_p0_land_others, .ref a_p0_land_worths, .ref a_p0_land_hangs, .int p0_land_persons, .int p0_land_skies, .int p0_land_oaths])), (a_p0_now, .inr (4, [.ref a_p0_land, .int p0_now_places, .int p0_now_wool, .int p0_now_sworn, .int p0_now_worth, .int p0_now_day])), (a_p0_trial, .inr (4, [.ref a_p0_land, .int q.2.1, .int q.2.2.1, .int q.2.2.2.1, .int q.2.2.2.2.1, .int q.2.2.2.2.2])), (a_p0_land_kinds, .inl (cI, 5, .inl p0_land_kinds)), (a_p0_land_clapPlaces, .inl (cI, 5, .inl p0_land_clapPlaces)), (a_p0_land_louds, .inl (cI, 5, .inl p0_land_louds)), (a_p0_land_ones, .inl (cI, 5, .inl p0_land_ones)), (a_p0_land_others, .inl (cI, 5, .inl p0_land_others)), (a_p0_land_worths, .inl (cI, 5, .inl p0_land_worths)), (a_p0_land_hangs, .inl (cI, 5, .inl p0_land_hangs))]) (fun q => q.1) q := by
  refine CtZ.of (cc := cX6_isBest) (maxL := 5) (plainFor_of_name (by decide)) rfl (Nat.le_of_ble_eq_true rfl) ?_
  intro p e s m args below meth c A Q H ls hB hE hW hl
  have hx := hB.1
  have hb := hB.2.1
  have hml := hB.2.2.2.1
  have hown : s.vm.findClass RX6 = some m.cls := hB.2.2.2.2.1
  have hts := hB.2.2.2.2.2.1
  have hK := hB.2.2.2.2.2.2.2.1.1
  have hl : lv_has ls 5 [(0, .ref a_p0), (1, .int v1), (2, .int v2), (3, .int v3), (4, .int v4)] := hl
  unfold f_X6_isBest at hf
  refine lv_aload_n hx hb dX6_isBest_0 rfl (lv_at hl 0 rfl) ?_
  refine lv_iload_n hx hb dX6_isBest_1 rfl (lv_at hl 1 rfl) ?_
  refine lv_iload_n hx hb dX6_isBest_2 rfl (lv_at hl 2 rfl) ?_
  refine lv_iload_n hx hb dX6_isBest_3 rfl (lv_at hl 3 rfl) ?_
  refine lv_iload hx hb dX6_isBest_4 (lv_at hl 4 rfl) ?_
  obtain ⟨r_1, hr_1, hf⟩ := bnd hf
  refine q_callVI hB hW (ci := 6) (q0 := 0) rfl rfl rfl (As := [.int v1, .int v2, .int v3, .int v4]) (rest := []) (ws' := [(a_p0, .inr (6, [.ref a_p0_text, .ref a_p0_reader, .ref a_p0_draft, .ref a_p0_land, .ref a_p0_now, .ref a_p0_trial, .ref a_p0_acts, .ref a_p0_hearings, .ref a_p0_kept, .int p0_keptSlots, .long p0_seedNow])), (a_p0_land, .inr (1, [.ref a_p0_land_places, .ref a_p0_land_kinds, .ref a_p0_land_clapPlaces, .ref a_p0_land_louds, .ref a_p0_land_ones, .ref a_p0_land_others, .ref a_p0_land_worths, .ref a_p0_land_hangs, .int p0_land_persons, .int p0_land_skies, .int p0_land_oaths])), (a_p0_now, .inr (4, [.ref a_p0_land, .int p0_now_places, .int p0_now_wool, .int p0_now_sworn, .int p0_now_worth, .int p0_now_day])), (a_p0_trial, .inr (4, [.ref a_p0_land, .int r_1.2.1, .int r_1.2.2.1, .int r_1.2.2.2.1, .int r_1.2.2.2.2.1, .int r_1.2.2.2.2.2])), (a_p0_land_kinds, .inl (cI, 5, .inl p0_land_kinds)), (a_p0_land_clapPlaces, .inl (cI, 5, .inl p0_land_clapPlaces)), (a_p0_land_louds, .inl (cI, 5, .inl p0_land_louds)), (a_p0_land_ones, .inl (cI, 5, .inl p0_land_ones)), (a_p0_land_others, .inl (cI, 5, .inl p0_land_others)), (a_p0_land_worths, .inl (cI, 5, .inl p0_land_worths)), (a_p0_land_hangs, .inl (cI, 5, .inl p0_land_hangs))]) (c_X6_gain l D cI cZ a_p0 a_p0_text a_p0_reader a_p0_draft a_p0_land a_p0_now a_p0_trial a_p0_acts a_p0_hearings a_p0_kept a_p0_land_places a_p0_land_kinds a_p0_land_clapPlaces a_p0_land_louds a_p0_land_ones a_p0_land_others a_p0_land_worths a_p0_land_hangs p0_keptSlots p0_seedNow p0_land_persons p0_land_skies p0_land_oaths p0_now_places p0_now_wool p0_now_sworn p0_now_worth p0_now_day p0_trial_places p0_trial_wool p0_trial_sworn p0_trial_worth p0_trial_day p0_land_kinds p0_land_clapPlaces p0_land_louds p0_land_ones p0_land_others p0_land_worths p0_land_hangs v1 v2 v3 v4 r_1 hr_1) (cwV 4 hts gX6_isBest_X6_gain rfl rfl rfl (by decide +kernel) ⟨Nat.le_of_ble_eq_true rfl, Nat.le_of_ble_eq_true rfl⟩) [0, 1, 2, 3, 4, 5, 6, 7, 8, 9, 10] rfl rfl rfl rfl rfl hl.1 rfl (Nat.le_of_ble_eq_true rfl) ⟨Nat.le_of_ble_eq_true rfl, Nat.le_of_ble_eq_true rfl⟩ dX6_isBest_6 (fun H locs hW => ?_)
  refine lv_aload_n hx hb dX6_isBest_9 rfl (lv_at hl 0 rfl) ?_
  refine lv_iload_n hx hb dX6_isBest_10 rfl (lv_at hl 1 rfl) ?_
  refine lv_iconst (v := 1) hx hb dX6_isBest_11 (by decide) ?_
  refine lv_iload_n hx hb dX6_isBest_12 rfl (lv_at hl 2 rfl) ?_
  refine lv_isub hx hb dX6_isBest_13 ?_
  refine lv_iload_n hx hb dX6_isBest_14 rfl (lv_at hl 3 rfl) ?_
  refine lv_iload hx hb dX6_isBest_15 (lv_at hl 4 rfl) ?_
  obtain ⟨r_2, hr_2, hf⟩ := bnd hf
  refine q_callVI hB hW (ci := 6) (q0 := 0) rfl rfl rfl (As := [.int v1, .int ((1 : Int32) - v2), .int v3, .int v4]) (rest := [.int r_1.1]) (ws' := [(a_p0, .inr (6, [.ref a_p0_text, .ref a_p0_reader, .ref a_p0_draft, .ref a_p0_land, .ref a_p0_now, .ref a_p0_trial, .ref a_p0_acts, .ref a_p0_hearings, .ref a_p0_kept, .int p0_keptSlots, .long p0_seedNow])), (a_p0_land, .inr (1, [.ref a_p0_land_places, .ref a_p0_land_kinds, .ref a_p0_land_clapPlaces, .ref a_p0_land_louds, .ref a_p0_land_ones, .ref a_p0_land_others, .ref a_p0_land_worths, .ref a_p0_land_hangs, .int p0_land_persons, .int p0_land_skies, .int p0_land_oaths])), (a_p0_now, .inr (4, [.ref a_p0_land, .int p0_now_places, .int p0_now_wool, .int p0_now_sworn, .int p0_now_worth, .int p0_now_day])), (a_p0_trial, .inr (4, [.ref a_p0_land, .int r_2.2.1, .int r_2.2.2.1, .int r_2.2.2.2.1, .int r_2.2.2.2.2.1, .int r_2.2.2.2.2.2])), (a_p0_land_kinds, .inl (cI, 5, .inl p0_land_kinds)), (a_p0_land_clapPlaces, .inl (cI, 5, .inl p0_land_clapPlaces)), (a_p0_land_louds, .inl (cI, 5, .inl p0_land_louds)), (a_p0_land_ones, .inl (cI, 5, .inl p0_land_ones)), (a_p0_land_others, .inl (cI, 5, .inl p0_land_others)), (a_p0_land_worths, .inl (cI, 5, .inl p0_land_worths)), (a_p0_land_hangs, .inl (cI, 5, .inl p0_land_hangs))]) (c_X6_gain l D cI cZ a_p0 a_p0_text a_p0_reader a_p0_draft a_p0_land a_p0_now a_p0_trial a_p0_acts a_p0_hearings a_p0_kept a_p0_land_places a_p0_land_kinds a_p0_land_clapPlaces a_p0_land_louds a_p0_land_ones a_p0_land_others a_p0_land_worths a_p0_land_hangs p0_keptSlots p0_seedNow p0_land_persons p0_land_skies p0_land_oaths p0_now_places p0_now_wool p0_now_sworn p0_now_worth p0_now_day r_1.2.1 r_1.2.2.1 r_1.2.2.2.1 r_1.2.2.2.2.1 r_1.2.2.2.2.2 p0_land_kinds p0_land_clapPlaces p0_land_louds p0_land_ones p0_land_others p0_land_worths p0_land_hangs v1 ((1 : Int32) - v2) v3 v4 r_2 hr_2) (cwV 4 hts gX6_isBest_X6_gain rfl rfl rfl (by decide +kernel) ⟨Nat.le_of_ble_eq_true rfl, Nat.le_of_ble_eq_true rfl⟩) [0, 1, 2, 3, 4, 5, 6, 7, 8, 9, 10] rfl rfl rfl rfl rfl hl.1 rfl (Nat.le_of_ble_eq_true rfl) ⟨Nat.le_of_ble_eq_true rfl, Nat.le_of_ble_eq_true rfl⟩ dX6_isBest_17 (fun H locs hW => ?_)
  refine lv_icmp_lt (tgt := 27) hx hb dX6_isBest_20 (by decide) (fun c_3 => ?_) (fun c_3 => ?_)
  · have hf := it_t c_3 hf
    refine lv_iconst (v := 0) hx hb dX6_isBest_27 (by decide) ?_
    exact hE _ _ _ _ _ ((0 : Int32), r_2.2.1, r_2.2.2.1, r_2.2.2.2.1, r_2.2.2.2.2.1, r_2.2.2.2.2.2) (sm hf) hW rfl nz_0 dX6_isBest_28
  · have hf := it_f c_3 hf
    refine lv_iconst (v := 1) hx hb dX6_isBest_23 (by decide) ?_
    refine lv_goto (tgt := 28) hx hb dX6_isBest_24 (by decide) ?_
    exact hE _ _ _ _ _ ((1 : Int32), r_2.2.1, r_2.2.2.1, r_2.2.2.2.1, r_2.2.2.2.2.1, r_2.2.2.2.2.2) (sm hf) hW rfl nz_1 dX6_isBest_28
