/-! ===== the law's loop ===== -/
theorem lp_in {k L : Nat} (hL : L ≤ 2560) (hk : k ≤ 513) (h : ¬ (nI L - (5 : Int32)) < nI (5 * k)) : 5 * k + 5 ≤ L := by
  by_cases h5 : 5 ≤ L
  · rw [l_5, show nI L - nI 5 = nI (L - 5) by rw [show nI L = nI (L - 5) + nI 5 by rw [nI_add]; congr 1; omega, Int32.add_sub_cancel]] at h
    rcases Nat.lt_or_ge (L - 5) (5 * k) with q | q
    · exact absurd (nI_lt q (by omega)) h
    · omega
  · exfalso
    apply h
    rw [Int32.lt_iff_toInt_lt, nI_toInt (by omega)]
    have : (nI L - (5 : Int32)).toInt < 0 := (by decide : ∀ L, L < 5 → (nI L - (5 : Int32)).toInt < 0) L (by omega)
    omega
set_option maxHeartbeats 4000000 in
set_option maxRecDepth 100000 in
theorem law_loop {p : Program} {l : Launch} {e : Env} {s : State} {m : MethodId} {args : Array Value} {below : List Frame} {meth : Method} {c : Code} {D : va_G} {cI cZ : ClassId} {A : Nat → Prop} {a : Nat → Nat} {Q : State → Prop} {b L : Nat} {xs : Nat → Int32} (hBx : Bx p s m meth c args cL_law 4 ret RL lw_tbl D cI cZ A) (hSc : va_X b L xs s s.heap) (hbl : b < s.heap.size) (hbA : ¬ A b) (hL : L ≤ 2560) (hE : ∀ (H : Heap) (locs : List Loc) (ls : Array Slot), va_S A s.heap H locs → W p l e room_1 s m args below meth c H locs 50 642 Q (F0 m 1040 ls [])) : ∀ (n k : Nat), k ≤ 513 → 513 - k < n → ∀ (x_keptSlots x_text_length x_reader_place x_reader_stopped x_draft_persons x_draft_skies x_draft_oaths x_land_persons x_land_skies x_land_oaths x_now_places x_now_wool x_now_sworn x_now_worth x_now_day x_trial_places x_trial_wool x_trial_sworn x_trial_worth x_trial_day x_acts_length x_hearings_length m_persons m_skies m_oaths m_readPersons m_readSkies m_readOaths m_length m_at m_faultAt m_acts m_next m_told : Int32) (x_seedNow m_seed : Int64) (x_text_letters x_draft_places x_draft_kinds x_draft_clapPlaces x_draft_louds x_draft_ones x_draft_others x_draft_worths x_draft_hangs x_land_places x_land_kinds x_land_clapPlaces x_land_louds x_land_ones x_land_others x_land_worths x_land_hangs x_acts_row x_hearings_places x_hearings_wools x_hearings_answers x_kept m_kind m_skyAt m_skyLoud m_one m_other m_worth m_hangs m_now m_readPerson m_readSky m_readOath m_text m_row m_toldAt m_toldWool m_toldHeard m_isKept m_kept : Nat → Int32) (H : Heap) (locs : List Loc) (ls : Array Slot), IV k x_keptSlots x_text_length x_land_persons x_land_skies x_land_oaths x_now_places x_now_wool x_now_sworn x_now_worth x_now_day x_acts_length x_hearings_length m_persons m_skies m_oaths m_length m_acts m_next m_told x_seedNow m_seed x_text_letters x_land_kinds x_land_clapPlaces x_land_louds x_land_ones x_land_others x_land_worths x_land_hangs x_acts_row x_hearings_places x_hearings_wools x_hearings_answers x_kept m_kind m_skyAt m_skyLoud m_one m_other m_worth m_hangs m_now m_text m_row m_toldAt m_toldWool m_toldHeard m_isKept m_kept → Wl D A s.heap (WL cI cZ a x_keptSlots x_text_length x_reader_place x_reader_stopped x_draft_persons x_draft_skies x_draft_oaths x_land_persons x_land_skies x_land_oaths x_now_places x_now_wool x_now_sworn x_now_worth x_now_day x_trial_places x_trial_wool x_trial_sworn x_trial_worth x_trial_day x_acts_length x_hearings_length m_persons m_skies m_oaths m_readPersons m_readSkies m_readOaths m_length m_at m_faultAt m_acts m_next m_told x_seedNow m_seed x_text_letters x_draft_places x_draft_kinds x_draft_clapPlaces x_draft_louds x_draft_ones x_draft_others x_draft_worths x_draft_hangs x_land_places x_land_kinds x_land_clapPlaces x_land_louds x_land_ones x_land_others x_land_worths x_land_hangs x_acts_row x_hearings_places x_hearings_wools x_hearings_answers x_kept m_kind m_skyAt m_skyLoud m_one m_other m_worth m_hangs m_now m_readPerson m_readSky m_readOath m_text m_row m_toldAt m_toldWool m_toldHeard m_isKept m_kept) H locs → lv_has ls 4 [(0, .ref b), (1, .ref (a 0)), (2, .ref (a 31)), (3, .int (nI (5 * k)))] → W p l e room_1 s m args below meth c H locs 50 642 Q (F0 m 18 ls []) := by
  have hx := hBx.1
  have hb := hBx.2.1
  intro n
  induction n with
  | zero => intro k _ h; omega
  | succ n ih =>
    intro k hk hn x_keptSlots x_text_length x_reader_place x_reader_stopped x_draft_persons x_draft_skies x_draft_oaths x_land_persons x_land_skies x_land_oaths x_now_places x_now_wool x_now_sworn x_now_worth x_now_day x_trial_places x_trial_wool x_trial_sworn x_trial_worth x_trial_day x_acts_length x_hearings_length m_persons m_skies m_oaths m_readPersons m_readSkies m_readOaths m_length m_at m_faultAt m_acts m_next m_told x_seedNow m_seed x_text_letters x_draft_places x_draft_kinds x_draft_clapPlaces x_draft_louds x_draft_ones x_draft_others x_draft_worths x_draft_hangs x_land_places x_land_kinds x_land_clapPlaces x_land_louds x_land_ones x_land_others x_land_worths x_land_hangs x_acts_row x_hearings_places x_hearings_wools x_hearings_answers x_kept m_kind m_skyAt m_skyLoud m_one m_other m_worth m_hangs m_now m_readPerson m_readSky m_readOath m_text m_row m_toldAt m_toldWool m_toldHeard m_isKept m_kept H locs ls hI hW hl
    refine lv_iload_n hx hb dL_law_18 rfl (lv_at hl 3 rfl) ?_
    refine lv_aload_n hx hb dL_law_19 rfl (lv_at hl 0 rfl) ?_
    refine va_slen hx hb hSc hbl hbA hW.2.2 dL_law_20 ?_
    refine lv_iconst (v := 5) hx hb dL_law_21 (by decide) ?_
    refine lv_isub hx hb dL_law_22 ?_
    refine lv_icmp_gt (tgt := 1040) hx hb dL_law_23 (by decide) (fun c_23 => ?_) (fun c_23 => ?_)
    · exact hE _ _ _ hW.2.2
    · have hk5 : 5 * k + 5 ≤ L := lp_in hL hk c_23
      have e5 : nI (5 * k) + (5 : Int32) = nI (5 * (k + 1)) := by rw [l_5, nI_add]; rfl
      have K : KL p l e s m args below meth c D cI cZ A a Q ls (k + 1) := by
        intro x_keptSlots x_text_length x_reader_place x_reader_stopped x_draft_persons x_draft_skies x_draft_oaths x_land_persons x_land_skies x_land_oaths x_now_places x_now_wool x_now_sworn x_now_worth x_now_day x_trial_places x_trial_wool x_trial_sworn x_trial_worth x_trial_day x_acts_length x_hearings_length m_persons m_skies m_oaths m_readPersons m_readSkies m_readOaths m_length m_at m_faultAt m_acts m_next m_told x_seedNow m_seed x_text_letters x_draft_places x_draft_kinds x_draft_clapPlaces x_draft_louds x_draft_ones x_draft_others x_draft_worths x_draft_hangs x_land_places x_land_kinds x_land_clapPlaces x_land_louds x_land_ones x_land_others x_land_worths x_land_hangs x_acts_row x_hearings_places x_hearings_wools x_hearings_answers x_kept m_kind m_skyAt m_skyLoud m_one m_other m_worth m_hangs m_now m_readPerson m_readSky m_readOath m_text m_row m_toldAt m_toldWool m_toldHeard m_isKept m_kept H locs hI hW
        refine lv_iinc (v := (nI (5 * k) + (5 : Int32))) (lv' := [(3, .int (nI (5 * k) + (5 : Int32))), (0, .ref b), (1, .ref (a 0)), (2, .ref (a 31))]) hx hb dL_law_1034 hl (k := 3) rfl rfl (by decide) rfl (fun ls hl => ?_)
        refine lv_goto (tgt := 18) hx hb dL_law_1037 (by decide) ?_
        rw [e5] at hl
        exact ih (k + 1) (by omega) (by omega) _ _ _ _ _ _ _ _ _ _ _ _ _ _ _ _ _ _ _ _ _ _ _ _ _ _ _ _ _ _ _ _ _ _ _ _ _ _ _ _ _ _ _ _ _ _ _ _ _ _ _ _ _ _ _ _ _ _ _ _ _ _ _ _ _ _ _ _ _ _ _ _ _ _ _ _ _ _ _ hI hW (lv_sub hl [1, 2, 3, 0] rfl)
      refine lv_aload_n hx hb dL_law_26 rfl (lv_at hl 0 rfl) ?_
      refine lv_iload_n hx hb dL_law_27 rfl (lv_at hl 3 rfl) ?_
      refine va_sld hx hb hSc hbl hbA hW.2.2 (vin_0 hL hk5) dL_law_28 ?_
      refine lv_bipush (v := 31) hx hb dL_law_29 (by decide) ?_
      refine lv_iand hx hb dL_law_31 ?_
      refine lv_topi (fun v ev => ?_)
      by_cases c_0 : v = (0 : Int32)
      · refine lv_tableIn (tgt := 164) (off := 132) hx hb dL_law_32 (by rw [c_0]; decide) (by rw [c_0]; decide) (by rw [c_0]; rfl) (by decide) ?_
        exact C_write hBx hSc hbl hbA hL hk5 (by omega) hI hW hl K
      by_cases c_1 : v = (1 : Int32)
      · refine lv_tableIn (tgt := 187) (off := 155) hx hb dL_law_32 (by rw [c_1]; decide) (by rw [c_1]; decide) (by rw [c_1]; rfl) (by decide) ?_
        exact C_wipe hBx hSc hbl hbA hL hk5 (by omega) hI hW hl K
      by_cases c_2 : v = (2 : Int32)
      · refine lv_tableIn (tgt := 200) (off := 168) hx hb dL_law_32 (by rw [c_2]; decide) (by rw [c_2]; decide) (by rw [c_2]; rfl) (by decide) ?_
        exact C_fault hBx hSc hbl hbA hL hk5 (by omega) hI hW hl K
      by_cases c_3 : v = (3 : Int32)
      · refine lv_tableIn (tgt := 213) (off := 181) hx hb dL_law_32 (by rw [c_3]; decide) (by rw [c_3]; decide) (by rw [c_3]; rfl) (by decide) ?_
        exact C_county hBx hSc hbl hbA hL hk5 (by omega) hI hW hl K
      by_cases c_4 : v = (4 : Int32)
      · refine lv_tableIn (tgt := 226) (off := 194) hx hb dL_law_32 (by rw [c_4]; decide) (by rw [c_4]; decide) (by rw [c_4]; rfl) (by decide) ?_
        exact C_person hBx hSc hbl hbA hL hk5 (by omega) hI hW hl K
      by_cases c_5 : v = (5 : Int32)
      · refine lv_tableIn (tgt := 259) (off := 227) hx hb dL_law_32 (by rw [c_5]; decide) (by rw [c_5]; decide) (by rw [c_5]; rfl) (by decide) ?_
        exact C_oath hBx hSc hbl hbA hL hk5 (by omega) hI hW hl K
      by_cases c_6 : v = (6 : Int32)
      · refine lv_tableIn (tgt := 292) (off := 260) hx hb dL_law_32 (by rw [c_6]; decide) (by rw [c_6]; decide) (by rw [c_6]; rfl) (by decide) ?_
        exact C_day hBx hSc hbl hbA hL hk5 (by omega) hI hW hl K
      by_cases c_7 : v = (7 : Int32)
      · refine lv_tableIn (tgt := 305) (off := 273) hx hb dL_law_32 (by rw [c_7]; decide) (by rw [c_7]; decide) (by rw [c_7]; rfl) (by decide) ?_
        exact C_drum hBx hSc hbl hbA hL hk5 (by omega) hI hW hl K
      by_cases c_8 : v = (8 : Int32)
      · refine lv_tableIn (tgt := 338) (off := 306) hx hb dL_law_32 (by rw [c_8]; decide) (by rw [c_8]; decide) (by rw [c_8]; rfl) (by decide) ?_
        exact C_swear hBx hSc hbl hbA hL hk5 (by omega) hI hW hl K
      by_cases c_9 : v = (9 : Int32)
      · refine lv_tableIn (tgt := 361) (off := 329) hx hb dL_law_32 (by rw [c_9]; decide) (by rw [c_9]; decide) (by rw [c_9]; rfl) (by decide) ?_
        exact C_form hBx hSc hbl hbA hL hk5 (by omega) hI hW hl K
      by_cases c_10 : v = (10 : Int32)
      · refine lv_tableIn (tgt := 384) (off := 352) hx hb dL_law_32 (by rw [c_10]; decide) (by rw [c_10]; decide) (by rw [c_10]; rfl) (by decide) ?_
        exact C_move hBx hSc hbl hbA hL hk5 (by omega) hI hW hl K
      by_cases c_11 : v = (11 : Int32)
      · refine lv_tableIn (tgt := 417) (off := 385) hx hb dL_law_32 (by rw [c_11]; decide) (by rw [c_11]; decide) (by rw [c_11]; rfl) (by decide) ?_
        exact C_wool hBx hSc hbl hbA hL hk5 (by omega) hI hW hl K
      by_cases c_12 : v = (12 : Int32)
      · refine lv_tableIn (tgt := 440) (off := 408) hx hb dL_law_32 (by rw [c_12]; decide) (by rw [c_12]; decide) (by rw [c_12]; rfl) (by decide) ?_
        exact C_undo hBx hSc hbl hbA hL hk5 (by omega) hI hW hl K
      by_cases c_13 : v = (13 : Int32)
      · refine lv_tableIn (tgt := 453) (off := 421) hx hb dL_law_32 (by rw [c_13]; decide) (by rw [c_13]; decide) (by rw [c_13]; rfl) (by decide) ?_
        exact C_later hBx hSc hbl hbA hL hk5 (by omega) hI hW hl K
      by_cases c_14 : v = (14 : Int32)
      · refine lv_tableIn (tgt := 486) (off := 454) hx hb dL_law_32 (by rw [c_14]; decide) (by rw [c_14]; decide) (by rw [c_14]; rfl) (by decide) ?_
        exact C_lasts hBx hSc hbl hbA hL hk5 (by omega) hI hW hl K
      by_cases c_15 : v = (15 : Int32)
      · refine lv_tableIn (tgt := 509) (off := 477) hx hb dL_law_32 (by rw [c_15]; decide) (by rw [c_15]; decide) (by rw [c_15]; rfl) (by decide) ?_
        exact C_best hBx hSc hbl hbA hL hk5 (by omega) hI hW hl K
      by_cases c_16 : v = (16 : Int32)
      · refine lv_tableIn (tgt := 552) (off := 520) hx hb dL_law_32 (by rw [c_16]; decide) (by rw [c_16]; decide) (by rw [c_16]; rfl) (by decide) ?_
        exact C_frees hBx hSc hbl hbA hL hk5 (by omega) hI hW hl K
      by_cases c_17 : v = (17 : Int32)
      · refine lv_tableIn (tgt := 585) (off := 553) hx hb dL_law_32 (by rw [c_17]; decide) (by rw [c_17]; decide) (by rw [c_17]; rfl) (by decide) ?_
        exact C_judge hBx hSc hbl hbA hL hk5 (by omega) hI hW hl K
      by_cases c_18 : v = (18 : Int32)
      · refine lv_tableIn (tgt := 648) (off := 616) hx hb dL_law_32 (by rw [c_18]; decide) (by rw [c_18]; decide) (by rw [c_18]; rfl) (by decide) ?_
        exact C_hear hBx hSc hbl hbA hL hk5 (by omega) hI hW hl K
      by_cases c_19 : v = (19 : Int32)
      · refine lv_tableIn (tgt := 691) (off := 659) hx hb dL_law_32 (by rw [c_19]; decide) (by rw [c_19]; decide) (by rw [c_19]; rfl) (by decide) ?_
        exact C_unhear hBx hSc hbl hbA hL hk5 (by omega) hI hW hl K
      by_cases c_20 : v = (20 : Int32)
      · refine lv_tableIn (tgt := 704) (off := 672) hx hb dL_law_32 (by rw [c_20]; decide) (by rw [c_20]; decide) (by rw [c_20]; rfl) (by decide) ?_
        exact C_which hBx hSc hbl hbA hL hk5 (by omega) hI hW hl K
      by_cases c_21 : v = (21 : Int32)
      · refine lv_tableIn (tgt := 727) (off := 695) hx hb dL_law_32 (by rw [c_21]; decide) (by rw [c_21]; decide) (by rw [c_21]; rfl) (by decide) ?_
        exact C_share hBx hSc hbl hbA hL hk5 (by omega) hI hW hl K
      by_cases c_22 : v = (22 : Int32)
      · refine lv_tableIn (tgt := 776) (off := 744) hx hb dL_law_32 (by rw [c_22]; decide) (by rw [c_22]; decide) (by rw [c_22]; rfl) (by decide) ?_
        exact C_rests hBx hSc hbl hbA hL hk5 (by omega) hI hW hl K
      by_cases c_23 : v = (23 : Int32)
      · refine lv_tableIn (tgt := 819) (off := 787) hx hb dL_law_32 (by rw [c_23]; decide) (by rw [c_23]; decide) (by rw [c_23]; rfl) (by decide) ?_
        exact C_comes hBx hSc hbl hbA hL hk5 (by omega) hI hW hl K
      by_cases c_24 : v = (24 : Int32)
      · refine lv_tableIn (tgt := 888) (off := 856) hx hb dL_law_32 (by rw [c_24]; decide) (by rw [c_24]; decide) (by rw [c_24]; rfl) (by decide) ?_
        exact C_seed hBx hSc hbl hbA hL hk5 (by omega) hI hW hl K
      by_cases c_25 : v = (25 : Int32)
      · refine lv_tableIn (tgt := 942) (off := 910) hx hb dL_law_32 (by rw [c_25]; decide) (by rw [c_25]; decide) (by rw [c_25]; rfl) (by decide) ?_
        exact C_years hBx hSc hbl hbA hL hk5 (by omega) hI hW hl K
      by_cases c_26 : v = (26 : Int32)
      · refine lv_tableIn (tgt := 965) (off := 933) hx hb dL_law_32 (by rw [c_26]; decide) (by rw [c_26]; decide) (by rw [c_26]; rfl) (by decide) ?_
        exact C_keep hBx hSc hbl hbA hL hk5 (by omega) hI hW hl K
      by_cases c_27 : v = (27 : Int32)
      · refine lv_tableIn (tgt := 988) (off := 956) hx hb dL_law_32 (by rw [c_27]; decide) (by rw [c_27]; decide) (by rw [c_27]; rfl) (by decide) ?_
        exact C_again hBx hSc hbl hbA hL hk5 (by omega) hI hW hl K
      by_cases c_28 : v = (28 : Int32)
      · refine lv_tableIn (tgt := 1011) (off := 979) hx hb dL_law_32 (by rw [c_28]; decide) (by rw [c_28]; decide) (by rw [c_28]; rfl) (by decide) ?_
        exact C_count hBx hSc hbl hbA hL hk5 (by omega) hI hW hl K
      refine lv_tableOut (tgt := 1034) hx hb dL_law_32 (sw_out 28 (by decide) (fun j hj => match j, hj with | 0, _ => c_0 | 1, _ => c_1 | 2, _ => c_2 | 3, _ => c_3 | 4, _ => c_4 | 5, _ => c_5 | 6, _ => c_6 | 7, _ => c_7 | 8, _ => c_8 | 9, _ => c_9 | 10, _ => c_10 | 11, _ => c_11 | 12, _ => c_12 | 13, _ => c_13 | 14, _ => c_14 | 15, _ => c_15 | 16, _ => c_16 | 17, _ => c_17 | 18, _ => c_18 | 19, _ => c_19 | 20, _ => c_20 | 21, _ => c_21 | 22, _ => c_22 | 23, _ => c_23 | 24, _ => c_24 | 25, _ => c_25 | 26, _ => c_26 | 27, _ => c_27 | 28, _ => c_28 | _ + 29, hj => absurd hj (by omega))) (by decide) ?_
      exact K _ _ _ _ _ _ _ _ _ _ _ _ _ _ _ _ _ _ _ _ _ _ _ _ _ _ _ _ _ _ _ _ _ _ _ _ _ _ _ _ _ _ _ _ _ _ _ _ _ _ _ _ _ _ _ _ _ _ _ _ _ _ _ _ _ _ _ _ _ _ _ _ _ _ _ _ _ _ hI.mono hW
