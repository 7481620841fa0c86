def b_X7_judge_36 (v1 : Int32) (v2 : Int64) (p0_persons : Int32) (p0_skies : Int32) (p0_oaths : Int32) (p0_kind : Nat → Int32) (p0_skyAt : Nat → Int32) (p0_skyLoud : Nat → Int32) (p0_one : Nat → Int32) (p0_other : Nat → Int32) (p0_worth : Nat → Int32) (p0_hangs : Nat → Int32) (v4 : Int32) (p0_now : Nat → Int32) : Option ((Int32 × (Nat → Int32)) ⊕ (((Nat → Int32) ⊕ (Int32 × (Nat → Int32))))) := if v1 ≤ v4 then some (.inr (.inl p0_now)) else (f_X7_thousandTo ((v1 - (1 : Int32)) - v4)).bind fun r_538 => (dvL v2 r_538).bind fun r_539 => (some (Int64.toInt32 (r_539 - r_539 / (1000 : Int64) * (1000 : Int64)))).bind fun w_540 => (f_X7_tryThing (w_540 / (100 : Int32)) ((w_540 / (10 : Int32)) - (w_540 / (10 : Int32)) / (10 : Int32) * (10 : Int32)) (w_540 - w_540 / (10 : Int32) * (10 : Int32)) p0_persons p0_skies p0_oaths p0_kind p0_skyAt p0_skyLoud p0_one p0_other p0_worth p0_hangs p0_now).bind fun r_541 => if r_541.1 = (0 : Int32) then some (.inr (.inr (v4, r_541.2))) else some (.inl ((v4 + (1 : Int32)), r_541.2))
def f_X7_judge (v1 : Int32) (v2 : Int64) (p0_persons : Int32) (p0_skies : Int32) (p0_oaths : Int32) (p0_kind : Nat → Int32) (p0_skyAt : Nat → Int32) (p0_skyLoud : Nat → Int32) (p0_one : Nat → Int32) (p0_other : Nat → Int32) (p0_worth : Nat → Int32) (p0_hangs : Nat → Int32) (p0_now : Nat → Int32) : Option (Int32 × (Nat → Int32)) := (f_X7_in (Int32.toInt64 v1) (1 : Int64) (4 : Int64)).bind fun r_1 => if r_1 = (0 : Int32) then some ((-2 : Int32), p0_now) else (f_X7_thousandTo v1).bind fun r_3 => (f_X7_in v2 (0 : Int64) (r_3 - (1 : Int64))).bind fun r_4 => if r_4 = (0 : Int32) then some ((-2 : Int32), p0_now) else (f_X7_layTrial p0_now).bind fun r_6 => (itr (fun s => b_X7_judge_36 v1 v2 p0_persons p0_skies p0_oaths p0_kind p0_skyAt p0_skyLoud p0_one p0_other p0_worth p0_hangs s.1 s.2) FU ((0 : Int32), r_6)).bind fun e_36 => Sum.elim (fun x_36 => some ((-9 : Int32), x_36)) (fun r_36 => some r_36) e_36
set_option maxHeartbeats 4000000 in
set_option maxRecDepth 100000 in
theorem c_X7_judge (l : Launch) (D : va_G) (cI cZ : ClassId) (a_p0 a_p0_kind a_p0_skyAt a_p0_skyLoud a_p0_one a_p0_other a_p0_worth a_p0_hangs a_p0_now a_p0_readPerson a_p0_readSky a_p0_readOath a_p0_text a_p0_row a_p0_toldAt a_p0_toldWool a_p0_toldHeard a_p0_isKept a_p0_kept : Nat) (p0_persons : Int32) (p0_skies : Int32) (p0_oaths : Int32) (p0_readPersons : Int32) (p0_readSkies : Int32) (p0_readOaths : Int32) (p0_length : Int32) (p0_at : Int32) (p0_faultAt : Int32) (p0_acts : Int32) (p0_next : Int32) (p0_told : Int32) (p0_seed : Int64) (p0_kind : Nat → Int32) (p0_skyAt : Nat → Int32) (p0_skyLoud : Nat → Int32) (p0_one : Nat → Int32) (p0_other : Nat → Int32) (p0_worth : Nat → Int32) (p0_hangs : Nat → Int32) (p0_now : Nat → Int32) (v1 : Int32) (v2 : Int64) (q : Int32 × (Nat → Int32)) (hf : f_X7_judge v1 v2 p0_persons p0_skies p0_oaths p0_kind p0_skyAt p0_skyLoud p0_one p0_other p0_worth p0_hangs p0_now = some q) : CtI l D cI cZ yX7_judge wsX7_judge 6 153 [.ref a_p0, .int v1, .long v2] [(a_p0, .inr (7, [.int p0_persons, .int p0_skies, .int p0_oaths, .ref a_p0_kind, .ref a_p0_skyAt, .ref a_p0_skyLoud, .ref a_p0_one, .ref a_p0_other, .ref a_p0_worth, .ref a_p0_hangs, .ref a_p0_now, .ref a_p0_readPerson, .ref a_p0_readSky, .ref a_p0_readOath, .int p0_readPersons, .int p0_readSkies, .int p0_readOaths, .ref a_p0_text, .int p0_length, .int p0_at, .int p0_faultAt, .int p0_acts, .int p0_next, .ref a_p0_row, .int p0_told, .ref a_p0_toldAt, .ref a_p0_toldWool, .ref a_p0_toldHeard, .long p0_seed, .ref a_p0_isKept, .ref a_p0_kept])), (a_p0_kind, .inl (cI, 5, .inl p0_kind)), (a_p0_skyAt, .inl (cI, 5, .inl p0_skyAt)), (a_p0_skyLoud, .inl (cI, 5, .inl p0_skyLoud)), (a_p0_one, .inl (cI, 5, .inl p0_one)), (a_p0_other, .inl (cI, 5, .inl p0_other)), (a_p0_worth, .inl (cI, 5, .inl p0_worth)), (a_p0_hangs, .inl (cI, 5, .inl p0_hangs)), (a_p0_now, .inl (cI, 18, .inl p0_now))] (fun q => [(a_p0, .inr (7, [.int p0_persons, .int p0_skies, .int p0_oaths, .ref a_p0_kind, .ref a_p0_skyAt, .ref a_p0_skyLoud, .ref a_p0_one, .ref a_p0_other, .ref a_p0_worth, .ref a_p0_hangs, .ref a_p0_now, .ref a_p0_readPerson, .ref a_p0_readSky, .ref a_p0_readOath, .int p0_readPersons, .int p0_readSkies, .int p0_readOaths, .ref a_p0_text, .int p0_length, .int p0_at, .int p0_faultAt, .int p0_acts, .int p0_next, .ref a_p0_row, .int p0_told, .ref a_p0_toldAt, .ref a_p0_toldWool, .ref a_p0_toldHeard, .long p0_seed, .ref a_p0_isKept, .ref a_p0_kept])), (a_p0_kind, .inl (cI, 5, .inl p0_kind)), (a_p0_skyAt, .inl (cI, 5, .inl p0_skyAt)), (a_p0_skyLoud, .inl (cI, 5, .inl p0_skyLoud)), (a_p0_one, .inl (cI, 5, .inl p0_one)), (a_p0_other, .inl (cI, 5, .inl p0_other)), (a_p0_worth, .inl (cI, 5, .inl p0_worth)), (a_p0_hangs, .inl (cI, 5, .inl p0_hangs)), (a_p0_now, .inl (cI, 18, .inl q.2))]) (fun q => q.1) q := by
  refine CtI.of (cc := cX7_judge) (maxL := 6) (plainFor_of_name (by decide)) rfl (Nat.le_of_ble_eq_true rfl) ?_
  intro p e s m args below meth c A Q H ls hB hE hW hl
  have hx := hB.1
  have hb := hB.2.1
  have hml := hB.2.2.2.1
  have hown : s.vm.findClass RX7 = some m.cls := hB.2.2.2.2.1
  have hts := hB.2.2.2.2.2.1
  have hK := hB.2.2.2.2.2.2.2.1.1
  have hl : lv_has ls 6 [(0, .ref a_p0), (1, .int v1), (2, .long v2)] := hl
  unfold f_X7_judge at hf
  refine lv_iload_n hx hb dX7_judge_0 rfl (lv_at hl 1 rfl) ?_
  refine lv_i2l (v := (Int32.toInt64 v1)) hx hb dX7_judge_1 rfl ?_
  refine lv_lconst (v := 1) hx hb dX7_judge_2 (by decide) ?_
  refine lv_ldc2 (v := 4) hx hb hown (hts (.constantLong RX7 198 (4)) (by decide +kernel)) dX7_judge_3 ?_
  obtain ⟨r_1, hr_1, hf⟩ := bnd hf
  refine q_callSZ hB hW (As := [.long (Int32.toInt64 v1), .long (1 : Int64), .long (4 : Int64)]) (rest := []) (ws' := [(a_p0, .inr (7, [.int p0_persons, .int p0_skies, .int p0_oaths, .ref a_p0_kind, .ref a_p0_skyAt, .ref a_p0_skyLoud, .ref a_p0_one, .ref a_p0_other, .ref a_p0_worth, .ref a_p0_hangs, .ref a_p0_now, .ref a_p0_readPerson, .ref a_p0_readSky, .ref a_p0_readOath, .int p0_readPersons, .int p0_readSkies, .int p0_readOaths, .ref a_p0_text, .int p0_length, .int p0_at, .int p0_faultAt, .int p0_acts, .int p0_next, .ref a_p0_row, .int p0_told, .ref a_p0_toldAt, .ref a_p0_toldWool, .ref a_p0_toldHeard, .long p0_seed, .ref a_p0_isKept, .ref a_p0_kept])), (a_p0_kind, .inl (cI, 5, .inl p0_kind)), (a_p0_skyAt, .inl (cI, 5, .inl p0_skyAt)), (a_p0_skyLoud, .inl (cI, 5, .inl p0_skyLoud)), (a_p0_one, .inl (cI, 5, .inl p0_one)), (a_p0_other, .inl (cI, 5, .inl p0_other)), (a_p0_worth, .inl (cI, 5, .inl p0_worth)), (a_p0_hangs, .inl (cI, 5, .inl p0_hangs)), (a_p0_now, .inl (cI, 18, .inl p0_now))]) (c_X7_in l D cI cZ (Int32.toInt64 v1) (1 : Int64) (4 : Int64) r_1 hr_1) (va_cwS 3 hts gX7_judge_X7_in rfl rfl rfl (by decide +kernel) ⟨Nat.le_of_ble_eq_true rfl, Nat.le_of_ble_eq_true rfl⟩) [] rfl rfl rfl rfl rfl hl.1 rfl (Nat.le_of_ble_eq_true rfl) ⟨Nat.le_of_ble_eq_true rfl, Nat.le_of_ble_eq_true rfl⟩ dX7_judge_6 (fun hzr_1 H locs hW => ?_)
  refine lv_if_eq (tgt := 26) hx hb dX7_judge_9 (by decide) (fun c_2 => ?_) (fun c_2 => ?_)
  · have hf := it_t c_2 hf
    refine lv_bipush (v := -2) hx hb dX7_judge_26 (by decide) ?_
    exact hE _ _ _ _ _ ((-2 : Int32), p0_now) (sm hf) hW rfl dX7_judge_28
  · have hf := it_f c_2 hf
    refine lv_lload_n hx hb dX7_judge_12 rfl (lv_at hl 2 rfl) ?_
    refine lv_lconst (v := 0) hx hb dX7_judge_13 (by decide) ?_
    refine lv_iload_n hx hb dX7_judge_14 rfl (lv_at hl 1 rfl) ?_
    obtain ⟨r_3, hr_3, hf⟩ := bnd hf
    refine q_callSL hB hW (As := [.int v1]) (rest := [.long (0 : Int64), .long v2]) (ws' := [(a_p0, .inr (7, [.int p0_persons, .int p0_skies, .int p0_oaths, .ref a_p0_kind, .ref a_p0_skyAt, .ref a_p0_skyLoud, .ref a_p0_one, .ref a_p0_other, .ref a_p0_worth, .ref a_p0_hangs, .ref a_p0_now, .ref a_p0_readPerson, .ref a_p0_readSky, .ref a_p0_readOath, .int p0_readPersons, .int p0_readSkies, .int p0_readOaths, .ref a_p0_text, .int p0_length, .int p0_at, .int p0_faultAt, .int p0_acts, .int p0_next, .ref a_p0_row, .int p0_told, .ref a_p0_toldAt, .ref a_p0_toldWool, .ref a_p0_toldHeard, .long p0_seed, .ref a_p0_isKept, .ref a_p0_kept])), (a_p0_kind, .inl (cI, 5, .inl p0_kind)), (a_p0_skyAt, .inl (cI, 5, .inl p0_skyAt)), (a_p0_skyLoud, .inl (cI, 5, .inl p0_skyLoud)), (a_p0_one, .inl (cI, 5, .inl p0_one)), (a_p0_other, .inl (cI, 5, .inl p0_other)), (a_p0_worth, .inl (cI, 5, .inl p0_worth)), (a_p0_hangs, .inl (cI, 5, .inl p0_hangs)), (a_p0_now, .inl (cI, 18, .inl p0_now))]) (c_X7_thousandTo l D cI cZ v1 r_3 hr_3) (va_cwS 1 hts gX7_judge_X7_thousandTo rfl rfl rfl (by decide +kernel) ⟨Nat.le_of_ble_eq_true rfl, Nat.le_of_ble_eq_true rfl⟩) [] rfl rfl rfl rfl rfl hl.1 rfl (Nat.le_of_ble_eq_true rfl) ⟨Nat.le_of_ble_eq_true rfl, Nat.le_of_ble_eq_true rfl⟩ dX7_judge_15 (fun H locs hW => ?_)
    refine lv_lconst (v := 1) hx hb dX7_judge_18 (by decide) ?_
    refine lv_lsub hx hb dX7_judge_19 ?_
    obtain ⟨r_4, hr_4, hf⟩ := bnd hf
    refine q_callSZ hB hW (As := [.long v2, .long (0 : Int64), .long (r_3 - (1 : Int64))]) (rest := []) (ws' := [(a_p0, .inr (7, [.int p0_persons, .int p0_skies, .int p0_oaths, .ref a_p0_kind, .ref a_p0_skyAt, .ref a_p0_skyLoud, .ref a_p0_one, .ref a_p0_other, .ref a_p0_worth, .ref a_p0_hangs, .ref a_p0_now, .ref a_p0_readPerson, .ref a_p0_readSky, .ref a_p0_readOath, .int p0_readPersons, .int p0_readSkies, .int p0_readOaths, .ref a_p0_text, .int p0_length, .int p0_at, .int p0_faultAt, .int p0_acts, .int p0_next, .ref a_p0_row, .int p0_told, .ref a_p0_toldAt, .ref a_p0_toldWool, .ref a_p0_toldHeard, .long p0_seed, .ref a_p0_isKept, .ref a_p0_kept])), (a_p0_kind, .inl (cI, 5, .inl p0_kind)), (a_p0_skyAt, .inl (cI, 5, .inl p0_skyAt)), (a_p0_skyLoud, .inl (cI, 5, .inl p0_skyLoud)), (a_p0_one, .inl (cI, 5, .inl p0_one)), (a_p0_other, .inl (cI, 5, .inl p0_other)), (a_p0_worth, .inl (cI, 5, .inl p0_worth)), (a_p0_hangs, .inl (cI, 5, .inl p0_hangs)), (a_p0_now, .inl (cI, 18, .inl p0_now))]) (c_X7_in l D cI cZ v2 (0 : Int64) (r_3 - (1 : Int64)) r_4 hr_4) (va_cwS 3 hts gX7_judge_X7_in rfl rfl rfl (by decide +kernel) ⟨Nat.le_of_ble_eq_true rfl, Nat.le_of_ble_eq_true rfl⟩) [] rfl rfl rfl rfl rfl hl.1 rfl (Nat.le_of_ble_eq_true rfl) ⟨Nat.le_of_ble_eq_true rfl, Nat.le_of_ble_eq_true rfl⟩ dX7_judge_20 (fun hzr_4 H locs hW => ?_)
    refine lv_if_ne (tgt := 29) hx hb dX7_judge_23 (by decide) (fun c_5 => ?_) (fun c_5 => ?_)
    · have hf := it_f c_5 hf
      refine lv_aload_n hx hb dX7_judge_29 rfl (lv_at hl 0 rfl) ?_
      obtain ⟨r_6, hr_6, hf⟩ := bnd hf
      refine q_callVV hB hW (ci := 7) (q0 := 0) rfl rfl rfl (As := []) (rest := []) (ws' := [(a_p0, .inr (7, [.int p0_persons, .int p0_skies, .int p0_oaths, .ref a_p0_kind, .ref a_p0_skyAt, .ref a_p0_skyLoud, .ref a_p0_one, .ref a_p0_other, .ref a_p0_worth, .ref a_p0_hangs, .ref a_p0_now, .ref a_p0_readPerson, .ref a_p0_readSky, .ref a_p0_readOath, .int p0_readPersons, .int p0_readSkies, .int p0_readOaths, .ref a_p0_text, .int p0_length, .int p0_at, .int p0_faultAt, .int p0_acts, .int p0_next, .ref a_p0_row, .int p0_told, .ref a_p0_toldAt, .ref a_p0_toldWool, .ref a_p0_toldHeard, .long p0_seed, .ref a_p0_isKept, .ref a_p0_kept])), (a_p0_kind, .inl (cI, 5, .inl p0_kind)), (a_p0_skyAt, .inl (cI, 5, .inl p0_skyAt)), (a_p0_skyLoud, .inl (cI, 5, .inl p0_skyLoud)), (a_p0_one, .inl (cI, 5, .inl p0_one)), (a_p0_other, .inl (cI, 5, .inl p0_other)), (a_p0_worth, .inl (cI, 5, .inl p0_worth)), (a_p0_hangs, .inl (cI, 5, .inl p0_hangs)), (a_p0_now, .inl (cI, 18, .inl r_6))]) (c_X7_layTrial l D cI cZ a_p0 a_p0_kind a_p0_skyAt a_p0_skyLoud a_p0_one a_p0_other a_p0_worth a_p0_hangs a_p0_now a_p0_readPerson a_p0_readSky a_p0_readOath a_p0_text a_p0_row a_p0_toldAt a_p0_toldWool a_p0_toldHeard a_p0_isKept a_p0_kept p0_persons p0_skies p0_oaths p0_readPersons p0_readSkies p0_readOaths p0_length p0_at p0_faultAt p0_acts p0_next p0_told p0_seed p0_now r_6 hr_6) (cwV 0 hts gX7_judge_X7_layTrial rfl rfl rfl (by decide +kernel) ⟨Nat.le_of_ble_eq_true rfl, Nat.le_of_ble_eq_true rfl⟩) [0, 8] rfl rfl rfl rfl rfl hl.1 rfl (Nat.le_of_ble_eq_true rfl) ⟨Nat.le_of_ble_eq_true rfl, Nat.le_of_ble_eq_true rfl⟩ dX7_judge_30 (fun H locs hW => ?_)
      refine lv_iconst (v := 0) hx hb dX7_judge_33 (by decide) ?_
      refine lv_istore (lv' := [(4, .int (0 : Int32)), (0, .ref a_p0), (1, .int v1), (2, .long v2)]) hx hb dX7_judge_34 hl (by decide) rfl (fun ls hl => ?_)
      obtain ⟨e_36, hl_36, hk_36⟩ := bnd hf
      have K_36 : ∀ x_36 : Nat → Int32, Sum.inl x_36 = e_36 → ∀ (H : Heap) (locs : List Loc) (ls : Array Slot), Wl D A s.heap [(a_p0, .inr (7, [.int p0_persons, .int p0_skies, .int p0_oaths, .ref a_p0_kind, .ref a_p0_skyAt, .ref a_p0_skyLoud, .ref a_p0_one, .ref a_p0_other, .ref a_p0_worth, .ref a_p0_hangs, .ref a_p0_now, .ref a_p0_readPerson, .ref a_p0_readSky, .ref a_p0_readOath, .int p0_readPersons, .int p0_readSkies, .int p0_readOaths, .ref a_p0_text, .int p0_length, .int p0_at, .int p0_faultAt, .int p0_acts, .int p0_next, .ref a_p0_row, .int p0_told, .ref a_p0_toldAt, .ref a_p0_toldWool, .ref a_p0_toldHeard, .long p0_seed, .ref a_p0_isKept, .ref a_p0_kept])), (a_p0_kind, .inl (cI, 5, .inl p0_kind)), (a_p0_skyAt, .inl (cI, 5, .inl p0_skyAt)), (a_p0_skyLoud, .inl (cI, 5, .inl p0_skyLoud)), (a_p0_one, .inl (cI, 5, .inl p0_one)), (a_p0_other, .inl (cI, 5, .inl p0_other)), (a_p0_worth, .inl (cI, 5, .inl p0_worth)), (a_p0_hangs, .inl (cI, 5, .inl p0_hangs)), (a_p0_now, .inl (cI, 18, .inl x_36))] H locs → lv_has ls 6 [] → W p l e (Rm 6 153) s m args below meth c H locs 0 0 Q (F0 m 94 ls []) := by
        intro x_36 hx_36 H locs ls hW hl
        have hf := s_inl hx_36 hk_36
        refine lv_bipush (v := -9) hx hb dX7_judge_94 (by decide) ?_
        exact hE _ _ _ _ _ ((-9 : Int32), x_36) (sm hf) hW rfl dX7_judge_96
      have L_36 : ∀ (n : Nat) (y36_4 : Int32) (y36_p0_now : Nat → Int32) (H : Heap) (locs : List Loc) (ls : Array Slot), itr (fun s => b_X7_judge_36 v1 v2 p0_persons p0_skies p0_oaths p0_kind p0_skyAt p0_skyLoud p0_one p0_other p0_worth p0_hangs s.1 s.2) n (y36_4, y36_p0_now) = some e_36 → Wl D A s.heap [(a_p0, .inr (7, [.int p0_persons, .int p0_skies, .int p0_oaths, .ref a_p0_kind, .ref a_p0_skyAt, .ref a_p0_skyLoud, .ref a_p0_one, .ref a_p0_other, .ref a_p0_worth, .ref a_p0_hangs, .ref a_p0_now, .ref a_p0_readPerson, .ref a_p0_readSky, .ref a_p0_readOath, .int p0_readPersons, .int p0_readSkies, .int p0_readOaths, .ref a_p0_text, .int p0_length, .int p0_at, .int p0_faultAt, .int p0_acts, .int p0_next, .ref a_p0_row, .int p0_told, .ref a_p0_toldAt, .ref a_p0_toldWool, .ref a_p0_toldHeard, .long p0_seed, .ref a_p0_isKept, .ref a_p0_kept])), (a_p0_kind, .inl (cI, 5, .inl p0_kind)), (a_p0_skyAt, .inl (cI, 5, .inl p0_skyAt)), (a_p0_skyLoud, .inl (cI, 5, .inl p0_skyLoud)), (a_p0_one, .inl (cI, 5, .inl p0_one)), (a_p0_other, .inl (cI, 5, .inl p0_other)), (a_p0_worth, .inl (cI, 5, .inl p0_worth)), (a_p0_hangs, .inl (cI, 5, .inl p0_hangs)), (a_p0_now, .inl (cI, 18, .inl y36_p0_now))] H locs → lv_has ls 6 [(0, .ref a_p0), (1, .int v1), (2, .long v2), (4, .int y36_4)] → W p l e (Rm 6 153) s m args below meth c H locs 0 0 Q (F0 m 36 ls []) := by
        intro n
        induction n with
        | zero => intro y36_4 y36_p0_now H locs ls h9; exact itr_0 h9
        | succ n ih =>
          intro y36_4 y36_p0_now H locs ls hf hW hl
          obtain ⟨o_36, hf, ho_36⟩ := itr_inv hf
          have hf : b_X7_judge_36 v1 v2 p0_persons p0_skies p0_oaths p0_kind p0_skyAt p0_skyLoud p0_one p0_other p0_worth p0_hangs y36_4 y36_p0_now = some o_36 := hf
          unfold b_X7_judge_36 at hf
          refine lv_iload hx hb dX7_judge_36 (lv_at hl 3 rfl) ?_
          refine lv_iload_n hx hb dX7_judge_38 rfl (lv_at hl 1 rfl) ?_
          refine lv_icmp_ge (tgt := 94) hx hb dX7_judge_39 (by decide) (fun c_7 => ?_) (fun c_7 => ?_)
          · have hf := it_t c_7 hf
            have h9 := o_inr hf ho_36
            exact K_36 y36_p0_now h9 _ _ _ hW (lv_sub hl [] rfl)
          · have hf := it_f c_7 hf
            refine lv_lload_n hx hb dX7_judge_42 rfl (lv_at hl 2 rfl) ?_
            refine lv_iload_n hx hb dX7_judge_43 rfl (lv_at hl 1 rfl) ?_
            refine lv_iconst (v := 1) hx hb dX7_judge_44 (by decide) ?_
            refine lv_isub hx hb dX7_judge_45 ?_
            refine lv_iload hx hb dX7_judge_46 (lv_at hl 3 rfl) ?_
            refine lv_isub hx hb dX7_judge_48 ?_
            obtain ⟨r_8, hr_8, hf⟩ := bnd hf
            refine q_callSL hB hW (As := [.int ((v1 - (1 : Int32)) - y36_4)]) (rest := [.long v2]) (ws' := [(a_p0, .inr (7, [.int p0_persons, .int p0_skies, .int p0_oaths, .ref a_p0_kind, .ref a_p0_skyAt, .ref a_p0_skyLoud, .ref a_p0_one, .ref a_p0_other, .ref a_p0_worth, .ref a_p0_hangs, .ref a_p0_now, .ref a_p0_readPerson, .ref a_p0_readSky, .ref a_p0_readOath, .int p0_readPersons, .int p0_readSkies, .int p0_readOaths, .ref a_p0_text, .int p0_length, .int p0_at, .int p0_faultAt, .int p0_acts, .int p0_next, .ref a_p0_row, .int p0_told, .ref a_p0_toldAt, .ref a_p0_toldWool, .ref a_p0_toldHeard, .long p0_seed, .ref a_p0_isKept, .ref a_p0_kept])), (a_p0_kind, .inl (cI, 5, .inl p0_kind)), (a_p0_skyAt, .inl (cI, 5, .inl p0_skyAt)), (a_p0_skyLoud, .inl (cI, 5, .inl p0_skyLoud)), (a_p0_one, .inl (cI, 5, .inl p0_one)), (a_p0_other, .inl (cI, 5, .inl p0_other)), (a_p0_worth, .inl (cI, 5, .inl p0_worth)), (a_p0_hangs, .inl (cI, 5, .inl p0_hangs)), (a_p0_now, .inl (cI, 18, .inl y36_p0_now))]) (c_X7_thousandTo l D cI cZ ((v1 - (1 : Int32)) - y36_4) r_8 hr_8) (va_cwS 1 hts gX7_judge_X7_thousandTo rfl rfl rfl (by decide +kernel) ⟨Nat.le_of_ble_eq_true rfl, Nat.le_of_ble_eq_true rfl⟩) [] rfl rfl rfl rfl rfl hl.1 rfl (Nat.le_of_ble_eq_true rfl) ⟨Nat.le_of_ble_eq_true rfl, Nat.le_of_ble_eq_true rfl⟩ dX7_judge_49 (fun H locs hW => ?_)
            obtain ⟨r_9, hr_9, hf⟩ := bnd hf
            refine q_ldiv hB hr_9 dX7_judge_52 ?_
            refine lv_ldc2 (v := 1000) hx hb hown (hts (.constantLong RX7 196 (1000)) (by decide +kernel)) dX7_judge_53 ?_
            refine lv_lrem hx hb dX7_judge_56 (by decide) ?_
            refine lv_l2i (v := (Int64.toInt32 (r_9 - r_9 / (1000 : Int64) * (1000 : Int64)))) hx hb dX7_judge_57 rfl ?_
            obtain ⟨w_10, hw_10, hf⟩ := bnd hf
            refine q_nmI hw_10 ?_
            refine lv_istore (lv' := [(5, .int w_10), (0, .ref a_p0), (1, .int v1), (2, .long v2), (4, .int y36_4)]) hx hb dX7_judge_58 hl (by decide) rfl (fun ls hl => ?_)
            refine lv_aload_n hx hb dX7_judge_60 rfl (lv_at hl 1 rfl) ?_
            refine lv_iload hx hb dX7_judge_61 (lv_at hl 0 rfl) ?_
            refine lv_bipush (v := 100) hx hb dX7_judge_63 (by decide) ?_
            refine lv_idiv hx hb dX7_judge_65 (by decide) ?_
            refine lv_iload hx hb dX7_judge_66 (lv_at hl 0 rfl) ?_
            refine lv_bipush (v := 10) hx hb dX7_judge_68 (by decide) ?_
            refine lv_idiv hx hb dX7_judge_70 (by decide) ?_
            refine lv_bipush (v := 10) hx hb dX7_judge_71 (by decide) ?_
            refine lv_irem hx hb dX7_judge_73 (by decide) ?_
            refine lv_iload hx hb dX7_judge_74 (lv_at hl 0 rfl) ?_
            refine lv_bipush (v := 10) hx hb dX7_judge_76 (by decide) ?_
            refine lv_irem hx hb dX7_judge_78 (by decide) ?_
            obtain ⟨r_11, hr_11, hf⟩ := bnd hf
            refine q_callVZ hB hW (ci := 7) (q0 := 0) rfl rfl rfl (As := [.int (w_10 / (100 : Int32)), .int ((w_10 / (10 : Int32)) - (w_10 / (10 : Int32)) / (10 : Int32) * (10 : Int32)), .int (w_10 - w_10 / (10 : Int32) * (10 : Int32))]) (rest := []) (ws' := [(a_p0, .inr (7, [.int p0_persons, .int p0_skies, .int p0_oaths, .ref a_p0_kind, .ref a_p0_skyAt, .ref a_p0_skyLoud, .ref a_p0_one, .ref a_p0_other, .ref a_p0_worth, .ref a_p0_hangs, .ref a_p0_now, .ref a_p0_readPerson, .ref a_p0_readSky, .ref a_p0_readOath, .int p0_readPersons, .int p0_readSkies, .int p0_readOaths, .ref a_p0_text, .int p0_length, .int p0_at, .int p0_faultAt, .int p0_acts, .int p0_next, .ref a_p0_row, .int p0_told, .ref a_p0_toldAt, .ref a_p0_toldWool, .ref a_p0_toldHeard, .long p0_seed, .ref a_p0_isKept, .ref a_p0_kept])), (a_p0_kind, .inl (cI, 5, .inl p0_kind)), (a_p0_skyAt, .inl (cI, 5, .inl p0_skyAt)), (a_p0_skyLoud, .inl (cI, 5, .inl p0_skyLoud)), (a_p0_one, .inl (cI, 5, .inl p0_one)), (a_p0_other, .inl (cI, 5, .inl p0_other)), (a_p0_worth, .inl (cI, 5, .inl p0_worth)), (a_p0_hangs, .inl (cI, 5, .inl p0_hangs)), (a_p0_now, .inl (cI, 18, .inl r_11.2))]) (c_X7_tryThing l D cI cZ a_p0 a_p0_kind a_p0_skyAt a_p0_skyLoud a_p0_one a_p0_other a_p0_worth a_p0_hangs a_p0_now a_p0_readPerson a_p0_readSky a_p0_readOath a_p0_text a_p0_row a_p0_toldAt a_p0_toldWool a_p0_toldHeard a_p0_isKept a_p0_kept p0_persons p0_skies p0_oaths p0_readPersons p0_readSkies p0_readOaths p0_length p0_at p0_faultAt p0_acts p0_next p0_told p0_seed p0_kind p0_skyAt p0_skyLoud p0_one p0_other p0_worth p0_hangs y36_p0_now (w_10 / (100 : Int32)) ((w_10 / (10 : Int32)) - (w_10 / (10 : Int32)) / (10 : Int32) * (10 : Int32)) (w_10 - w_10 / (10 : Int32) * (10 : Int32)) r_11 hr_11) (cwV 3 hts gX7_judge_X7_tryThing rfl rfl rfl (by decide +kernel) ⟨Nat.le_of_ble_eq_true rfl, Nat.le_of_ble_eq_true rfl⟩) [0, 1, 2, 3, 4, 5, 6, 7, 8] rfl rfl rfl rfl rfl hl.1 rfl (Nat.le_of_ble_eq_true rfl) ⟨Nat.le_of_ble_eq_true rfl, Nat.le_of_ble_eq_true rfl⟩ dX7_judge_79 (fun hzr_11 H locs hW => ?_)
            refine lv_if_ne (tgt := 88) hx hb dX7_judge_82 (by decide) (fun c_12 => ?_) (fun c_12 => ?_)
            · have hf := it_f c_12 hf
              refine lv_iinc (v := (y36_4 + (1 : Int32))) (lv' := [(4, .int (y36_4 + (1 : Int32))), (5, .int w_10), (0, .ref a_p0), (1, .int v1), (2, .long v2)]) hx hb dX7_judge_88 hl (k := 4) rfl rfl (by decide) rfl (fun ls hl => ?_)
              refine lv_goto (tgt := 36) hx hb dX7_judge_91 (by decide) ?_
              have h9 := o_inl hf ho_36
              exact ih (y36_4 + (1 : Int32)) r_11.2 _ _ _ h9 hW (lv_sub hl [2, 3, 4, 0] rfl)
            · have hf := it_t c_12 hf
              refine lv_iload hx hb dX7_judge_85 (lv_at hl 4 rfl) ?_
              have h9 := o_inr hf ho_36
              have h9 := s_inr h9 hk_36
              exact hE _ _ _ _ _ (y36_4, r_11.2) (sm h9) hW rfl dX7_judge_87
      exact L_36 FU (0 : Int32) r_6 _ _ _ hl_36 hW (lv_sub hl [1, 2, 3, 0] rfl)
    · have hf := it_t c_5 hf
      refine lv_bipush (v := -2) hx hb dX7_judge_26 (by decide) ?_
      exact hE _ _ _ _ _ ((-2 : Int32), p0_now) (sm hf) hW rfl dX7_judge_28
def f_X7_hear (v1 : Int32) (v2 : Int32) (v3 : Int32) (p0_told : Int32) (p0_toldAt : Nat → Int32) (p0_toldWool : Nat → Int32) (p0_toldHeard : Nat → Int32) : Option (Int32 × Int32 × (Nat → Int32) × (Nat → Int32) × (Nat → Int32)) := (f_X7_isPlace v1).bind fun r_1 => if r_1 = (0 : Int32) then some ((-1 : Int32), p0_told, p0_toldAt, p0_toldWool, p0_toldHeard) else (f_X7_in (Int32.toInt64 v2) (0 : Int64) (1 : Int64)).bind fun r_3 => if r_3 = (0 : Int32) then some ((-2 : Int32), p0_told, p0_toldAt, p0_toldWool, p0_toldHeard) else (f_X7_in (Int32.toInt64 v3) (0 : Int64) (1 : Int64)).bind fun r_5 => if r_5 = (0 : Int32) then some ((-2 : Int32), p0_told, p0_toldAt, p0_toldWool, p0_toldHeard) else if p0_told = (6 : Int32) then some ((-4 : Int32), p0_told, p0_toldAt, p0_toldWool, p0_toldHeard) else (ast p0_toldAt 6 p0_told v1).bind fun r_8 => (ast p0_toldWool 6 p0_told v2).bind fun r_9 => (ast p0_toldHeard 6 p0_told v3).bind fun r_10 => (some (p0_told + (1 : Int32))).bind fun w_11 => some (w_11, w_11, r_8, r_9, r_10)
set_option maxHeartbeats 4000000 in
set_option maxRecDepth 100000 in
theorem c_X7_hear (l : Launch) (D : va_G) (cI cZ : ClassId) (a_p0 a_p0_kind a_p0_skyAt a_p0_skyLoud a_p0_one a_p0_other a_p0_worth a_p0_hangs a_p0_now a_p0_readPerson a_p0_readSky a_p0_readOath a_p0_text a_p0_row a_p0_toldAt a_p0_toldWool a_p0_toldHeard a_p0_isKept a_p0_kept : Nat) (p0_persons : Int32) (p0_skies : Int32) (p0_oaths : Int32) (p0_readPersons : Int32) (p0_readSkies : Int32) (p0_readOaths : Int32) (p0_length : Int32) (p0_at : Int32) (p0_faultAt : Int32) (p0_acts : Int32) (p0_next : Int32) (p0_told : Int32) (p0_seed : Int64) (p0_toldAt : Nat → Int32) (p0_toldWool : Nat → Int32) (p0_toldHeard : Nat → Int32) (v1 : Int32) (v2 : Int32) (v3 : Int32) (q : Int32 × Int32 × (Nat → Int32) × (Nat → Int32) × (Nat → Int32)) (hf : f_X7_hear v1 v2 v3 p0_told p0_toldAt p0_toldWool p0_toldHeard = some q) : CtI l D cI cZ yX7_hear wsX7_hear 2 45 [.ref a_p0, .int v1, .int v2, .int v3] [(a_p0, .inr (7, [.int p0_persons, .int p0_skies, .int p0_oaths, .ref a_p0_kind, .ref a_p0_skyAt, .ref a_p0_skyLoud, .ref a_p0_one, .ref a_p0_other, .ref a_p0_worth, .ref a_p0_hangs, .ref a_p0_now, .ref a_p0_readPerson, .ref a_p0_readSky, .ref a_p0_readOath, .int p0_readPersons, .int p0_readSkies, .int p0_readOaths, .ref a_p0_text, .int p0_length, .int p0_at, .int p0_faultAt, .int p0_acts, .int p0_next, .ref a_p0_row, .int p0_told, .ref a_p0_toldAt, .ref a_p0_toldWool, .ref a_p0_toldHeard, .long p0_seed, .ref a_p0_isKept, .ref a_p0_kept])), (a_p0_toldAt, .inl (cI, 6, .inl p0_toldAt)), (a_p0_toldWool, .inl (cI, 6, .inl p0_toldWool)), (a_p0_toldHeard, .inl (cI, 6, .inl p0_toldHeard))] (fun q => [(a_p0, .inr (7, [.int p0_persons, .int p0_skies, .int p0_oaths, .ref a_p0_kind, .ref a_p0_skyAt, .ref a_p0_skyLoud, .ref a_p0_one, .ref a_p0_other, .ref a_p0_worth, .ref a_p0_hangs, .ref a_p0_now, .ref a_p0_readPerson, .ref a_p0_readSky, .ref a_p0_readOath, .int p0_readPersons, .int p0_readSkies, .int p0_readOaths, .ref a_p0_text, .int p0_length, .int p0_at, .int p0_faultAt, .int p0_acts, .int p0_next, .ref a_p0_row, .int q.2.1, .ref a_p0_toldAt, .ref a_p0_toldWool, .ref a_p0_toldHeard, .long p0_seed, .ref a_p0_isKept, .ref a_p0_kept])), (a_p0_toldAt, .inl (cI, 6, .inl q.2.2.1)), (a_p0_toldWool, .inl (cI, 6, .inl q.2.2.2.1)), (a_p0_toldHeard, .inl (cI, 6, .inl q.2.2.2.2))]) (fun q => q.1) q := by
  refine CtI.of (cc := cX7_hear) (maxL := 4) (plainFor_of_name (by decide)) rfl (Nat.le_of_ble_eq_true rfl) ?_
  intro p e s m args below meth c A Q H ls hB hE hW hl
  have hx := hB.1
  have hb := hB.2.1
  have hml := hB.2.2.2.1
  have hown : s.vm.findClass RX7 = some m.cls := hB.2.2.2.2.1
  have hts := hB.2.2.2.2.2.1
  have hK := hB.2.2.2.2.2.2.2.1.1
  have hl : lv_has ls 4 [(0, .ref a_p0), (1, .int v1), (2, .int v2), (3, .int v3)] := hl
  have in_X7 : ∀ w ∈ wsX70, w ∈ wsX7_hear := fun w h => List.mem_cons_of_mem _ (List.mem_append_right _ h)
  have fl_49 : (Cond.fieldLink RX7 49 (TX7 25).1 (TX7 25).2.1 (TX7 25).2.2.1).before args s = true := hts (.fieldLink RX7 49 "ClapOathsModel" "toldAt" "[I") (by decide +kernel)
  have fl_52 : (Cond.fieldLink RX7 52 (TX7 26).1 (TX7 26).2.1 (TX7 26).2.2.1).before args s = true := hts (.fieldLink RX7 52 "ClapOathsModel" "toldWool" "[I") (by decide +kernel)
  have fl_55 : (Cond.fieldLink RX7 55 (TX7 27).1 (TX7 27).2.1 (TX7 27).2.2.1).before args s = true := hts (.fieldLink RX7 55 "ClapOathsModel" "toldHeard" "[I") (by decide +kernel)
  have fl_208 : (Cond.fieldLink RX7 208 (TX7 24).1 (TX7 24).2.1 (TX7 24).2.2.1).before args s = true := hts (.fieldLink RX7 208 "ClapOathsModel" "told" "I") (by decide +kernel)
  unfold f_X7_hear at hf
  refine lv_iload_n hx hb dX7_hear_0 rfl (lv_at hl 1 rfl) ?_
  obtain ⟨r_1, hr_1, hf⟩ := bnd hf
  refine q_callSZ hB hW (As := [.int v1]) (rest := []) (ws' := [(a_p0, .inr (7, [.int p0_persons, .int p0_skies, .int p0_oaths, .ref a_p0_kind, .ref a_p0_skyAt, .ref a_p0_skyLoud, .ref a_p0_one, .ref a_p0_other, .ref a_p0_worth, .ref a_p0_hangs, .ref a_p0_now, .ref a_p0_readPerson, .ref a_p0_readSky, .ref a_p0_readOath, .int p0_readPersons, .int p0_readSkies, .int p0_readOaths, .ref a_p0_text, .int p0_length, .int p0_at, .int p0_faultAt, .int p0_acts, .int p0_next, .ref a_p0_row, .int p0_told, .ref a_p0_toldAt, .ref a_p0_toldWool, .ref a_p0_toldHeard, .long p0_seed, .ref a_p0_isKept, .ref a_p0_kept])), (a_p0_toldAt, .inl (cI, 6, .inl p0_toldAt)), (a_p0_toldWool, .inl (cI, 6, .inl p0_toldWool)), (a_p0_toldHeard, .inl (cI, 6, .inl p0_toldHeard))]) (c_X7_isPlace l D cI cZ v1 r_1 hr_1) (va_cwS 1 hts gX7_hear_X7_isPlace rfl rfl rfl (by decide +kernel) ⟨Nat.le_of_ble_eq_true rfl, Nat.le_of_ble_eq_true rfl⟩) [] rfl rfl rfl rfl rfl hl.1 rfl (Nat.le_of_ble_eq_true rfl) ⟨Nat.le_of_ble_eq_true rfl, Nat.le_of_ble_eq_true rfl⟩ dX7_hear_1 (fun hzr_1 H locs hW => ?_)
  refine lv_if_ne (tgt := 9) hx hb dX7_hear_4 (by decide) (fun c_2 => ?_) (fun c_2 => ?_)
  · have hf := it_f c_2 hf
    refine lv_iload_n hx hb dX7_hear_9 rfl (lv_at hl 2 rfl) ?_
    refine lv_i2l (v := (Int32.toInt64 v2)) hx hb dX7_hear_10 rfl ?_
    refine lv_lconst (v := 0) hx hb dX7_hear_11 (by decide) ?_
    refine lv_lconst (v := 1) hx hb dX7_hear_12 (by decide) ?_
    obtain ⟨r_3, hr_3, hf⟩ := bnd hf
    refine q_callSZ hB hW (As := [.long (Int32.toInt64 v2), .long (0 : Int64), .long (1 : Int64)]) (rest := []) (ws' := [(a_p0, .inr (7, [.int p0_persons, .int p0_skies, .int p0_oaths, .ref a_p0_kind, .ref a_p0_skyAt, .ref a_p0_skyLoud, .ref a_p0_one, .ref a_p0_other, .ref a_p0_worth, .ref a_p0_hangs, .ref a_p0_now, .ref a_p0_readPerson, .ref a_p0_readSky, .ref a_p0_readOath, .int p0_readPersons, .int p0_readSkies, .int p0_readOaths, .ref a_p0_text, .int p0_length, .int p0_at, .int p0_faultAt, .int p0_acts, .int p0_next, .ref a_p0_row, .int p0_told, .ref a_p0_toldAt, .ref a_p0_toldWool, .ref a_p0_toldHeard, .long p0_seed, .ref a_p0_isKept, .ref a_p0_kept])), (a_p0_toldAt, .inl (cI, 6, .inl p0_toldAt)), (a_p0_toldWool, .inl (cI, 6, .inl p0_toldWool)), (a_p0_toldHeard, .inl (cI, 6, .inl p0_toldHeard))]) (c_X7_in l D cI cZ (Int32.toInt64 v2) (0 : Int64) (1 : Int64) r_3 hr_3) (va_cwS 3 hts gX7_hear_X7_in rfl rfl rfl (by decide +kernel) ⟨Nat.le_of_ble_eq_true rfl, Nat.le_of_ble_eq_true rfl⟩) [] rfl rfl rfl rfl rfl hl.1 rfl (Nat.le_of_ble_eq_true rfl) ⟨Nat.le_of_ble_eq_true rfl, Nat.le_of_ble_eq_true rfl⟩ dX7_hear_13 (fun hzr_3 H locs hW => ?_)
    refine lv_if_eq (tgt := 29) hx hb dX7_hear_16 (by decide) (fun c_4 => ?_) (fun c_4 => ?_)
    · have hf := it_t c_4 hf
      refine lv_bipush (v := -2) hx hb dX7_hear_29 (by decide) ?_
      exact hE _ _ _ _ _ ((-2 : Int32), p0_told, p0_toldAt, p0_toldWool, p0_toldHeard) (sm hf) hW rfl dX7_hear_31
    · have hf := it_f c_4 hf
      refine lv_iload_n hx hb dX7_hear_19 rfl (lv_at hl 3 rfl) ?_
      refine lv_i2l (v := (Int32.toInt64 v3)) hx hb dX7_hear_20 rfl ?_
      refine lv_lconst (v := 0) hx hb dX7_hear_21 (by decide) ?_
      refine lv_lconst (v := 1) hx hb dX7_hear_22 (by decide) ?_
      obtain ⟨r_5, hr_5, hf⟩ := bnd hf
      refine q_callSZ hB hW (As := [.long (Int32.toInt64 v3), .long (0 : Int64), .long (1 : Int64)]) (rest := []) (ws' := [(a_p0, .inr (7, [.int p0_persons, .int p0_skies, .int p0_oaths, .ref a_p0_kind, .ref a_p0_skyAt, .ref a_p0_skyLoud, .ref a_p0_one, .ref a_p0_other, .ref a_p0_worth, .ref a_p0_hangs, .ref a_p0_now, .ref a_p0_readPerson, .ref a_p0_readSky, .ref a_p0_readOath, .int p0_readPersons, .int p0_readSkies, .int p0_readOaths, .ref a_p0_text, .int p0_length, .int p0_at, .int p0_faultAt, .int p0_acts, .int p0_next, .ref a_p0_row, .int p0_told, .ref a_p0_toldAt, .ref a_p0_toldWool, .ref a_p0_toldHeard, .long p0_seed, .ref a_p0_isKept, .ref a_p0_kept])), (a_p0_toldAt, .inl (cI, 6, .inl p0_toldAt)), (a_p0_toldWool, .inl (cI, 6, .inl p0_toldWool)), (a_p0_toldHeard, .inl (cI, 6, .inl p0_toldHeard))]) (c_X7_in l D cI cZ (Int32.toInt64 v3) (0 : Int64) (1 : Int64) r_5 hr_5) (va_cwS 3 hts gX7_hear_X7_in rfl rfl rfl (by decide +kernel) ⟨Nat.le_of_ble_eq_true rfl, Nat.le_of_ble_eq_true rfl⟩) [] rfl rfl rfl rfl rfl hl.1 rfl (Nat.le_of_ble_eq_true rfl) ⟨Nat.le_of_ble_eq_true rfl, Nat.le_of_ble_eq_true rfl⟩ dX7_hear_23 (fun hzr_5 H locs hW => ?_)
      refine lv_if_ne (tgt := 32) hx hb dX7_hear_26 (by decide) (fun c_6 => ?_) (fun c_6 => ?_)
      · have hf := it_f c_6 hf
        refine lv_aload_n hx hb dX7_hear_32 rfl (lv_at hl 0 rfl) ?_
        refine q_get hB hW 7 in_X7 0 rfl rfl 24 (by decide) fl_208 (v := .int p0_told) rfl dX7_hear_33 ?_
        refine lv_bipush (v := 6) hx hb dX7_hear_36 (by decide) ?_
        refine lv_icmp_ne (tgt := 44) hx hb dX7_hear_38 (by decide) (fun c_7 => ?_) (fun c_7 => ?_)
        · have hf := it_f c_7 hf
          refine lv_aload_n hx hb dX7_hear_44 rfl (lv_at hl 0 rfl) ?_
          refine q_get hB hW 7 in_X7 0 rfl rfl 25 (by decide) fl_49 (v := .ref a_p0_toldAt) rfl dX7_hear_45 ?_
          refine lv_aload_n hx hb dX7_hear_48 rfl (lv_at hl 0 rfl) ?_
          refine q_get hB hW 7 in_X7 0 rfl rfl 24 (by decide) fl_208 (v := .int p0_told) rfl dX7_hear_49 ?_
          refine lv_iload_n hx hb dX7_hear_52 rfl (lv_at hl 1 rfl) ?_
          obtain ⟨r_8, hr_8, hf⟩ := bnd hf
          refine q_iast hB hW 1 rfl hr_8 (ws' := [(a_p0, .inr (7, [.int p0_persons, .int p0_skies, .int p0_oaths, .ref a_p0_kind, .ref a_p0_skyAt, .ref a_p0_skyLoud, .ref a_p0_one, .ref a_p0_other, .ref a_p0_worth, .ref a_p0_hangs, .ref a_p0_now, .ref a_p0_readPerson, .ref a_p0_readSky, .ref a_p0_readOath, .int p0_readPersons, .int p0_readSkies, .int p0_readOaths, .ref a_p0_text, .int p0_length, .int p0_at, .int p0_faultAt, .int p0_acts, .int p0_next, .ref a_p0_row, .int p0_told, .ref a_p0_toldAt, .ref a_p0_toldWool, .ref a_p0_toldHeard, .long p0_seed, .ref a_p0_isKept, .ref a_p0_kept])), (a_p0_toldAt, .inl (cI, 6, .inl r_8)), (a_p0_toldWool, .inl (cI, 6, .inl p0_toldWool)), (a_p0_toldHeard, .inl (cI, 6, .inl p0_toldHeard))]) rfl dX7_hear_53 (fun H locs hW => ?_)
          refine lv_aload_n hx hb dX7_hear_54 rfl (lv_at hl 0 rfl) ?_
          refine q_get hB hW 7 in_X7 0 rfl rfl 26 (by decide) fl_52 (v := .ref a_p0_toldWool) rfl dX7_hear_55 ?_
          refine lv_aload_n hx hb dX7_hear_58 rfl (lv_at hl 0 rfl) ?_
          refine q_get hB hW 7 in_X7 0 rfl rfl 24 (by decide) fl_208 (v := .int p0_told) rfl dX7_hear_59 ?_
          refine lv_iload_n hx hb dX7_hear_62 rfl (lv_at hl 2 rfl) ?_
          obtain ⟨r_9, hr_9, hf⟩ := bnd hf
          refine q_iast hB hW 2 rfl hr_9 (ws' := [(a_p0, .inr (7, [.int p0_persons, .int p0_skies, .int p0_oaths, .ref a_p0_kind, .ref a_p0_skyAt, .ref a_p0_skyLoud, .ref a_p0_one, .ref a_p0_other, .ref a_p0_worth, .ref a_p0_hangs, .ref a_p0_now, .ref a_p0_readPerson, .ref a_p0_readSky, .ref a_p0_readOath, .int p0_readPersons, .int p0_readSkies, .int p0_readOaths, .ref a_p0_text, .int p0_length, .int p0_at, .int p0_faultAt, .int p0_acts, .int p0_next, .ref a_p0_row, .int p0_told, .ref a_p0_toldAt, .ref a_p0_toldWool, .ref a_p0_toldHeard, .long p0_seed, .ref a_p0_isKept, .ref a_p0_kept])), (a_p0_toldAt, .inl (cI, 6, .inl r_8)), (a_p0_toldWool, .inl (cI, 6, .inl r_9)), (a_p0_toldHeard, .inl (cI, 6, .inl p0_toldHeard))]) rfl dX7_hear_63 (fun H locs hW => ?_)
          refine lv_aload_n hx hb dX7_hear_64 rfl (lv_at hl 0 rfl) ?_
          refine q_get hB hW 7 in_X7 0 rfl rfl 27 (by decide) fl_55 (v := .ref a_p0_toldHeard) rfl dX7_hear_65 ?_
          refine lv_aload_n hx hb dX7_hear_68 rfl (lv_at hl 0 rfl) ?_
          refine q_get hB hW 7 in_X7 0 rfl rfl 24 (by decide) fl_208 (v := .int p0_told) rfl dX7_hear_69 ?_
          refine lv_iload_n hx hb dX7_hear_72 rfl (lv_at hl 3 rfl) ?_
          obtain ⟨r_10, hr_10, hf⟩ := bnd hf
          refine q_iast hB hW 3 rfl hr_10 (ws' := [(a_p0, .inr (7, [.int p0_persons, .int p0_skies, .int p0_oaths, .ref a_p0_kind, .ref a_p0_skyAt, .ref a_p0_skyLoud, .ref a_p0_one, .ref a_p0_other, .ref a_p0_worth, .ref a_p0_hangs, .ref a_p0_now, .ref a_p0_readPerson, .ref a_p0_readSky, .ref a_p0_readOath, .int p0_readPersons, .int p0_readSkies, .int p0_readOaths, .ref a_p0_text, .int p0_length, .int p0_at, .int p0_faultAt, .int p0_acts, .int p0_next, .ref a_p0_row, .int p0_told, .ref a_p0_toldAt, .ref a_p0_toldWool, .ref a_p0_toldHeard, .long p0_seed, .ref a_p0_isKept, .ref a_p0_kept])), (a_p0_toldAt, .inl (cI, 6, .inl r_8)), (a_p0_toldWool, .inl (cI, 6, .inl r_9)), (a_p0_toldHeard, .inl (cI, 6, .inl r_10))]) rfl dX7_hear_73 (fun H locs hW => ?_)
          refine lv_aload_n hx hb dX7_hear_74 rfl (lv_at hl 0 rfl) ?_
          refine lv_dup hx hb dX7_hear_75 rfl ?_
          refine q_get hB hW 7 in_X7 0 rfl rfl 24 (by decide) fl_208 (v := .int p0_told) rfl dX7_hear_76 ?_
          refine lv_iconst (v := 1) hx hb dX7_hear_79 (by decide) ?_
          refine lv_iadd hx hb dX7_hear_80 ?_
          obtain ⟨w_11, hw_11, hf⟩ := bnd hf
          refine q_nmI hw_11 ?_
          refine q_put hB hW 7 in_X7 tyX7 tyX7_ok nmX7 0 rfl rfl 24 (by decide) fl_208 rfl (by first | rfl | decide) (by first | rfl | decide) (Nat.le_of_ble_eq_true rfl) (ws' := [(a_p0, .inr (7, [.int p0_persons, .int p0_skies, .int p0_oaths, .ref a_p0_kind, .ref a_p0_skyAt, .ref a_p0_skyLoud, .ref a_p0_one, .ref a_p0_other, .ref a_p0_worth, .ref a_p0_hangs, .ref a_p0_now, .ref a_p0_readPerson, .ref a_p0_readSky, .ref a_p0_readOath, .int p0_readPersons, .int p0_readSkies, .int p0_readOaths, .ref a_p0_text, .int p0_length, .int p0_at, .int p0_faultAt, .int p0_acts, .int p0_next, .ref a_p0_row, .int w_11, .ref a_p0_toldAt, .ref a_p0_toldWool, .ref a_p0_toldHeard, .long p0_seed, .ref a_p0_isKept, .ref a_p0_kept])), (a_p0_toldAt, .inl (cI, 6, .inl r_8)), (a_p0_toldWool, .inl (cI, 6, .inl r_9)), (a_p0_toldHeard, .inl (cI, 6, .inl r_10))]) rfl dX7_hear_81 (fun H locs hW => ?_)
          refine lv_aload_n hx hb dX7_hear_84 rfl (lv_at hl 0 rfl) ?_
          refine q_get hB hW 7 in_X7 0 rfl rfl 24 (by decide) fl_208 (v := .int w_11) rfl dX7_hear_85 ?_
          exact hE _ _ _ _ _ (w_11, w_11, r_8, r_9, r_10) (sm hf) hW rfl dX7_hear_88
        · have hf := it_t c_7 hf
          refine lv_bipush (v := -4) hx hb dX7_hear_41 (by decide) ?_
          exact hE _ _ _ _ _ ((-4 : Int32), p0_told, p0_toldAt, p0_toldWool, p0_toldHeard) (sm hf) hW rfl dX7_hear_43
      · have hf := it_t c_6 hf
        refine lv_bipush (v := -2) hx hb dX7_hear_29 (by decide) ?_
        exact hE _ _ _ _ _ ((-2 : Int32), p0_told, p0_toldAt, p0_toldWool, p0_toldHeard) (sm hf) hW rfl dX7_hear_31
  · have hf := it_t c_2 hf
    refine lv_iconst (v := -1) hx hb dX7_hear_7 (by decide) ?_
    exact hE _ _ _ _ _ ((-1 : Int32), p0_told, p0_toldAt, p0_toldWool, p0_toldHeard) (sm hf) hW rfl dX7_hear_8
def f_X7_unhear (p0_told : Int32) : Option (Int32 × Int32) := some (p0_told, (0 : Int32))
set_option maxHeartbeats 4000000 in
set_option maxRecDepth 100000 in
theorem c_X7_unhear (l : Launch) (D : va_G) (cI cZ : ClassId) (a_p0 a_p0_kind a_p0_skyAt a_p0_skyLoud a_p0_one a_p0_other a_p0_worth a_p0_hangs a_p0_now a_p0_readPerson a_p0_readSky a_p0_readOath a_p0_text a_p0_row a_p0_toldAt a_p0_toldWool a_p0_toldHeard a_p0_isKept a_p0_kept : Nat) (p0_persons : Int32) (p0_skies : Int32) (p0_oaths : Int32) (p0_readPersons : Int32) (p0_readSkies : Int32) (p0_readOaths : Int32) (p0_length : Int32) (p0_at : Int32) (p0_faultAt : Int32) (p0_acts : Int32) (p0_next : Int32) (p0_told : Int32) (p0_seed : Int64) (q : Int32 × Int32) (hf : f_X7_unhear p0_told = some q) : CtI l D cI cZ yX7_unhear wsX7_unhear 0 0 [.ref a_p0] [(a_p0, .inr (7, [.int p0_persons, .int p0_skies, .int p0_oaths, .ref a_p0_kind, .ref a_p0_skyAt, .ref a_p0_skyLoud, .ref a_p0_one, .ref a_p0_other, .ref a_p0_worth, .ref a_p0_hangs, .ref a_p0_now, .ref a_p0_readPerson, .ref a_p0_readSky, .ref a_p0_readOath, .int p0_readPersons, .int p0_readSkies, .int p0_readOaths, .ref a_p0_text, .int p0_length, .int p0_at, .int p0_faultAt, .int p0_acts, .int p0_next, .ref a_p0_row, .int p0_told, .ref a_p0_toldAt, .ref a_p0_toldWool, .ref a_p0_toldHeard, .long p0_seed, .ref a_p0_isKept, .ref a_p0_kept]))] (fun q => [(a_p0, .inr (7, [.int p0_persons, .int p0_skies, .int p0_oaths, .ref a_p0_kind, .ref a_p0_skyAt, .ref a_p0_skyLoud, .ref a_p0_one, .ref a_p0_other, .ref a_p0_worth, .ref a_p0_hangs, .ref a_p0_now, .ref a_p0_readPerson, .ref a_p0_readSky, .ref a_p0_readOath, .int p0_readPersons, .int p0_readSkies, .int p0_readOaths, .ref a_p0_text, .int p0_length, .int p0_at, .int p0_faultAt, .int p0_acts, .int p0_next, .ref a_p0_row, .int q.2, .ref a_p0_toldAt, .ref a_p0_toldWool, .ref a_p0_toldHeard, .long p0_seed, .ref a_p0_isKept, .ref a_p0_kept]))]) (fun q => q.1) q := by
  refine CtI.of (cc := cX7_unhear) (maxL := 2) (plainFor_of_name (by decide)) rfl (Nat.le_of_ble_eq_true rfl) ?_
  intro p e s m args below meth c A Q H ls hB hE hW hl
  have hx := hB.1
  have hb := hB.2.1
  have hml := hB.2.2.2.1
  have hown : s.vm.findClass RX7 = some m.cls := hB.2.2.2.2.1
  have hts := hB.2.2.2.2.2.1
  have hK := hB.2.2.2.2.2.2.2.1.1
  have hl : lv_has ls 2 [(0, .ref a_p0)] := hl
  have in_X7 : ∀ w ∈ wsX70, w ∈ wsX7_unhear := fun w h => List.mem_cons_of_mem _ (List.mem_append_right _ h)
  have fl_208 : (Cond.fieldLink RX7 208 (TX7 24).1 (TX7 24).2.1 (TX7 24).2.2.1).before args s = true := hts (.fieldLink RX7 208 "ClapOathsModel" "told" "I") (by decide +kernel)
  unfold f_X7_unhear at hf
  refine lv_aload_n hx hb dX7_unhear_0 rfl (lv_at hl 0 rfl) ?_
  refine q_get hB hW 7 in_X7 0 rfl rfl 24 (by decide) fl_208 (v := .int p0_told) rfl dX7_unhear_1 ?_
  refine lv_istore_n (lv' := [(1, .int p0_told), (0, .ref a_p0)]) hx hb dX7_unhear_4 rfl hl (by decide) rfl (fun ls hl => ?_)
  refine lv_aload_n hx hb dX7_unhear_5 rfl (lv_at hl 1 rfl) ?_
  refine lv_iconst (v := 0) hx hb dX7_unhear_6 (by decide) ?_
  refine q_put hB hW 7 in_X7 tyX7 tyX7_ok nmX7 0 rfl rfl 24 (by decide) fl_208 rfl (by first | rfl | decide) (by first | rfl | decide) (Nat.le_of_ble_eq_true rfl) (ws' := [(a_p0, .inr (7, [.int p0_persons, .int p0_skies, .int p0_oaths, .ref a_p0_kind, .ref a_p0_skyAt, .ref a_p0_skyLoud, .ref a_p0_one, .ref a_p0_other, .ref a_p0_worth, .ref a_p0_hangs, .ref a_p0_now, .ref a_p0_readPerson, .ref a_p0_readSky, .ref a_p0_readOath, .int p0_readPersons, .int p0_readSkies, .int p0_readOaths, .ref a_p0_text, .int p0_length, .int p0_at, .int p0_faultAt, .int p0_acts, .int p0_next, .ref a_p0_row, .int (0 : Int32), .ref a_p0_toldAt, .ref a_p0_toldWool, .ref a_p0_toldHeard, .long p0_seed, .ref a_p0_isKept, .ref a_p0_kept]))]) rfl dX7_unhear_7 (fun H locs hW => ?_)
  refine lv_iload_n hx hb dX7_unhear_10 rfl (lv_at hl 0 rfl) ?_
  exact hE _ _ _ _ _ (p0_told, (0 : Int32)) (sm hf) hW rfl dX7_unhear_11
def b_X7_which_34 (v1 : Int32) (v2 : Int32) (v3 : Int32) (v4 : Int32) (p0_told : Int32) (p0_toldAt : Nat → Int32) (p0_toldWool : Nat → Int32) (p0_toldHeard : Nat → Int32) (v5 : Int32) (v6 : Int32) : Option ((Int32 × Int32) ⊕ (Int32)) := if p0_told ≤ v6 then some (.inr v5) else (ald p0_toldWool 6 v6).bind fun r_536 => if r_536 = (1 : Int32) then (some ((v4 - v4 / (10 : Int32) * (10 : Int32)) / (2 : Int32))).bind fun w_547 => if v5 = (0 : Int32) then some (.inl ((0 : Int32), (v6 + (1 : Int32)))) else (ald p0_toldAt 6 v6).bind fun r_549 => (f_X7_far r_549 (v4 / (10 : Int32))).bind fun r_550 => if w_547 < r_550 then (ald p0_toldHeard 6 v6).bind fun r_552 => if r_552 = (1 : Int32) then some (.inl ((0 : Int32), (v6 + (1 : Int32)))) else some (.inl ((1 : Int32), (v6 + (1 : Int32)))) else (ald p0_toldHeard 6 v6).bind fun r_554 => if r_554 = (1 : Int32) then some (.inl ((1 : Int32), (v6 + (1 : Int32)))) else some (.inl ((0 : Int32), (v6 + (1 : Int32)))) else (some (v4 - v4 / (10 : Int32) * (10 : Int32))).bind fun w_538 => if v5 = (0 : Int32) then some (.inl ((0 : Int32), (v6 + (1 : Int32)))) else (ald p0_toldAt 6 v6).bind fun r_540 => (f_X7_far r_540 (v4 / (10 : Int32))).bind fun r_541 => if w_538 < r_541 then (ald p0_toldHeard 6 v6).bind fun r_543 => if r_543 = (1 : Int32) then some (.inl ((0 : Int32), (v6 + (1 : Int32)))) else some (.inl ((1 : Int32), (v6 + (1 : Int32)))) else (ald p0_toldHeard 6 v6).bind fun r_545 => if r_545 = (1 : Int32) then some (.inl ((1 : Int32), (v6 + (1 : Int32)))) else some (.inl ((0 : Int32), (v6 + (1 : Int32))))
def b_X7_which_21 (v1 : Int32) (p0_told : Int32) (p0_toldAt : Nat → Int32) (p0_toldWool : Nat → Int32) (p0_toldHeard : Nat → Int32) (v2 : Int32) (v3 : Int32) (v4 : Int32) : Option ((Int32 × Int32 × Int32) ⊕ (Int32 × Int32)) := if (100 : Int32) ≤ v4 then some (.inr (v2, v3)) else (itr (fun s => b_X7_which_34 v1 v2 v3 v4 p0_told p0_toldAt p0_toldWool p0_toldHeard s.1 s.2) FU ((1 : Int32), (0 : Int32))).bind fun x_34 => if x_34 = (0 : Int32) then (some (v2 + (0 : Int32))).bind fun w_524 => some (.inl (w_524, v3, (v4 + (1 : Int32)))) else if v2 = (0 : Int32) then (some (v2 + (1 : Int32))).bind fun w_527 => some (.inl (w_527, v4, (v4 + (1 : Int32)))) else (some (v2 + (1 : Int32))).bind fun w_526 => some (.inl (w_526, v3, (v4 + (1 : Int32))))
def f_X7_which (v1 : Int32) (p0_told : Int32) (p0_toldAt : Nat → Int32) (p0_toldWool : Nat → Int32) (p0_toldHeard : Nat → Int32) : Option (Int32) := (f_X7_in (Int32.toInt64 v1) (0 : Int64) (1 : Int64)).bind fun r_1 => if r_1 = (0 : Int32) then some (-2 : Int32) else (itr (fun s => b_X7_which_21 v1 p0_told p0_toldAt p0_toldWool p0_toldHeard s.1 s.2.1 s.2.2) FU ((0 : Int32), (-9 : Int32), (0 : Int32))).bind fun x_21 => if v1 = (0 : Int32) then some x_21.1 else some x_21.2
set_option maxHeartbeats 4000000 in
set_option maxRecDepth 100000 in
theorem c_X7_which (l : Launch) (D : va_G) (cI cZ : ClassId) (a_p0 a_p0_kind a_p0_skyAt a_p0_skyLoud a_p0_one a_p0_other a_p0_worth a_p0_hangs a_p0_now a_p0_readPerson a_p0_readSky a_p0_readOath a_p0_text a_p0_row a_p0_toldAt a_p0_toldWool a_p0_toldHeard a_p0_isKept a_p0_kept : Nat) (p0_persons : Int32) (p0_skies : Int32) (p0_oaths : Int32) (p0_readPersons : Int32) (p0_readSkies : Int32) (p0_readOaths : Int32) (p0_length : Int32) (p0_at : Int32) (p0_faultAt : Int32) (p0_acts : Int32) (p0_next : Int32) (p0_told : Int32) (p0_seed : Int64) (p0_toldAt : Nat → Int32) (p0_toldWool : Nat → Int32) (p0_toldHeard : Nat → Int32) (v1 : Int32) (q : Int32) (hf : f_X7_which v1 p0_told p0_toldAt p0_toldWool p0_toldHeard = some q) : CtI l D cI cZ yX7_which wsX7_which 1 25 [.ref a_p0, .int v1] [(a_p0, .inr (7, [.int p0_persons, .int p0_skies, .int p0_oaths, .ref a_p0_kind, .ref a_p0_skyAt, .ref a_p0_skyLoud, .ref a_p0_one, .ref a_p0_other, .ref a_p0_worth, .ref a_p0_hangs, .ref a_p0_now, .ref a_p0_readPerson, .ref a_p0_readSky, .ref a_p0_readOath, .int p0_readPersons, .int p0_readSkies, .int p0_readOaths, .ref a_p0_text, .int p0_length, .int p0_at, .int p0_faultAt, .int p0_acts, .int p0_next, .ref a_p0_row, .int p0_told, .ref a_p0_toldAt, .ref a_p0_toldWool, .ref a_p0_toldHeard, .long p0_seed, .ref a_p0_isKept, .ref a_p0_kept])), (a_p0_toldAt, .inl (cI, 6, .inl p0_toldAt)), (a_p0_toldWool, .inl (cI, 6, .inl p0_toldWool)), (a_p0_toldHeard, .inl (cI, 6, .inl p0_toldHeard))] (fun q => [(a_p0, .inr (7, [.int p0_persons, .int p0_skies, .int p0_oaths, .ref a_p0_kind, .ref a_p0_skyAt, .ref a_p0_skyLoud, .ref a_p0_one, .ref a_p0_other, .ref a_p0_worth, .ref a_p0_hangs, .ref a_p0_now, .ref a_p0_readPerson, .ref a_p0_readSky, .ref a_p0_readOath, .int p0_readPersons, .int p0_readSkies, .int p0_readOaths, .ref a_p0_text, .int p0_length, .int p0_at, .int p0_faultAt, .int p0_acts, .int p0_next, .ref a_p0_row, .int p0_told, .ref a_p0_toldAt, .ref a_p0_toldWool, .ref a_p0_toldHeard, .long p0_seed, .ref a_p0_isKept, .ref a_p0_kept])), (a_p0_toldAt, .inl (cI, 6, .inl p0_toldAt)), (a_p0_toldWool, .inl (cI, 6, .inl p0_toldWool)), (a_p0_toldHeard, .inl (cI, 6, .inl p0_toldHeard))]) (fun q => q) q := by
  refine CtI.of (cc := cX7_which) (maxL := 8) (plainFor_of_name (by decide)) rfl (Nat.le_of_ble_eq_true rfl) ?_
  intro p e s m args below meth c A Q H ls hB hE hW hl
  have hx := hB.1
  have hb := hB.2.1
  have hml := hB.2.2.2.1
  have hown : s.vm.findClass RX7 = some m.cls := hB.2.2.2.2.1
  have hts := hB.2.2.2.2.2.1
  have hK := hB.2.2.2.2.2.2.2.1.1
  have hl : lv_has ls 8 [(0, .ref a_p0), (1, .int v1)] := hl
  have in_X7 : ∀ w ∈ wsX70, w ∈ wsX7_which := fun w h => List.mem_cons_of_mem _ (List.mem_append_right _ h)
  have fl_49 : (Cond.fieldLink RX7 49 (TX7 25).1 (TX7 25).2.1 (TX7 25).2.2.1).before args s = true := hts (.fieldLink RX7 49 "ClapOathsModel" "toldAt" "[I") (by decide +kernel)
  have fl_52 : (Cond.fieldLink RX7 52 (TX7 26).1 (TX7 26).2.1 (TX7 26).2.2.1).before args s = true := hts (.fieldLink RX7 52 "ClapOathsModel" "toldWool" "[I") (by decide +kernel)
  have fl_55 : (Cond.fieldLink RX7 55 (TX7 27).1 (TX7 27).2.1 (TX7 27).2.2.1).before args s = true := hts (.fieldLink RX7 55 "ClapOathsModel" "toldHeard" "[I") (by decide +kernel)
  have fl_208 : (Cond.fieldLink RX7 208 (TX7 24).1 (TX7 24).2.1 (TX7 24).2.2.1).before args s = true := hts (.fieldLink RX7 208 "ClapOathsModel" "told" "I") (by decide +kernel)
  unfold f_X7_which at hf
  refine lv_iload_n hx hb dX7_which_0 rfl (lv_at hl 1 rfl) ?_
  refine lv_i2l (v := (Int32.toInt64 v1)) hx hb dX7_which_1 rfl ?_
  refine lv_lconst (v := 0) hx hb dX7_which_2 (by decide) ?_
  refine lv_lconst (v := 1) hx hb dX7_which_3 (by decide) ?_
  obtain ⟨r_1, hr_1, hf⟩ := bnd hf
  refine q_callSZ hB hW (As := [.long (Int32.toInt64 v1), .long (0 : Int64), .long (1 : Int64)]) (rest := []) (ws' := [(a_p0, .inr (7, [.int p0_persons, .int p0_skies, .int p0_oaths, .ref a_p0_kind, .ref a_p0_skyAt, .ref a_p0_skyLoud, .ref a_p0_one, .ref a_p0_other, .ref a_p0_worth, .ref a_p0_hangs, .ref a_p0_now, .ref a_p0_readPerson, .ref a_p0_readSky, .ref a_p0_readOath, .int p0_readPersons, .int p0_readSkies, .int p0_readOaths, .ref a_p0_text, .int p0_length, .int p0_at, .int p0_faultAt, .int p0_acts, .int p0_next, .ref a_p0_row, .int p0_told, .ref a_p0_toldAt, .ref a_p0_toldWool, .ref a_p0_toldHeard, .long p0_seed, .ref a_p0_isKept, .ref a_p0_kept])), (a_p0_toldAt, .inl (cI, 6, .inl p0_toldAt)), (a_p0_toldWool, .inl (cI, 6, .inl p0_toldWool)), (a_p0_toldHeard, .inl (cI, 6, .inl p0_toldHeard))]) (c_X7_in l D cI cZ (Int32.toInt64 v1) (0 : Int64) (1 : Int64) r_1 hr_1) (va_cwS 3 hts gX7_which_X7_in rfl rfl rfl (by decide +kernel) ⟨Nat.le_of_ble_eq_true rfl, Nat.le_of_ble_eq_true rfl⟩) [] rfl rfl rfl rfl rfl hl.1 rfl (Nat.le_of_ble_eq_true rfl) ⟨Nat.le_of_ble_eq_true rfl, Nat.le_of_ble_eq_true rfl⟩ dX7_which_4 (fun hzr_1 H locs hW => ?_)
  refine lv_if_ne (tgt := 13) hx hb dX7_which_7 (by decide) (fun c_2 => ?_) (fun c_2 => ?_)
  · have hf := it_f c_2 hf
    refine lv_iconst (v := 0) hx hb dX7_which_13 (by decide) ?_
    refine lv_istore_n (lv' := [(2, .int (0 : Int32)), (0, .ref a_p0), (1, .int v1)]) hx hb dX7_which_14 rfl hl (by decide) rfl (fun ls hl => ?_)
    refine lv_bipush (v := -9) hx hb dX7_which_15 (by decide) ?_
    refine lv_istore_n (lv' := [(3, .int (-9 : Int32)), (2, .int (0 : Int32)), (0, .ref a_p0), (1, .int v1)]) hx hb dX7_which_17 rfl hl (by decide) rfl (fun ls hl => ?_)
    refine lv_iconst (v := 0) hx hb dX7_which_18 (by decide) ?_
    refine lv_istore (lv' := [(4, .int (0 : Int32)), (3, .int (-9 : Int32)), (2, .int (0 : Int32)), (0, .ref a_p0), (1, .int v1)]) hx hb dX7_which_19 hl (by decide) rfl (fun ls hl => ?_)
    obtain ⟨e_21, hl_21, hk_21⟩ := bnd hf
    have K_21 : ∀ x_21 : Int32 × Int32, x_21 = e_21 → ∀ (H : Heap) (locs : List Loc) (ls : Array Slot), Wl D A s.heap [(a_p0, .inr (7, [.int p0_persons, .int p0_skies, .int p0_oaths, .ref a_p0_kind, .ref a_p0_skyAt, .ref a_p0_skyLoud, .ref a_p0_one, .ref a_p0_other, .ref a_p0_worth, .ref a_p0_hangs, .ref a_p0_now, .ref a_p0_readPerson, .ref a_p0_readSky, .ref a_p0_readOath, .int p0_readPersons, .int p0_readSkies, .int p0_readOaths, .ref a_p0_text, .int p0_length, .int p0_at, .int p0_faultAt, .int p0_acts, .int p0_next, .ref a_p0_row, .int p0_told, .ref a_p0_toldAt, .ref a_p0_toldWool, .ref a_p0_toldHeard, .long p0_seed, .ref a_p0_isKept, .ref a_p0_kept])), (a_p0_toldAt, .inl (cI, 6, .inl p0_toldAt)), (a_p0_toldWool, .inl (cI, 6, .inl p0_toldWool)), (a_p0_toldHeard, .inl (cI, 6, .inl p0_toldHeard))] H locs → lv_has ls 8 [(1, .int v1), (2, .int x_21.1), (3, .int x_21.2)] → W p l e (Rm 1 25) s m args below meth c H locs 0 0 Q (F0 m 168 ls []) := by
      intro x_21 hx_21 H locs ls hW hl
      have hf := hk_21
      rw [← hx_21] at hf
      refine lv_iload_n hx hb dX7_which_168 rfl (lv_at hl 0 rfl) ?_
      refine lv_if_ne (tgt := 176) hx hb dX7_which_169 (by decide) (fun c_3 => ?_) (fun c_3 => ?_)
      · have hf := it_f c_3 hf
        refine lv_iload_n hx hb dX7_which_176 rfl (lv_at hl 2 rfl) ?_
        exact hE _ _ _ _ _ x_21.2 (sm hf) hW rfl dX7_which_177
      · have hf := it_t c_3 hf
        refine lv_iload_n hx hb dX7_which_172 rfl (lv_at hl 1 rfl) ?_
        refine lv_goto (tgt := 177) hx hb dX7_which_173 (by decide) ?_
        exact hE _ _ _ _ _ x_21.1 (sm hf) hW rfl dX7_which_177
    have L_21 : ∀ (n : Nat) (y21_2 : Int32) (y21_3 : Int32) (y21_4 : Int32) (H : Heap) (locs : List Loc) (ls : Array Slot), itr (fun s => b_X7_which_21 v1 p0_told p0_toldAt p0_toldWool p0_toldHeard s.1 s.2.1 s.2.2) n (y21_2, y21_3, y21_4) = some e_21 → Wl D A s.heap [(a_p0, .inr (7, [.int p0_persons, .int p0_skies, .int p0_oaths, .ref a_p0_kind, .ref a_p0_skyAt, .ref a_p0_skyLoud, .ref a_p0_one, .ref a_p0_other, .ref a_p0_worth, .ref a_p0_hangs, .ref a_p0_now, .ref a_p0_readPerson, .ref a_p0_readSky, .ref a_p0_readOath, .int p0_readPersons, .int p0_readSkies, .int p0_readOaths, .ref a_p0_text, .int p0_length, .int p0_at, .int p0_faultAt, .int p0_acts, .int p0_next, .ref a_p0_row, .int p0_told, .ref a_p0_toldAt, .ref a_p0_toldWool, .ref a_p0_toldHeard, .long p0_seed, .ref a_p0_isKept, .ref a_p0_kept])), (a_p0_toldAt, .inl (cI, 6, .inl p0_toldAt)), (a_p0_toldWool, .inl (cI, 6, .inl p0_toldWool)), (a_p0_toldHeard, .inl (cI, 6, .inl p0_toldHeard))] H locs → lv_has ls 8 [(0, .ref a_p0), (1, .int v1), (2, .int y21_2), (3, .int y21_3), (4, .int y21_4)] → W p l e (Rm 1 25) s m args below meth c H locs 0 0 Q (F0 m 21 ls []) := by
      intro n
      induction n with
      | zero => intro y21_2 y21_3 y21_4 H locs ls h9; exact itr_0 h9
      | succ n ih =>
        intro y21_2 y21_3 y21_4 H locs ls hf hW hl
        obtain ⟨o_21, hf, ho_21⟩ := itr_inv hf
        have hf : b_X7_which_21 v1 p0_told p0_toldAt p0_toldWool p0_toldHeard y21_2 y21_3 y21_4 = some o_21 := hf
        unfold b_X7_which_21 at hf
        refine lv_iload hx hb dX7_which_21 (lv_at hl 4 rfl) ?_
        refine lv_bipush (v := 100) hx hb dX7_which_23 (by decide) ?_
        refine lv_icmp_ge (tgt := 168) hx hb dX7_which_25 (by decide) (fun c_4 => ?_) (fun c_4 => ?_)
        · have hf := it_t c_4 hf
          have h9 := o_inr hf ho_21
          exact K_21 (y21_2, y21_3) h9 _ _ _ hW (lv_sub hl [1, 2, 3] rfl)
        · have hf := it_f c_4 hf
          refine lv_iconst (v := 1) hx hb dX7_which_28 (by decide) ?_
          refine lv_istore (lv' := [(5, .int (1 : Int32)), (0, .ref a_p0), (1, .int v1), (2, .int y21_2), (3, .int y21_3), (4, .int y21_4)]) hx hb dX7_which_29 hl (by decide) rfl (fun ls hl => ?_)
          refine lv_iconst (v := 0) hx hb dX7_which_31 (by decide) ?_
          refine lv_istore (lv' := [(6, .int (0 : Int32)), (5, .int (1 : Int32)), (0, .ref a_p0), (1, .int v1), (2, .int y21_2), (3, .int y21_3), (4, .int y21_4)]) hx hb dX7_which_32 hl (by decide) rfl (fun ls hl => ?_)
          obtain ⟨e_34, hl_34, hk_34⟩ := bnd hf
          have K_34 : ∀ x_34 : Int32, x_34 = e_34 → ∀ (H : Heap) (locs : List Loc) (ls : Array Slot), Wl D A s.heap [(a_p0, .inr (7, [.int p0_persons, .int p0_skies, .int p0_oaths, .ref a_p0_kind, .ref a_p0_skyAt, .ref a_p0_skyLoud, .ref a_p0_one, .ref a_p0_other, .ref a_p0_worth, .ref a_p0_hangs, .ref a_p0_now, .ref a_p0_readPerson, .ref a_p0_readSky, .ref a_p0_readOath, .int p0_readPersons, .int p0_readSkies, .int p0_readOaths, .ref a_p0_text, .int p0_length, .int p0_at, .int p0_faultAt, .int p0_acts, .int p0_next, .ref a_p0_row, .int p0_told, .ref a_p0_toldAt, .ref a_p0_toldWool, .ref a_p0_toldHeard, .long p0_seed, .ref a_p0_isKept, .ref a_p0_kept])), (a_p0_toldAt, .inl (cI, 6, .inl p0_toldAt)), (a_p0_toldWool, .inl (cI, 6, .inl p0_toldWool)), (a_p0_toldHeard, .inl (cI, 6, .inl p0_toldHeard))] H locs → lv_has ls 8 [(0, .ref a_p0), (1, .int v1), (2, .int y21_2), (3, .int y21_3), (4, .int y21_4), (5, .int x_34)] → W p l e (Rm 1 25) s m args below meth c H locs 0 0 Q (F0 m 133 ls []) := by
            intro x_34 hx_34 H locs ls hW hl
            have hf := hk_34
            rw [← hx_34] at hf
            refine lv_iload hx hb dX7_which_133 (lv_at hl 5 rfl) ?_
            refine lv_if_eq (tgt := 147) hx hb dX7_which_135 (by decide) (fun c_5 => ?_) (fun c_5 => ?_)
            · have hf := it_t c_5 hf
              refine lv_iload_n hx hb dX7_which_147 rfl (lv_at hl 3 rfl) ?_
              refine lv_istore_n (lv' := [(3, .int y21_3), (0, .ref a_p0), (1, .int v1), (2, .int y21_2), (4, .int y21_4), (5, .int x_34)]) hx hb dX7_which_148 rfl hl (by decide) rfl (fun ls hl => ?_)
              refine lv_iload_n hx hb dX7_which_149 rfl (lv_at hl 3 rfl) ?_
              refine lv_iload hx hb dX7_which_150 (lv_at hl 5 rfl) ?_
              refine lv_if_eq (tgt := 159) hx hb dX7_which_152 (by decide) (fun _ => ?_) (fun c9 => absurd c_5 c9)
              refine lv_iconst (v := 0) hx hb dX7_which_159 (by decide) ?_
              refine lv_iadd hx hb dX7_which_160 ?_
              obtain ⟨w_6, hw_6, hf⟩ := bnd hf
              refine q_nmI hw_6 ?_
              refine lv_istore_n (lv' := [(2, .int w_6), (3, .int y21_3), (0, .ref a_p0), (1, .int v1), (4, .int y21_4), (5, .int x_34)]) hx hb dX7_which_161 rfl hl (by decide) rfl (fun ls hl => ?_)
              refine lv_iinc (v := (y21_4 + (1 : Int32))) (lv' := [(4, .int (y21_4 + (1 : Int32))), (2, .int w_6), (3, .int y21_3), (0, .ref a_p0), (1, .int v1), (5, .int x_34)]) hx hb dX7_which_162 hl (k := 4) rfl rfl (by decide) rfl (fun ls hl => ?_)
              refine lv_goto (tgt := 21) hx hb dX7_which_165 (by decide) ?_
              have h9 := o_inl hf ho_21
              exact ih w_6 y21_3 (y21_4 + (1 : Int32)) _ _ _ h9 hW (lv_sub hl [3, 4, 1, 2, 0] rfl)
            · have hf := it_f c_5 hf
              refine lv_iload_n hx hb dX7_which_138 rfl (lv_at hl 2 rfl) ?_
              refine lv_if_ne (tgt := 147) hx hb dX7_which_139 (by decide) (fun c_7 => ?_) (fun c_7 => ?_)
              · have hf := it_f c_7 hf
                refine lv_iload_n hx hb dX7_which_147 rfl (lv_at hl 3 rfl) ?_
                refine lv_istore_n (lv' := [(3, .int y21_3), (0, .ref a_p0), (1, .int v1), (2, .int y21_2), (4, .int y21_4), (5, .int x_34)]) hx hb dX7_which_148 rfl hl (by decide) rfl (fun ls hl => ?_)
                refine lv_iload_n hx hb dX7_which_149 rfl (lv_at hl 3 rfl) ?_
                refine lv_iload hx hb dX7_which_150 (lv_at hl 5 rfl) ?_
                refine lv_if_eq (tgt := 159) hx hb dX7_which_152 (by decide) (fun c9 => absurd c9 c_5) (fun _ => ?_)
                refine lv_iconst (v := 1) hx hb dX7_which_155 (by decide) ?_
                refine lv_goto (tgt := 160) hx hb dX7_which_156 (by decide) ?_
                refine lv_iadd hx hb dX7_which_160 ?_
                obtain ⟨w_8, hw_8, hf⟩ := bnd hf
                refine q_nmI hw_8 ?_
                refine lv_istore_n (lv' := [(2, .int w_8), (3, .int y21_3), (0, .ref a_p0), (1, .int v1), (4, .int y21_4), (5, .int x_34)]) hx hb dX7_which_161 rfl hl (by decide) rfl (fun ls hl => ?_)
                refine lv_iinc (v := (y21_4 + (1 : Int32))) (lv' := [(4, .int (y21_4 + (1 : Int32))), (2, .int w_8), (3, .int y21_3), (0, .ref a_p0), (1, .int v1), (5, .int x_34)]) hx hb dX7_which_162 hl (k := 4) rfl rfl (by decide) rfl (fun ls hl => ?_)
                refine lv_goto (tgt := 21) hx hb dX7_which_165 (by decide) ?_
                have h9 := o_inl hf ho_21
                exact ih w_8 y21_3 (y21_4 + (1 : Int32)) _ _ _ h9 hW (lv_sub hl [3, 4, 1, 2, 0] rfl)
              · have hf := it_t c_7 hf
                refine lv_iload hx hb dX7_which_142 (lv_at hl 4 rfl) ?_
                refine lv_goto (tgt := 148) hx hb dX7_which_144 (by decide) ?_
                refine lv_istore_n (lv' := [(3, .int y21_4), (0, .ref a_p0), (1, .int v1), (2, .int y21_2), (4, .int y21_4), (5, .int x_34)]) hx hb dX7_which_148 rfl hl (by decide) rfl (fun ls hl => ?_)
                refine lv_iload_n hx hb dX7_which_149 rfl (lv_at hl 3 rfl) ?_
                refine lv_iload hx hb dX7_which_150 (lv_at hl 5 rfl) ?_
                refine lv_if_eq (tgt := 159) hx hb dX7_which_152 (by decide) (fun c9 => absurd c9 c_5) (fun _ => ?_)
                refine lv_iconst (v := 1) hx hb dX7_which_155 (by decide) ?_
                refine lv_goto (tgt := 160) hx hb dX7_which_156 (by decide) ?_
                refine lv_iadd hx hb dX7_which_160 ?_
                obtain ⟨w_9, hw_9, hf⟩ := bnd hf
                refine q_nmI hw_9 ?_
                refine lv_istore_n (lv' := [(2, .int w_9), (3, .int y21_4), (0, .ref a_p0), (1, .int v1), (4, .int y21_4), (5, .int x_34)]) hx hb dX7_which_161 rfl hl (by decide) rfl (fun ls hl => ?_)
                refine lv_iinc (v := (y21_4 + (1 : Int32))) (lv' := [(4, .int (y21_4 + (1 : Int32))), (2, .int w_9), (3, .int y21_4), (0, .ref a_p0), (1, .int v1), (5, .int x_34)]) hx hb dX7_which_162 hl (k := 4) rfl rfl (by decide) rfl (fun ls hl => ?_)
                refine lv_goto (tgt := 21) hx hb dX7_which_165 (by decide) ?_
                have h9 := o_inl hf ho_21
                exact ih w_9 y21_4 (y21_4 + (1 : Int32)) _ _ _ h9 hW (lv_sub hl [3, 4, 1, 2, 0] rfl)
          have L_34 : ∀ (n : Nat) (y34_5 : Int32) (y34_6 : Int32) (H : Heap) (locs : List Loc) (ls : Array Slot), itr (fun s => b_X7_which_34 v1 y21_2 y21_3 y21_4 p0_told p0_toldAt p0_toldWool p0_toldHeard s.1 s.2) n (y34_5, y34_6) = some e_34 → Wl D A s.heap [(a_p0, .inr (7, [.int p0_persons, .int p0_skies, .int p0_oaths, .ref a_p0_kind, .ref a_p0_skyAt, .ref a_p0_skyLoud, .ref a_p0_one, .ref a_p0_other, .ref a_p0_worth, .ref a_p0_hangs, .ref a_p0_now, .ref a_p0_readPerson, .ref a_p0_readSky, .ref a_p0_readOath, .int p0_readPersons, .int p0_readSkies, .int p0_readOaths, .ref a_p0_text, .int p0_length, .int p0_at, .int p0_faultAt, .int p0_acts, .int p0_next, .ref a_p0_row, .int p0_told, .ref a_p0_toldAt, .ref a_p0_toldWool, .ref a_p0_toldHeard, .long p0_seed, .ref a_p0_isKept, .ref a_p0_kept])), (a_p0_toldAt, .inl (cI, 6, .inl p0_toldAt)), (a_p0_toldWool, .inl (cI, 6, .inl p0_toldWool)), (a_p0_toldHeard, .inl (cI, 6, .inl p0_toldHeard))] H locs → lv_has ls 8 [(0, .ref a_p0), (1, .int v1), (2, .int y21_2), (3, .int y21_3), (4, .int y21_4), (5, .int y34_5), (6, .int y34_6)] → W p l e (Rm 1 25) s m args below meth c H locs 0 0 Q (F0 m 34 ls []) := by
            intro n
            induction n with
            | zero => intro y34_5 y34_6 H locs ls h9; exact itr_0 h9
            | succ n ih =>
              intro y34_5 y34_6 H locs ls hf hW hl
              obtain ⟨o_34, hf, ho_34⟩ := itr_inv hf
              have hf : b_X7_which_34 v1 y21_2 y21_3 y21_4 p0_told p0_toldAt p0_toldWool p0_toldHeard y34_5 y34_6 = some o_34 := hf
              unfold b_X7_which_34 at hf
              refine lv_iload hx hb dX7_which_34 (lv_at hl 6 rfl) ?_
              refine lv_aload_n hx hb dX7_which_36 rfl (lv_at hl 0 rfl) ?_
              refine q_get hB hW 7 in_X7 0 rfl rfl 24 (by decide) fl_208 (v := .int p0_told) rfl dX7_which_37 ?_
              refine lv_icmp_ge (tgt := 133) hx hb dX7_which_40 (by decide) (fun c_10 => ?_) (fun c_10 => ?_)
              · have hf := it_t c_10 hf
                have h9 := o_inr hf ho_34
                exact K_34 y34_5 h9 _ _ _ hW (lv_sub hl [0, 1, 2, 3, 4, 5] rfl)
              · have hf := it_f c_10 hf
                refine lv_aload_n hx hb dX7_which_43 rfl (lv_at hl 0 rfl) ?_
                refine q_get hB hW 7 in_X7 0 rfl rfl 26 (by decide) fl_52 (v := .ref a_p0_toldWool) rfl dX7_which_44 ?_
                refine lv_iload hx hb dX7_which_47 (lv_at hl 6 rfl) ?_
                obtain ⟨r_11, hr_11, hf⟩ := bnd hf
                refine q_iald hB hW 2 rfl hr_11 dX7_which_49 ?_
                refine lv_iconst (v := 1) hx hb dX7_which_50 (by decide) ?_
                refine lv_icmp_ne (tgt := 64) hx hb dX7_which_51 (by decide) (fun c_12 => ?_) (fun c_12 => ?_)
                · have hf := it_f c_12 hf
                  refine lv_iload hx hb dX7_which_64 (lv_at hl 4 rfl) ?_
                  refine lv_bipush (v := 10) hx hb dX7_which_66 (by decide) ?_
                  refine lv_irem hx hb dX7_which_68 (by decide) ?_
                  obtain ⟨w_13, hw_13, hf⟩ := bnd hf
                  refine q_nmI hw_13 ?_
                  refine lv_istore (lv' := [(7, .int w_13), (0, .ref a_p0), (1, .int v1), (2, .int y21_2), (3, .int y21_3), (4, .int y21_4), (5, .int y34_5), (6, .int y34_6)]) hx hb dX7_which_69 hl (by decide) rfl (fun ls hl => ?_)
                  refine lv_iload hx hb dX7_which_71 (lv_at hl 6 rfl) ?_
                  refine lv_if_eq (tgt := 124) hx hb dX7_which_73 (by decide) (fun c_14 => ?_) (fun c_14 => ?_)
                  · have hf := it_t c_14 hf
                    refine lv_iconst (v := 0) hx hb dX7_which_124 (by decide) ?_
                    refine lv_istore (lv' := [(5, .int (0 : Int32)), (7, .int w_13), (0, .ref a_p0), (1, .int v1), (2, .int y21_2), (3, .int y21_3), (4, .int y21_4), (6, .int y34_6)]) hx hb dX7_which_125 hl (by decide) rfl (fun ls hl => ?_)
                    refine lv_iinc (v := (y34_6 + (1 : Int32))) (lv' := [(6, .int (y34_6 + (1 : Int32))), (5, .int (0 : Int32)), (7, .int w_13), (0, .ref a_p0), (1, .int v1), (2, .int y21_2), (3, .int y21_3), (4, .int y21_4)]) hx hb dX7_which_127 hl (k := 7) rfl rfl (by decide) rfl (fun ls hl => ?_)
                    refine lv_goto (tgt := 34) hx hb dX7_which_130 (by decide) ?_
                    have h9 := o_inl hf ho_34
                    exact ih (0 : Int32) (y34_6 + (1 : Int32)) _ _ _ h9 hW (lv_sub hl [3, 4, 5, 6, 7, 1, 0] rfl)
                  · have hf := it_f c_14 hf
                    refine lv_aload_n hx hb dX7_which_76 rfl (lv_at hl 1 rfl) ?_
                    refine q_get hB hW 7 in_X7 0 rfl rfl 25 (by decide) fl_49 (v := .ref a_p0_toldAt) rfl dX7_which_77 ?_
                    refine lv_iload hx hb dX7_which_80 (lv_at hl 7 rfl) ?_
                    obtain ⟨r_15, hr_15, hf⟩ := bnd hf
                    refine q_iald hB hW 1 rfl hr_15 dX7_which_82 ?_
                    refine lv_iload hx hb dX7_which_83 (lv_at hl 5 rfl) ?_
                    refine lv_bipush (v := 10) hx hb dX7_which_85 (by decide) ?_
                    refine lv_idiv hx hb dX7_which_87 (by decide) ?_
                    obtain ⟨r_16, hr_16, hf⟩ := bnd hf
                    refine q_callSI hB hW (As := [.int r_15, .int (y21_4 / (10 : Int32))]) (rest := []) (ws' := [(a_p0, .inr (7, [.int p0_persons, .int p0_skies, .int p0_oaths, .ref a_p0_kind, .ref a_p0_skyAt, .ref a_p0_skyLoud, .ref a_p0_one, .ref a_p0_other, .ref a_p0_worth, .ref a_p0_hangs, .ref a_p0_now, .ref a_p0_readPerson, .ref a_p0_readSky, .ref a_p0_readOath, .int p0_readPersons, .int p0_readSkies, .int p0_readOaths, .ref a_p0_text, .int p0_length, .int p0_at, .int p0_faultAt, .int p0_acts, .int p0_next, .ref a_p0_row, .int p0_told, .ref a_p0_toldAt, .ref a_p0_toldWool, .ref a_p0_toldHeard, .long p0_seed, .ref a_p0_isKept, .ref a_p0_kept])), (a_p0_toldAt, .inl (cI, 6, .inl p0_toldAt)), (a_p0_toldWool, .inl (cI, 6, .inl p0_toldWool)), (a_p0_toldHeard, .inl (cI, 6, .inl p0_toldHeard))]) (c_X7_far l D cI cZ r_15 (y21_4 / (10 : Int32)) r_16 hr_16) (va_cwS 2 hts gX7_which_X7_far rfl rfl rfl (by decide +kernel) ⟨Nat.le_of_ble_eq_true rfl, Nat.le_of_ble_eq_true rfl⟩) [] rfl rfl rfl rfl rfl hl.1 rfl (Nat.le_of_ble_eq_true rfl) ⟨Nat.le_of_ble_eq_true rfl, Nat.le_of_ble_eq_true rfl⟩ dX7_which_88 (fun H locs hW => ?_)
                    refine lv_iload hx hb dX7_which_91 (lv_at hl 0 rfl) ?_
                    refine lv_icmp_gt (tgt := 100) hx hb dX7_which_93 (by decide) (fun c_17 => ?_) (fun c_17 => ?_)
                    · have hf := it_t c_17 hf
                      refine lv_iconst (v := 0) hx hb dX7_which_100 (by decide) ?_
                      refine lv_aload_n hx hb dX7_which_101 rfl (lv_at hl 1 rfl) ?_
                      refine q_get hB hW 7 in_X7 0 rfl rfl 27 (by decide) fl_55 (v := .ref a_p0_toldHeard) rfl dX7_which_102 ?_
                      refine lv_iload hx hb dX7_which_105 (lv_at hl 7 rfl) ?_
                      obtain ⟨r_18, hr_18, hf⟩ := bnd hf
                      refine q_iald hB hW 3 rfl hr_18 dX7_which_107 ?_
                      refine lv_iconst (v := 1) hx hb dX7_which_108 (by decide) ?_
                      refine lv_icmp_ne (tgt := 116) hx hb dX7_which_109 (by decide) (fun c_19 => ?_) (fun c_19 => ?_)
                      · have hf := it_f c_19 hf
                        refine lv_iconst (v := 0) hx hb dX7_which_116 (by decide) ?_
                        refine lv_icmp_ne (tgt := 124) hx hb dX7_which_117 (by decide) (fun c9 => absurd c9 (by decide)) (fun _ => ?_)
                        refine lv_iconst (v := 1) hx hb dX7_which_120 (by decide) ?_
                        refine lv_goto (tgt := 125) hx hb dX7_which_121 (by decide) ?_
                        refine lv_istore (lv' := [(5, .int (1 : Int32)), (7, .int w_13), (0, .ref a_p0), (1, .int v1), (2, .int y21_2), (3, .int y21_3), (4, .int y21_4), (6, .int y34_6)]) hx hb dX7_which_125 hl (by decide) rfl (fun ls hl => ?_)
                        refine lv_iinc (v := (y34_6 + (1 : Int32))) (lv' := [(6, .int (y34_6 + (1 : Int32))), (5, .int (1 : Int32)), (7, .int w_13), (0, .ref a_p0), (1, .int v1), (2, .int y21_2), (3, .int y21_3), (4, .int y21_4)]) hx hb dX7_which_127 hl (k := 7) rfl rfl (by decide) rfl (fun ls hl => ?_)
                        refine lv_goto (tgt := 34) hx hb dX7_which_130 (by decide) ?_
                        have h9 := o_inl hf ho_34
                        exact ih (1 : Int32) (y34_6 + (1 : Int32)) _ _ _ h9 hW (lv_sub hl [3, 4, 5, 6, 7, 1, 0] rfl)
                      · have hf := it_t c_19 hf
                        refine lv_iconst (v := 1) hx hb dX7_which_112 (by decide) ?_
                        refine lv_goto (tgt := 117) hx hb dX7_which_113 (by decide) ?_
                        refine lv_icmp_ne (tgt := 124) hx hb dX7_which_117 (by decide) (fun _ => ?_) (fun c9 => absurd c9 (by decide))
                        refine lv_iconst (v := 0) hx hb dX7_which_124 (by decide) ?_
                        refine lv_istore (lv' := [(5, .int (0 : Int32)), (7, .int w_13), (0, .ref a_p0), (1, .int v1), (2, .int y21_2), (3, .int y21_3), (4, .int y21_4), (6, .int y34_6)]) hx hb dX7_which_125 hl (by decide) rfl (fun ls hl => ?_)
                        refine lv_iinc (v := (y34_6 + (1 : Int32))) (lv' := [(6, .int (y34_6 + (1 : Int32))), (5, .int (0 : Int32)), (7, .int w_13), (0, .ref a_p0), (1, .int v1), (2, .int y21_2), (3, .int y21_3), (4, .int y21_4)]) hx hb dX7_which_127 hl (k := 7) rfl rfl (by decide) rfl (fun ls hl => ?_)
                        refine lv_goto (tgt := 34) hx hb dX7_which_130 (by decide) ?_
                        have h9 := o_inl hf ho_34
                        exact ih (0 : Int32) (y34_6 + (1 : Int32)) _ _ _ h9 hW (lv_sub hl [3, 4, 5, 6, 7, 1, 0] rfl)
                    · have hf := it_f c_17 hf
                      refine lv_iconst (v := 1) hx hb dX7_which_96 (by decide) ?_
                      refine lv_goto (tgt := 101) hx hb dX7_which_97 (by decide) ?_
                      refine lv_aload_n hx hb dX7_which_101 rfl (lv_at hl 1 rfl) ?_
                      refine q_get hB hW 7 in_X7 0 rfl rfl 27 (by decide) fl_55 (v := .ref a_p0_toldHeard) rfl dX7_which_102 ?_
                      refine lv_iload hx hb dX7_which_105 (lv_at hl 7 rfl) ?_
                      obtain ⟨r_20, hr_20, hf⟩ := bnd hf
                      refine q_iald hB hW 3 rfl hr_20 dX7_which_107 ?_
                      refine lv_iconst (v := 1) hx hb dX7_which_108 (by decide) ?_
                      refine lv_icmp_ne (tgt := 116) hx hb dX7_which_109 (by decide) (fun c_21 => ?_) (fun c_21 => ?_)
                      · have hf := it_f c_21 hf
                        refine lv_iconst (v := 0) hx hb dX7_which_116 (by decide) ?_
                        refine lv_icmp_ne (tgt := 124) hx hb dX7_which_117 (by decide) (fun _ => ?_) (fun c9 => absurd c9 (by decide))
                        refine lv_iconst (v := 0) hx hb dX7_which_124 (by decide) ?_
                        refine lv_istore (lv' := [(5, .int (0 : Int32)), (7, .int w_13), (0, .ref a_p0), (1, .int v1), (2, .int y21_2), (3, .int y21_3), (4, .int y21_4), (6, .int y34_6)]) hx hb dX7_which_125 hl (by decide) rfl (fun ls hl => ?_)
                        refine lv_iinc (v := (y34_6 + (1 : Int32))) (lv' := [(6, .int (y34_6 + (1 : Int32))), (5, .int (0 : Int32)), (7, .int w_13), (0, .ref a_p0), (1, .int v1), (2, .int y21_2), (3, .int y21_3), (4, .int y21_4)]) hx hb dX7_which_127 hl (k := 7) rfl rfl (by decide) rfl (fun ls hl => ?_)
                        refine lv_goto (tgt := 34) hx hb dX7_which_130 (by decide) ?_
                        have h9 := o_inl hf ho_34
                        exact ih (0 : Int32) (y34_6 + (1 : Int32)) _ _ _ h9 hW (lv_sub hl [3, 4, 5, 6, 7, 1, 0] rfl)
                      · have hf := it_t c_21 hf
                        refine lv_iconst (v := 1) hx hb dX7_which_112 (by decide) ?_
                        refine lv_goto (tgt := 117) hx hb dX7_which_113 (by decide) ?_
                        refine lv_icmp_ne (tgt := 124) hx hb dX7_which_117 (by decide) (fun c9 => absurd c9 (by decide)) (fun _ => ?_)
                        refine lv_iconst (v := 1) hx hb dX7_which_120 (by decide) ?_
                        refine lv_goto (tgt := 125) hx hb dX7_which_121 (by decide) ?_
                        refine lv_istore (lv' := [(5, .int (1 : Int32)), (7, .int w_13), (0, .ref a_p0), (1, .int v1), (2, .int y21_2), (3, .int y21_3), (4, .int y21_4), (6, .int y34_6)]) hx hb dX7_which_125 hl (by decide) rfl (fun ls hl => ?_)
                        refine lv_iinc (v := (y34_6 + (1 : Int32))) (lv' := [(6, .int (y34_6 + (1 : Int32))), (5, .int (1 : Int32)), (7, .int w_13), (0, .ref a_p0), (1, .int v1), (2, .int y21_2), (3, .int y21_3), (4, .int y21_4)]) hx hb dX7_which_127 hl (k := 7) rfl rfl (by decide) rfl (fun ls hl => ?_)
                        refine lv_goto (tgt := 34) hx hb dX7_which_130 (by decide) ?_
                        have h9 := o_inl hf ho_34
                        exact ih (1 : Int32) (y34_6 + (1 : Int32)) _ _ _ h9 hW (lv_sub hl [3, 4, 5, 6, 7, 1, 0] rfl)
                · have hf := it_t c_12 hf
                  refine lv_iload hx hb dX7_which_54 (lv_at hl 4 rfl) ?_
                  refine lv_bipush (v := 10) hx hb dX7_which_56 (by decide) ?_
                  refine lv_irem hx hb dX7_which_58 (by decide) ?_
                  refine lv_iconst (v := 2) hx hb dX7_which_59 (by decide) ?_
                  refine lv_idiv hx hb dX7_which_60 (by decide) ?_
                  refine lv_goto (tgt := 69) hx hb dX7_which_61 (by decide) ?_
                  obtain ⟨w_22, hw_22, hf⟩ := bnd hf
                  refine q_nmI hw_22 ?_
                  refine lv_istore (lv' := [(7, .int w_22), (0, .ref a_p0), (1, .int v1), (2, .int y21_2), (3, .int y21_3), (4, .int y21_4), (5, .int y34_5), (6, .int y34_6)]) hx hb dX7_which_69 hl (by decide) rfl (fun ls hl => ?_)
                  refine lv_iload hx hb dX7_which_71 (lv_at hl 6 rfl) ?_
                  refine lv_if_eq (tgt := 124) hx hb dX7_which_73 (by decide) (fun c_23 => ?_) (fun c_23 => ?_)
                  · have hf := it_t c_23 hf
                    refine lv_iconst (v := 0) hx hb dX7_which_124 (by decide) ?_
                    refine lv_istore (lv' := [(5, .int (0 : Int32)), (7, .int w_22), (0, .ref a_p0), (1, .int v1), (2, .int y21_2), (3, .int y21_3), (4, .int y21_4), (6, .int y34_6)]) hx hb dX7_which_125 hl (by decide) rfl (fun ls hl => ?_)
                    refine lv_iinc (v := (y34_6 + (1 : Int32))) (lv' := [(6, .int (y34_6 + (1 : Int32))), (5, .int (0 : Int32)), (7, .int w_22), (0, .ref a_p0), (1, .int v1), (2, .int y21_2), (3, .int y21_3), (4, .int y21_4)]) hx hb dX7_which_127 hl (k := 7) rfl rfl (by decide) rfl (fun ls hl => ?_)
                    refine lv_goto (tgt := 34) hx hb dX7_which_130 (by decide) ?_
                    have h9 := o_inl hf ho_34
                    exact ih (0 : Int32) (y34_6 + (1 : Int32)) _ _ _ h9 hW (lv_sub hl [3, 4, 5, 6, 7, 1, 0] rfl)
                  · have hf := it_f c_23 hf
                    refine lv_aload_n hx hb dX7_which_76 rfl (lv_at hl 1 rfl) ?_
                    refine q_get hB hW 7 in_X7 0 rfl rfl 25 (by decide) fl_49 (v := .ref a_p0_toldAt) rfl dX7_which_77 ?_
                    refine lv_iload hx hb dX7_which_80 (lv_at hl 7 rfl) ?_
                    obtain ⟨r_24, hr_24, hf⟩ := bnd hf
                    refine q_iald hB hW 1 rfl hr_24 dX7_which_82 ?_
                    refine lv_iload hx hb dX7_which_83 (lv_at hl 5 rfl) ?_
                    refine lv_bipush (v := 10) hx hb dX7_which_85 (by decide) ?_
                    refine lv_idiv hx hb dX7_which_87 (by decide) ?_
                    obtain ⟨r_25, hr_25, hf⟩ := bnd hf
                    refine q_callSI hB hW (As := [.int r_24, .int (y21_4 / (10 : Int32))]) (rest := []) (ws' := [(a_p0, .inr (7, [.int p0_persons, .int p0_skies, .int p0_oaths, .ref a_p0_kind, .ref a_p0_skyAt, .ref a_p0_skyLoud, .ref a_p0_one, .ref a_p0_other, .ref a_p0_worth, .ref a_p0_hangs, .ref a_p0_now, .ref a_p0_readPerson, .ref a_p0_readSky, .ref a_p0_readOath, .int p0_readPersons, .int p0_readSkies, .int p0_readOaths, .ref a_p0_text, .int p0_length, .int p0_at, .int p0_faultAt, .int p0_acts, .int p0_next, .ref a_p0_row, .int p0_told, .ref a_p0_toldAt, .ref a_p0_toldWool, .ref a_p0_toldHeard, .long p0_seed, .ref a_p0_isKept, .ref a_p0_kept])), (a_p0_toldAt, .inl (cI, 6, .inl p0_toldAt)), (a_p0_toldWool, .inl (cI, 6, .inl p0_toldWool)), (a_p0_toldHeard, .inl (cI, 6, .inl p0_toldHeard))]) (c_X7_far l D cI cZ r_24 (y21_4 / (10 : Int32)) r_25 hr_25) (va_cwS 2 hts gX7_which_X7_far rfl rfl rfl (by decide +kernel) ⟨Nat.le_of_ble_eq_true rfl, Nat.le_of_ble_eq_true rfl⟩) [] rfl rfl rfl rfl rfl hl.1 rfl (Nat.le_of_ble_eq_true rfl) ⟨Nat.le_of_ble_eq_true rfl, Nat.le_of_ble_eq_true rfl⟩ dX7_which_88 (fun H locs hW => ?_)
                    refine lv_iload hx hb dX7_which_91 (lv_at hl 0 rfl) ?_
                    refine lv_icmp_gt (tgt := 100) hx hb dX7_which_93 (by decide) (fun c_26 => ?_) (fun c_26 => ?_)
                    · have hf := it_t c_26 hf
                      refine lv_iconst (v := 0) hx hb dX7_which_100 (by decide) ?_
                      refine lv_aload_n hx hb dX7_which_101 rfl (lv_at hl 1 rfl) ?_
                      refine q_get hB hW 7 in_X7 0 rfl rfl 27 (by decide) fl_55 (v := .ref a_p0_toldHeard) rfl dX7_which_102 ?_
                      refine lv_iload hx hb dX7_which_105 (lv_at hl 7 rfl) ?_
                      obtain ⟨r_27, hr_27, hf⟩ := bnd hf
                      refine q_iald hB hW 3 rfl hr_27 dX7_which_107 ?_
                      refine lv_iconst (v := 1) hx hb dX7_which_108 (by decide) ?_
                      refine lv_icmp_ne (tgt := 116) hx hb dX7_which_109 (by decide) (fun c_28 => ?_) (fun c_28 => ?_)
                      · have hf := it_f c_28 hf
                        refine lv_iconst (v := 0) hx hb dX7_which_116 (by decide) ?_
                        refine lv_icmp_ne (tgt := 124) hx hb dX7_which_117 (by decide) (fun c9 => absurd c9 (by decide)) (fun _ => ?_)
                        refine lv_iconst (v := 1) hx hb dX7_which_120 (by decide) ?_
                        refine lv_goto (tgt := 125) hx hb dX7_which_121 (by decide) ?_
                        refine lv_istore (lv' := [(5, .int (1 : Int32)), (7, .int w_22), (0, .ref a_p0), (1, .int v1), (2, .int y21_2), (3, .int y21_3), (4, .int y21_4), (6, .int y34_6)]) hx hb dX7_which_125 hl (by decide) rfl (fun ls hl => ?_)
                        refine lv_iinc (v := (y34_6 + (1 : Int32))) (lv' := [(6, .int (y34_6 + (1 : Int32))), (5, .int (1 : Int32)), (7, .int w_22), (0, .ref a_p0), (1, .int v1), (2, .int y21_2), (3, .int y21_3), (4, .int y21_4)]) hx hb dX7_which_127 hl (k := 7) rfl rfl (by decide) rfl (fun ls hl => ?_)
                        refine lv_goto (tgt := 34) hx hb dX7_which_130 (by decide) ?_
                        have h9 := o_inl hf ho_34
                        exact ih (1 : Int32) (y34_6 + (1 : Int32)) _ _ _ h9 hW (lv_sub hl [3, 4, 5, 6, 7, 1, 0] rfl)
                      · have hf := it_t c_28 hf
                        refine lv_iconst (v := 1) hx hb dX7_which_112 (by decide) ?_
                        refine lv_goto (tgt := 117) hx hb dX7_which_113 (by decide) ?_
                        refine lv_icmp_ne (tgt := 124) hx hb dX7_which_117 (by decide) (fun _ => ?_) (fun c9 => absurd c9 (by decide))
                        refine lv_iconst (v := 0) hx hb dX7_which_124 (by decide) ?_
                        refine lv_istore (lv' := [(5, .int (0 : Int32)), (7, .int w_22), (0, .ref a_p0), (1, .int v1), (2, .int y21_2), (3, .int y21_3), (4, .int y21_4), (6, .int y34_6)]) hx hb dX7_which_125 hl (by decide) rfl (fun ls hl => ?_)
                        refine lv_iinc (v := (y34_6 + (1 : Int32))) (lv' := [(6, .int (y34_6 + (1 : Int32))), (5, .int (0 : Int32)), (7, .int w_22), (0, .ref a_p0), (1, .int v1), (2, .int y21_2), (3, .int y21_3), (4, .int y21_4)]) hx hb dX7_which_127 hl (k := 7) rfl rfl (by decide) rfl (fun ls hl => ?_)
                        refine lv_goto (tgt := 34) hx hb dX7_which_130 (by decide) ?_
                        have h9 := o_inl hf ho_34
                        exact ih (0 : Int32) (y34_6 + (1 : Int32)) _ _ _ h9 hW (lv_sub hl [3, 4, 5, 6, 7, 1, 0] rfl)
                    · have hf := it_f c_26 hf
                      refine lv_iconst (v := 1) hx hb dX7_which_96 (by decide) ?_
                      refine lv_goto (tgt := 101) hx hb dX7_which_97 (by decide) ?_
                      refine lv_aload_n hx hb dX7_which_101 rfl (lv_at hl 1 rfl) ?_
                      refine q_get hB hW 7 in_X7 0 rfl rfl 27 (by decide) fl_55 (v := .ref a_p0_toldHeard) rfl dX7_which_102 ?_
                      refine lv_iload hx hb dX7_which_105 (lv_at hl 7 rfl) ?_
                      obtain ⟨r_29, hr_29, hf⟩ := bnd hf
                      refine q_iald hB hW 3 rfl hr_29 dX7_which_107 ?_
                      refine lv_iconst (v := 1) hx hb dX7_which_108 (by decide) ?_
                      refine lv_icmp_ne (tgt := 116) hx hb dX7_which_109 (by decide) (fun c_30 => ?_) (fun c_30 => ?_)
                      · have hf := it_f c_30 hf
                        refine lv_iconst (v := 0) hx hb dX7_which_116 (by decide) ?_
                        refine lv_icmp_ne (tgt := 124) hx hb dX7_which_117 (by decide) (fun _ => ?_) (fun c9 => absurd c9 (by decide))
                        refine lv_iconst (v := 0) hx hb dX7_which_124 (by decide) ?_
                        refine lv_istore (lv' := [(5, .int (0 : Int32)), (7, .int w_22), (0, .ref a_p0), (1, .int v1), (2, .int y21_2), (3, .int y21_3), (4, .int y21_4), (6, .int y34_6)]) hx hb dX7_which_125 hl (by decide) rfl (fun ls hl => ?_)
                        refine lv_iinc (v := (y34_6 + (1 : Int32))) (lv' := [(6, .int (y34_6 + (1 : Int32))), (5, .int (0 : Int32)), (7, .int w_22), (0, .ref a_p0), (1, .int v1), (2, .int y21_2), (3, .int y21_3), (4, .int y21_4)]) hx hb dX7_which_127 hl (k := 7) rfl rfl (by decide) rfl (fun ls hl => ?_)
                        refine lv_goto (tgt := 34) hx hb dX7_which_130 (by decide) ?_
                        have h9 := o_inl hf ho_34
                        exact ih (0 : Int32) (y34_6 + (1 : Int32)) _ _ _ h9 hW (lv_sub hl [3, 4, 5, 6, 7, 1, 0] rfl)
                      · have hf := it_t c_30 hf
                        refine lv_iconst (v := 1) hx hb dX7_which_112 (by decide) ?_
                        refine lv_goto (tgt := 117) hx hb dX7_which_113 (by decide) ?_
                        refine lv_icmp_ne (tgt := 124) hx hb dX7_which_117 (by decide) (fun c9 => absurd c9 (by decide)) (fun _ => ?_)
                        refine lv_iconst (v := 1) hx hb dX7_which_120 (by decide) ?_
                        refine lv_goto (tgt := 125) hx hb dX7_which_121 (by decide) ?_
                        refine lv_istore (lv' := [(5, .int (1 : Int32)), (7, .int w_22), (0, .ref a_p0), (1, .int v1), (2, .int y21_2), (3, .int y21_3), (4, .int y21_4), (6, .int y34_6)]) hx hb dX7_which_125 hl (by decide) rfl (fun ls hl => ?_)
                        refine lv_iinc (v := (y34_6 + (1 : Int32))) (lv' := [(6, .int (y34_6 + (1 : Int32))), (5, .int (1 : Int32)), (7, .int w_22), (0, .ref a_p0), (1, .int v1), (2, .int y21_2), (3, .int y21_3), (4, .int y21_4)]) hx hb dX7_which_127 hl (k := 7) rfl rfl (by decide) rfl (fun ls hl => ?_)
                        refine lv_goto (tgt := 34) hx hb dX7_which_130 (by decide) ?_
                        have h9 := o_inl hf ho_34
                        exact ih (1 : Int32) (y34_6 + (1 : Int32)) _ _ _ h9 hW (lv_sub hl [3, 4, 5, 6, 7, 1, 0] rfl)
          exact L_34 FU (1 : Int32) (0 : Int32) _ _ _ hl_34 hW (lv_sub hl [2, 3, 4, 5, 6, 1, 0] rfl)
    exact L_21 FU (0 : Int32) (-9 : Int32) (0 : Int32) _ _ _ hl_21 hW (lv_sub hl [3, 4, 2, 1, 0] rfl)
  · have hf := it_t c_2 hf
    refine lv_bipush (v := -2) hx hb dX7_which_10 (by decide) ?_
    exact hE _ _ _ _ _ (-2 : Int32) (sm hf) hW rfl dX7_which_12
def b_X7_factorial_4 (v0 : Int32) (v1 : Int32) (v2 : Int32) : Option ((Int32 × Int32) ⊕ (Int32)) := if v0 < v2 then some (.inr v1) else (some (v1 * v2)).bind fun w_506 => some (.inl (w_506, (v2 + (1 : Int32))))
def f_X7_factorial (v0 : Int32) : Option (Int32) := (itr (fun s => b_X7_factorial_4 v0 s.1 s.2) FU ((1 : Int32), (2 : Int32))).bind fun x_4 => some x_4
set_option maxHeartbeats 4000000 in
set_option maxRecDepth 100000 in
theorem c_X7_factorial (l : Launch) (D : va_G) (cI cZ : ClassId) (v0 : Int32) (q : Int32) (hf : f_X7_factorial v0 = some q) : CtI l D cI cZ yX7_factorial wsX7_factorial 0 0 [.int v0] [] (fun q => []) (fun q => q) q := by
  refine CtI.of (cc := cX7_factorial) (maxL := 3) (plainFor_of_name (by decide)) rfl (Nat.le_of_ble_eq_true rfl) ?_
  intro p e s m args below meth c A Q H ls hB hE hW hl
  have hx := hB.1
  have hb := hB.2.1
  have hml := hB.2.2.2.1
  have hown : s.vm.findClass RX7 = some m.cls := hB.2.2.2.2.1
  have hts := hB.2.2.2.2.2.1
  have hK := hB.2.2.2.2.2.2.2.1.1
  have hl : lv_has ls 3 [(0, .int v0)] := hl
  unfold f_X7_factorial at hf
  refine lv_iconst (v := 1) hx hb dX7_factorial_0 (by decide) ?_
  refine lv_istore_n (lv' := [(1, .int (1 : Int32)), (0, .int v0)]) hx hb dX7_factorial_1 rfl hl (by decide) rfl (fun ls hl => ?_)
  refine lv_iconst (v := 2) hx hb dX7_factorial_2 (by decide) ?_
  refine lv_istore_n (lv' := [(2, .int (2 : Int32)), (1, .int (1 : Int32)), (0, .int v0)]) hx hb dX7_factorial_3 rfl hl (by decide) rfl (fun ls hl => ?_)
  obtain ⟨e_4, hl_4, hk_4⟩ := bnd hf
  have K_4 : ∀ x_4 : Int32, x_4 = e_4 → ∀ (H : Heap) (locs : List Loc) (ls : Array Slot), Wl D A s.heap [] H locs → lv_has ls 3 [(1, .int x_4)] → W p l e (Rm 0 0) s m args below meth c H locs 0 0 Q (F0 m 19 ls []) := by
    intro x_4 hx_4 H locs ls hW hl
    have hf := hk_4
    rw [← hx_4] at hf
    refine lv_iload_n hx hb dX7_factorial_19 rfl (lv_at hl 0 rfl) ?_
    exact hE _ _ _ _ _ x_4 (sm hf) hW rfl dX7_factorial_20
  have L_4 : ∀ (n : Nat) (y4_1 : Int32) (y4_2 : Int32) (H : Heap) (locs : List Loc) (ls : Array Slot), itr (fun s => b_X7_factorial_4 v0 s.1 s.2) n (y4_1, y4_2) = some e_4 → Wl D A s.heap [] H locs → lv_has ls 3 [(0, .int v0), (1, .int y4_1), (2, .int y4_2)] → W p l e (Rm 0 0) s m args below meth c H locs 0 0 Q (F0 m 4 ls []) := by
    intro n
    induction n with
    | zero => intro y4_1 y4_2 H locs ls h9; exact itr_0 h9
    | succ n ih =>
      intro y4_1 y4_2 H locs ls hf hW hl
      obtain ⟨o_4, hf, ho_4⟩ := itr_inv hf
      have hf : b_X7_factorial_4 v0 y4_1 y4_2 = some o_4 := hf
      unfold b_X7_factorial_4 at hf
      refine lv_iload_n hx hb dX7_factorial_4 rfl (lv_at hl 2 rfl) ?_
      refine lv_iload_n hx hb dX7_factorial_5 rfl (lv_at hl 0 rfl) ?_
      refine lv_icmp_gt (tgt := 19) hx hb dX7_factorial_6 (by decide) (fun c_1 => ?_) (fun c_1 => ?_)
      · have hf := it_t c_1 hf
        have h9 := o_inr hf ho_4
        exact K_4 y4_1 h9 _ _ _ hW (lv_sub hl [1] rfl)
      · have hf := it_f c_1 hf
        refine lv_iload_n hx hb dX7_factorial_9 rfl (lv_at hl 1 rfl) ?_
        refine lv_iload_n hx hb dX7_factorial_10 rfl (lv_at hl 2 rfl) ?_
        refine lv_imul hx hb dX7_factorial_11 ?_
        obtain ⟨w_2, hw_2, hf⟩ := bnd hf
        refine q_nmI hw_2 ?_
        refine lv_istore_n (lv' := [(1, .int w_2), (0, .int v0), (2, .int y4_2)]) hx hb dX7_factorial_12 rfl hl (by decide) rfl (fun ls hl => ?_)
        refine lv_iinc (v := (y4_2 + (1 : Int32))) (lv' := [(2, .int (y4_2 + (1 : Int32))), (1, .int w_2), (0, .int v0)]) hx hb dX7_factorial_13 hl (k := 2) rfl rfl (by decide) rfl (fun ls hl => ?_)
        refine lv_goto (tgt := 4) hx hb dX7_factorial_16 (by decide) ?_
        have h9 := o_inl hf ho_4
        exact ih w_2 (y4_2 + (1 : Int32)) _ _ _ h9 hW (lv_sub hl [2, 1, 0] rfl)
  exact L_4 FU (1 : Int32) (2 : Int32) _ _ _ hl_4 hW (lv_sub hl [2, 1, 0] rfl)
def b_X7_common_13 (v2 : Int32) (v3 : Int32) : Option ((Int32 × Int32) ⊕ (Int32)) := if v3 = (0 : Int32) then some (.inr v2) else (rmI v2 v3).bind fun r_515 => some (.inl (v3, r_515))
def f_X7_common (v0 : Int32) (v1 : Int32) : Option (Int32) := if (0 : Int32) ≤ v0 then (itr (fun s => b_X7_common_13 s.1 s.2) FU (v0, v1)).bind fun x_13 => some x_13 else (some (-v0)).bind fun w_2 => (itr (fun s => b_X7_common_13 s.1 s.2) FU (w_2, v1)).bind fun x_13 => some x_13
set_option maxHeartbeats 4000000 in
set_option maxRecDepth 100000 in
theorem c_X7_common (l : Launch) (D : va_G) (cI cZ : ClassId) (v0 : Int32) (v1 : Int32) (q : Int32) (hf : f_X7_common v0 v1 = some q) : CtI l D cI cZ yX7_common wsX7_common 0 0 [.int v0, .int v1] [] (fun q => []) (fun q => q) q := by
  refine CtI.of (cc := cX7_common) (maxL := 5) (plainFor_of_name (by decide)) rfl (Nat.le_of_ble_eq_true rfl) ?_
  intro p e s m args below meth c A Q H ls hB hE hW hl
  have hx := hB.1
  have hb := hB.2.1
  have hml := hB.2.2.2.1
  have hown : s.vm.findClass RX7 = some m.cls := hB.2.2.2.2.1
  have hts := hB.2.2.2.2.2.1
  have hK := hB.2.2.2.2.2.2.2.1.1
  have hl : lv_has ls 5 [(0, .int v0), (1, .int v1)] := hl
  unfold f_X7_common at hf
  refine lv_iload_n hx hb dX7_common_0 rfl (lv_at hl 0 rfl) ?_
  refine lv_if_ge (tgt := 9) hx hb dX7_common_1 (by decide) (fun c_1 => ?_) (fun c_1 => ?_)
  · have hf := it_t c_1 hf
    refine lv_iload_n hx hb dX7_common_9 rfl (lv_at hl 0 rfl) ?_
    refine lv_istore_n (lv' := [(2, .int v0), (0, .int v0), (1, .int v1)]) hx hb dX7_common_10 rfl hl (by decide) rfl (fun ls hl => ?_)
    refine lv_iload_n hx hb dX7_common_11 rfl (lv_at hl 2 rfl) ?_
    refine lv_istore_n (lv' := [(3, .int v1), (2, .int v0), (0, .int v0), (1, .int v1)]) hx hb dX7_common_12 rfl hl (by decide) rfl (fun ls hl => ?_)
    obtain ⟨e_13, hl_13, hk_13⟩ := bnd hf
    have K_13 : ∀ x_13 : Int32, x_13 = e_13 → ∀ (H : Heap) (locs : List Loc) (ls : Array Slot), Wl D A s.heap [] H locs → lv_has ls 5 [(2, .int x_13)] → W p l e (Rm 0 0) s m args below meth c H locs 0 0 Q (F0 m 30 ls []) := by
      intro x_13 hx_13 H locs ls hW hl
      have hf := hk_13
      rw [← hx_13] at hf
      refine lv_iload_n hx hb dX7_common_30 rfl (lv_at hl 0 rfl) ?_
      exact hE _ _ _ _ _ x_13 (sm hf) hW rfl dX7_common_31
    have L_13 : ∀ (n : Nat) (y13_2 : Int32) (y13_3 : Int32) (H : Heap) (locs : List Loc) (ls : Array Slot), itr (fun s => b_X7_common_13 s.1 s.2) n (y13_2, y13_3) = some e_13 → Wl D A s.heap [] H locs → lv_has ls 5 [(2, .int y13_2), (3, .int y13_3)] → W p l e (Rm 0 0) s m args below meth c H locs 0 0 Q (F0 m 13 ls []) := by
      intro n
      induction n with
      | zero => intro y13_2 y13_3 H locs ls h9; exact itr_0 h9
      | succ n ih =>
        intro y13_2 y13_3 H locs ls hf hW hl
        obtain ⟨o_13, hf, ho_13⟩ := itr_inv hf
        have hf : b_X7_common_13 y13_2 y13_3 = some o_13 := hf
        unfold b_X7_common_13 at hf
        refine lv_iload_n hx hb dX7_common_13 rfl (lv_at hl 1 rfl) ?_
        refine lv_if_eq (tgt := 30) hx hb dX7_common_14 (by decide) (fun c_2 => ?_) (fun c_2 => ?_)
        · have hf := it_t c_2 hf
          have h9 := o_inr hf ho_13
          exact K_13 y13_2 h9 _ _ _ hW (lv_sub hl [0] rfl)
        · have hf := it_f c_2 hf
          refine lv_iload_n hx hb dX7_common_17 rfl (lv_at hl 0 rfl) ?_
          refine lv_iload_n hx hb dX7_common_18 rfl (lv_at hl 1 rfl) ?_
          obtain ⟨r_3, hr_3, hf⟩ := bnd hf
          refine q_irem hB hr_3 dX7_common_19 ?_
          refine lv_istore (lv' := [(4, .int r_3), (2, .int y13_2), (3, .int y13_3)]) hx hb dX7_common_20 hl (by decide) rfl (fun ls hl => ?_)
          refine lv_iload_n hx hb dX7_common_22 rfl (lv_at hl 2 rfl) ?_
          refine lv_istore_n (lv' := [(2, .int y13_3), (4, .int r_3), (3, .int y13_3)]) hx hb dX7_common_23 rfl hl (by decide) rfl (fun ls hl => ?_)
          refine lv_iload hx hb dX7_common_24 (lv_at hl 1 rfl) ?_
          refine lv_istore_n (lv' := [(3, .int r_3), (2, .int y13_3), (4, .int r_3)]) hx hb dX7_common_26 rfl hl (by decide) rfl (fun ls hl => ?_)
          refine lv_goto (tgt := 13) hx hb dX7_common_27 (by decide) ?_
          have h9 := o_inl hf ho_13
          exact ih y13_3 r_3 _ _ _ h9 hW (lv_sub hl [1, 0] rfl)
    exact L_13 FU v0 v1 _ _ _ hl_13 hW (lv_sub hl [1, 0] rfl)
  · have hf := it_f c_1 hf
    refine lv_iload_n hx hb dX7_common_4 rfl (lv_at hl 0 rfl) ?_
    refine lv_ineg hx hb dX7_common_5 ?_
    refine lv_goto (tgt := 10) hx hb dX7_common_6 (by decide) ?_
    obtain ⟨w_4, hw_4, hf⟩ := bnd hf
    refine q_nmI hw_4 ?_
    refine lv_istore_n (lv' := [(2, .int w_4), (0, .int v0), (1, .int v1)]) hx hb dX7_common_10 rfl hl (by decide) rfl (fun ls hl => ?_)
    refine lv_iload_n hx hb dX7_common_11 rfl (lv_at hl 2 rfl) ?_
    refine lv_istore_n (lv' := [(3, .int v1), (2, .int w_4), (0, .int v0), (1, .int v1)]) hx hb dX7_common_12 rfl hl (by decide) rfl (fun ls hl => ?_)
    obtain ⟨e_13, hl_13, hk_13⟩ := bnd hf
    have K_13 : ∀ x_13 : Int32, x_13 = e_13 → ∀ (H : Heap) (locs : List Loc) (ls : Array Slot), Wl D A s.heap [] H locs → lv_has ls 5 [(2, .int x_13)] → W p l e (Rm 0 0) s m args below meth c H locs 0 0 Q (F0 m 30 ls []) := by
      intro x_13 hx_13 H locs ls hW hl
      have hf := hk_13
      rw [← hx_13] at hf
      refine lv_iload_n hx hb dX7_common_30 rfl (lv_at hl 0 rfl) ?_
      exact hE _ _ _ _ _ x_13 (sm hf) hW rfl dX7_common_31
    have L_13 : ∀ (n : Nat) (y13_2 : Int32) (y13_3 : Int32) (H : Heap) (locs : List Loc) (ls : Array Slot), itr (fun s => b_X7_common_13 s.1 s.2) n (y13_2, y13_3) = some e_13 → Wl D A s.heap [] H locs → lv_has ls 5 [(2, .int y13_2), (3, .int y13_3)] → W p l e (Rm 0 0) s m args below meth c H locs 0 0 Q (F0 m 13 ls []) := by
      intro n
      induction n with
      | zero => intro y13_2 y13_3 H locs ls h9; exact itr_0 h9
      | succ n ih =>
        intro y13_2 y13_3 H locs ls hf hW hl
        obtain ⟨o_13, hf, ho_13⟩ := itr_inv hf
        have hf : b_X7_common_13 y13_2 y13_3 = some o_13 := hf
        unfold b_X7_common_13 at hf
        refine lv_iload_n hx hb dX7_common_13 rfl (lv_at hl 1 rfl) ?_
        refine lv_if_eq (tgt := 30) hx hb dX7_common_14 (by decide) (fun c_5 => ?_) (fun c_5 => ?_)
        · have hf := it_t c_5 hf
          have h9 := o_inr hf ho_13
          exact K_13 y13_2 h9 _ _ _ hW (lv_sub hl [0] rfl)
        · have hf := it_f c_5 hf
          refine lv_iload_n hx hb dX7_common_17 rfl (lv_at hl 0 rfl) ?_
          refine lv_iload_n hx hb dX7_common_18 rfl (lv_at hl 1 rfl) ?_
          obtain ⟨r_6, hr_6, hf⟩ := bnd hf
          refine q_irem hB hr_6 dX7_common_19 ?_
          refine lv_istore (lv' := [(4, .int r_6), (2, .int y13_2), (3, .int y13_3)]) hx hb dX7_common_20 hl (by decide) rfl (fun ls hl => ?_)
          refine lv_iload_n hx hb dX7_common_22 rfl (lv_at hl 2 rfl) ?_
          refine lv_istore_n (lv' := [(2, .int y13_3), (4, .int r_6), (3, .int y13_3)]) hx hb dX7_common_23 rfl hl (by decide) rfl (fun ls hl => ?_)
          refine lv_iload hx hb dX7_common_24 (lv_at hl 1 rfl) ?_
          refine lv_istore_n (lv' := [(3, .int r_6), (2, .int y13_3), (4, .int r_6)]) hx hb dX7_common_26 rfl hl (by decide) rfl (fun ls hl => ?_)
          refine lv_goto (tgt := 13) hx hb dX7_common_27 (by decide) ?_
          have h9 := o_inl hf ho_13
          exact ih y13_3 r_6 _ _ _ h9 hW (lv_sub hl [1, 0] rfl)
    exact L_13 FU w_4 v1 _ _ _ hl_13 hW (lv_sub hl [1, 0] rfl)
def b_X7_swornBy_4 (v1 : Int32) (p0_oaths : Int32) (p0_one : Nat → Int32) (p0_other : Nat → Int32) (v2 : Int32) (v3 : Int32) : Option ((Int32 × Int32) ⊕ (Int32)) := if p0_oaths ≤ v3 then some (.inr v2) else (ald p0_one 5 v3).bind fun r_506 => (f_X7_has v1 r_506).bind fun r_507 => if r_507 = (0 : Int32) then (some (v2 ||| (0 : Int32))).bind fun w_509 => some (.inl (w_509, (v3 + (1 : Int32)))) else (ald p0_other 5 v3).bind fun r_510 => (f_X7_has v1 r_510).bind fun r_511 => if r_511 = (0 : Int32) then (some (v2 ||| (0 : Int32))).bind fun w_513 => some (.inl (w_513, (v3 + (1 : Int32)))) else (some (v2 ||| ((1 : Int32) <<< (v3 &&& 31)))).bind fun w_514 => some (.inl (w_514, (v3 + (1 : Int32))))
def f_X7_swornBy (v1 : Int32) (p0_oaths : Int32) (p0_one : Nat → Int32) (p0_other : Nat → Int32) (p0_worth : Nat → Int32) (p0_now : Nat → Int32) : Option (Int32) := (itr (fun s => b_X7_swornBy_4 v1 p0_oaths p0_one p0_other s.1 s.2) FU ((0 : Int32), (0 : Int32))).bind fun x_4 => (ald p0_now 18 (6 : Int32)).bind fun r_1 => (f_X7_worthsOf (x_4 &&& r_1) p0_oaths p0_worth).bind fun r_2 => some r_2
set_option maxHeartbeats 4000000 in
set_option maxRecDepth 100000 in
theorem c_X7_swornBy (l : Launch) (D : va_G) (cI cZ : ClassId) (a_p0 a_p0_kind a_p0_skyAt a_p0_skyLoud a_p0_one a_p0_other a_p0_worth a_p0_hangs a_p0_now a_p0_readPerson a_p0_readSky a_p0_readOath a_p0_text a_p0_row a_p0_toldAt a_p0_toldWool a_p0_toldHeard a_p0_isKept a_p0_kept : Nat) (p0_persons : Int32) (p0_skies : Int32) (p0_oaths : Int32) (p0_readPersons : Int32) (p0_readSkies : Int32) (p0_readOaths : Int32) (p0_length : Int32) (p0_at : Int32) (p0_faultAt : Int32) (p0_acts : Int32) (p0_next : Int32) (p0_told : Int32) (p0_seed : Int64) (p0_one : Nat → Int32) (p0_other : Nat → Int32) (p0_worth : Nat → Int32) (p0_now : Nat → Int32) (v1 : Int32) (q : Int32) (hf : f_X7_swornBy v1 p0_oaths p0_one p0_other p0_worth p0_now = some q) : CtI l D cI cZ yX7_swornBy wsX7_swornBy 2 44 [.ref a_p0, .int v1] [(a_p0, .inr (7, [.int p0_persons, .int p0_skies, .int p0_oaths, .ref a_p0_kind, .ref a_p0_skyAt, .ref a_p0_skyLoud, .ref a_p0_one, .ref a_p0_other, .ref a_p0_worth, .ref a_p0_hangs, .ref a_p0_now, .ref a_p0_readPerson, .ref a_p0_readSky, .ref a_p0_readOath, .int p0_readPersons, .int p0_readSkies, .int p0_readOaths, .ref a_p0_text, .int p0_length, .int p0_at, .int p0_faultAt, .int p0_acts, .int p0_next, .ref a_p0_row, .int p0_told, .ref a_p0_toldAt, .ref a_p0_toldWool, .ref a_p0_toldHeard, .long p0_seed, .ref a_p0_isKept, .ref a_p0_kept])), (a_p0_one, .inl (cI, 5, .inl p0_one)), (a_p0_other, .inl (cI, 5, .inl p0_other)), (a_p0_worth, .inl (cI, 5, .inl p0_worth)), (a_p0_now, .inl (cI, 18, .inl p0_now))] (fun q => [(a_p0, .inr (7, [.int p0_persons, .int p0_skies, .int p0_oaths, .ref a_p0_kind, .ref a_p0_skyAt, .ref a_p0_skyLoud, .ref a_p0_one, .ref a_p0_other, .ref a_p0_worth, .ref a_p0_hangs, .ref a_p0_now, .ref a_p0_readPerson, .ref a_p0_readSky, .ref a_p0_readOath, .int p0_readPersons, .int p0_readSkies, .int p0_readOaths, .ref a_p0_text, .int p0_length, .int p0_at, .int p0_faultAt, .int p0_acts, .int p0_next, .ref a_p0_row, .int p0_told, .ref a_p0_toldAt, .ref a_p0_toldWool, .ref a_p0_toldHeard, .long p0_seed, .ref a_p0_isKept, .ref a_p0_kept])), (a_p0_one, .inl (cI, 5, .inl p0_one)), (a_p0_other, .inl (cI, 5, .inl p0_other)), (a_p0_worth, .inl (cI, 5, .inl p0_worth)), (a_p0_now, .inl (cI, 18, .inl p0_now))]) (fun q => q) q := by
  refine CtI.of (cc := cX7_swornBy) (maxL := 4) (plainFor_of_name (by decide)) rfl (Nat.le_of_ble_eq_true rfl) ?_
  intro p e s m args below meth c A Q H ls hB hE hW hl
  have hx := hB.1
  have hb := hB.2.1
  have hml := hB.2.2.2.1
  have hown : s.vm.findClass RX7 = some m.cls := hB.2.2.2.2.1
  have hts := hB.2.2.2.2.2.1
  have hK := hB.2.2.2.2.2.2.2.1.1
  have hl : lv_has ls 4 [(0, .ref a_p0), (1, .int v1)] := hl
  have in_X7 : ∀ w ∈ wsX70, w ∈ wsX7_swornBy := fun w h => List.mem_cons_of_mem _ (List.mem_append_right _ h)
  have fl_19 : (Cond.fieldLink RX7 19 (TX7 6).1 (TX7 6).2.1 (TX7 6).2.2.1).before args s = true := hts (.fieldLink RX7 19 "ClapOathsModel" "one" "[I") (by decide +kernel)
  have fl_22 : (Cond.fieldLink RX7 22 (TX7 7).1 (TX7 7).2.1 (TX7 7).2.2.1).before args s = true := hts (.fieldLink RX7 22 "ClapOathsModel" "other" "[I") (by decide +kernel)
  have fl_31 : (Cond.fieldLink RX7 31 (TX7 10).1 (TX7 10).2.1 (TX7 10).2.2.1).before args s = true := hts (.fieldLink RX7 31 "ClapOathsModel" "now" "[I") (by decide +kernel)
  have fl_111 : (Cond.fieldLink RX7 111 (TX7 2).1 (TX7 2).2.1 (TX7 2).2.2.1).before args s = true := hts (.fieldLink RX7 111 "ClapOathsModel" "oaths" "I") (by decide +kernel)
  unfold f_X7_swornBy at hf
  refine lv_iconst (v := 0) hx hb dX7_swornBy_0 (by decide) ?_
  refine lv_istore_n (lv' := [(2, .int (0 : Int32)), (0, .ref a_p0), (1, .int v1)]) hx hb dX7_swornBy_1 rfl hl (by decide) rfl (fun ls hl => ?_)
  refine lv_iconst (v := 0) hx hb dX7_swornBy_2 (by decide) ?_
  refine lv_istore_n (lv' := [(3, .int (0 : Int32)), (2, .int (0 : Int32)), (0, .ref a_p0), (1, .int v1)]) hx hb dX7_swornBy_3 rfl hl (by decide) rfl (fun ls hl => ?_)
  obtain ⟨e_4, hl_4, hk_4⟩ := bnd hf
  have K_4 : ∀ x_4 : Int32, x_4 = e_4 → ∀ (H : Heap) (locs : List Loc) (ls : Array Slot), Wl D A s.heap [(a_p0, .inr (7, [.int p0_persons, .int p0_skies, .int p0_oaths, .ref a_p0_kind, .ref a_p0_skyAt, .ref a_p0_skyLoud, .ref a_p0_one, .ref a_p0_other, .ref a_p0_worth, .ref a_p0_hangs, .ref a_p0_now, .ref a_p0_readPerson, .ref a_p0_readSky, .ref a_p0_readOath, .int p0_readPersons, .int p0_readSkies, .int p0_readOaths, .ref a_p0_text, .int p0_length, .int p0_at, .int p0_faultAt, .int p0_acts, .int p0_next, .ref a_p0_row, .int p0_told, .ref a_p0_toldAt, .ref a_p0_toldWool, .ref a_p0_toldHeard, .long p0_seed, .ref a_p0_isKept, .ref a_p0_kept])), (a_p0_one, .inl (cI, 5, .inl p0_one)), (a_p0_other, .inl (cI, 5, .inl p0_other)), (a_p0_worth, .inl (cI, 5, .inl p0_worth)), (a_p0_now, .inl (cI, 18, .inl p0_now))] H locs → lv_has ls 4 [(0, .ref a_p0), (2, .int x_4)] → W p l e (Rm 2 44) s m args below meth c H locs 0 0 Q (F0 m 54 ls []) := by
    intro x_4 hx_4 H locs ls hW hl
    have hf := hk_4
    rw [← hx_4] at hf
    refine lv_aload_n hx hb dX7_swornBy_54 rfl (lv_at hl 0 rfl) ?_
    refine lv_iload_n hx hb dX7_swornBy_55 rfl (lv_at hl 1 rfl) ?_
    refine lv_aload_n hx hb dX7_swornBy_56 rfl (lv_at hl 0 rfl) ?_
    refine q_get hB hW 7 in_X7 0 rfl rfl 10 (by decide) fl_31 (v := .ref a_p0_now) rfl dX7_swornBy_57 ?_
    refine lv_bipush (v := 6) hx hb dX7_swornBy_60 (by decide) ?_
    obtain ⟨r_1, hr_1, hf⟩ := bnd hf
    refine q_iald hB hW 4 rfl hr_1 dX7_swornBy_62 ?_
    refine lv_iand hx hb dX7_swornBy_63 ?_
    obtain ⟨r_2, hr_2, hf⟩ := bnd hf
    refine q_callVI hB hW (ci := 7) (q0 := 0) rfl rfl rfl (As := [.int (x_4 &&& r_1)]) (rest := []) (ws' := [(a_p0, .inr (7, [.int p0_persons, .int p0_skies, .int p0_oaths, .ref a_p0_kind, .ref a_p0_skyAt, .ref a_p0_skyLoud, .ref a_p0_one, .ref a_p0_other, .ref a_p0_worth, .ref a_p0_hangs, .ref a_p0_now, .ref a_p0_readPerson, .ref a_p0_readSky, .ref a_p0_readOath, .int p0_readPersons, .int p0_readSkies, .int p0_readOaths, .ref a_p0_text, .int p0_length, .int p0_at, .int p0_faultAt, .int p0_acts, .int p0_next, .ref a_p0_row, .int p0_told, .ref a_p0_toldAt, .ref a_p0_toldWool, .ref a_p0_toldHeard, .long p0_seed, .ref a_p0_isKept, .ref a_p0_kept])), (a_p0_one, .inl (cI, 5, .inl p0_one)), (a_p0_other, .inl (cI, 5, .inl p0_other)), (a_p0_worth, .inl (cI, 5, .inl p0_worth)), (a_p0_now, .inl (cI, 18, .inl p0_now))]) (c_X7_worthsOf l D cI cZ a_p0 a_p0_kind a_p0_skyAt a_p0_skyLoud a_p0_one a_p0_other a_p0_worth a_p0_hangs a_p0_now a_p0_readPerson a_p0_readSky a_p0_readOath a_p0_text a_p0_row a_p0_toldAt a_p0_toldWool a_p0_toldHeard a_p0_isKept a_p0_kept p0_persons p0_skies p0_oaths p0_readPersons p0_readSkies p0_readOaths p0_length p0_at p0_faultAt p0_acts p0_next p0_told p0_seed p0_worth (x_4 &&& r_1) r_2 hr_2) (cwV 1 hts gX7_swornBy_X7_worthsOf rfl rfl rfl (by decide +kernel) ⟨Nat.le_of_ble_eq_true rfl, Nat.le_of_ble_eq_true rfl⟩) [0, 3] rfl rfl rfl rfl rfl hl.1 rfl (Nat.le_of_ble_eq_true rfl) ⟨Nat.le_of_ble_eq_true rfl, Nat.le_of_ble_eq_true rfl⟩ dX7_swornBy_64 (fun H locs hW => ?_)
    exact hE _ _ _ _ _ r_2 (sm hf) hW rfl dX7_swornBy_67
  have L_4 : ∀ (n : Nat) (y4_2 : Int32) (y4_3 : Int32) (H : Heap) (locs : List Loc) (ls : Array Slot), itr (fun s => b_X7_swornBy_4 v1 p0_oaths p0_one p0_other s.1 s.2) n (y4_2, y4_3) = some e_4 → Wl D A s.heap [(a_p0, .inr (7, [.int p0_persons, .int p0_skies, .int p0_oaths, .ref a_p0_kind, .ref a_p0_skyAt, .ref a_p0_skyLoud, .ref a_p0_one, .ref a_p0_other, .ref a_p0_worth, .ref a_p0_hangs, .ref a_p0_now, .ref a_p0_readPerson, .ref a_p0_readSky, .ref a_p0_readOath, .int p0_readPersons, .int p0_readSkies, .int p0_readOaths, .ref a_p0_text, .int p0_length, .int p0_at, .int p0_faultAt, .int p0_acts, .int p0_next, .ref a_p0_row, .int p0_told, .ref a_p0_toldAt, .ref a_p0_toldWool, .ref a_p0_toldHeard, .long p0_seed, .ref a_p0_isKept, .ref a_p0_kept])), (a_p0_one, .inl (cI, 5, .inl p0_one)), (a_p0_other, .inl (cI, 5, .inl p0_other)), (a_p0_worth, .inl (cI, 5, .inl p0_worth)), (a_p0_now, .inl (cI, 18, .inl p0_now))] H locs → lv_has ls 4 [(0, .ref a_p0), (1, .int v1), (2, .int y4_2), (3, .int y4_3)] → W p l e (Rm 2 44) s m args below meth c H locs 0 0 Q (F0 m 4 ls []) := by
    intro n
    induction n with
    | zero => intro y4_2 y4_3 H locs ls h9; exact itr_0 h9
    | succ n ih =>
      intro y4_2 y4_3 H locs ls hf hW hl
      obtain ⟨o_4, hf, ho_4⟩ := itr_inv hf
      have hf : b_X7_swornBy_4 v1 p0_oaths p0_one p0_other y4_2 y4_3 = some o_4 := hf
      unfold b_X7_swornBy_4 at hf
      refine lv_iload_n hx hb dX7_swornBy_4 rfl (lv_at hl 3 rfl) ?_
      refine lv_aload_n hx hb dX7_swornBy_5 rfl (lv_at hl 0 rfl) ?_
      refine q_get hB hW 7 in_X7 0 rfl rfl 2 (by decide) fl_111 (v := .int p0_oaths) rfl dX7_swornBy_6 ?_
      refine lv_icmp_ge (tgt := 54) hx hb dX7_swornBy_9 (by decide) (fun c_3 => ?_) (fun c_3 => ?_)
      · have hf := it_t c_3 hf
        have h9 := o_inr hf ho_4
        exact K_4 y4_2 h9 _ _ _ hW (lv_sub hl [0, 2] rfl)
      · have hf := it_f c_3 hf
        refine lv_iload_n hx hb dX7_swornBy_12 rfl (lv_at hl 2 rfl) ?_
        refine lv_iload_n hx hb dX7_swornBy_13 rfl (lv_at hl 1 rfl) ?_
        refine lv_aload_n hx hb dX7_swornBy_14 rfl (lv_at hl 0 rfl) ?_
        refine q_get hB hW 7 in_X7 0 rfl rfl 6 (by decide) fl_19 (v := .ref a_p0_one) rfl dX7_swornBy_15 ?_
        refine lv_iload_n hx hb dX7_swornBy_18 rfl (lv_at hl 3 rfl) ?_
        obtain ⟨r_4, hr_4, hf⟩ := bnd hf
        refine q_iald hB hW 1 rfl hr_4 dX7_swornBy_19 ?_
        obtain ⟨r_5, hr_5, hf⟩ := bnd hf
        refine q_callSZ hB hW (As := [.int v1, .int r_4]) (rest := [.int y4_2]) (ws' := [(a_p0, .inr (7, [.int p0_persons, .int p0_skies, .int p0_oaths, .ref a_p0_kind, .ref a_p0_skyAt, .ref a_p0_skyLoud, .ref a_p0_one, .ref a_p0_other, .ref a_p0_worth, .ref a_p0_hangs, .ref a_p0_now, .ref a_p0_readPerson, .ref a_p0_readSky, .ref a_p0_readOath, .int p0_readPersons, .int p0_readSkies, .int p0_readOaths, .ref a_p0_text, .int p0_length, .int p0_at, .int p0_faultAt, .int p0_acts, .int p0_next, .ref a_p0_row, .int p0_told, .ref a_p0_toldAt, .ref a_p0_toldWool, .ref a_p0_toldHeard, .long p0_seed, .ref a_p0_isKept, .ref a_p0_kept])), (a_p0_one, .inl (cI, 5, .inl p0_one)), (a_p0_other, .inl (cI, 5, .inl p0_other)), (a_p0_worth, .inl (cI, 5, .inl p0_worth)), (a_p0_now, .inl (cI, 18, .inl p0_now))]) (c_X7_has l D cI cZ v1 r_4 r_5 hr_5) (va_cwS 2 hts gX7_swornBy_X7_has rfl rfl rfl (by decide +kernel) ⟨Nat.le_of_ble_eq_true rfl, Nat.le_of_ble_eq_true rfl⟩) [] rfl rfl rfl rfl rfl hl.1 rfl (Nat.le_of_ble_eq_true rfl) ⟨Nat.le_of_ble_eq_true rfl, Nat.le_of_ble_eq_true rfl⟩ dX7_swornBy_20 (fun hzr_5 H locs hW => ?_)
        refine lv_if_eq (tgt := 45) hx hb dX7_swornBy_23 (by decide) (fun c_6 => ?_) (fun c_6 => ?_)
        · have hf := it_t c_6 hf
          refine lv_iconst (v := 0) hx hb dX7_swornBy_45 (by decide) ?_
          refine lv_ior hx hb dX7_swornBy_46 ?_
          obtain ⟨w_7, hw_7, hf⟩ := bnd hf
          refine q_nmI hw_7 ?_
          refine lv_istore_n (lv' := [(2, .int w_7), (0, .ref a_p0), (1, .int v1), (3, .int y4_3)]) hx hb dX7_swornBy_47 rfl hl (by decide) rfl (fun ls hl => ?_)
          refine lv_iinc (v := (y4_3 + (1 : Int32))) (lv' := [(3, .int (y4_3 + (1 : Int32))), (2, .int w_7), (0, .ref a_p0), (1, .int v1)]) hx hb dX7_swornBy_48 hl (k := 3) rfl rfl (by decide) rfl (fun ls hl => ?_)
          refine lv_goto (tgt := 4) hx hb dX7_swornBy_51 (by decide) ?_
          have h9 := o_inl hf ho_4
          exact ih w_7 (y4_3 + (1 : Int32)) _ _ _ h9 hW (lv_sub hl [2, 3, 1, 0] rfl)
        · have hf := it_f c_6 hf
          refine lv_iload_n hx hb dX7_swornBy_26 rfl (lv_at hl 1 rfl) ?_
          refine lv_aload_n hx hb dX7_swornBy_27 rfl (lv_at hl 0 rfl) ?_
          refine q_get hB hW 7 in_X7 0 rfl rfl 7 (by decide) fl_22 (v := .ref a_p0_other) rfl dX7_swornBy_28 ?_
          refine lv_iload_n hx hb dX7_swornBy_31 rfl (lv_at hl 3 rfl) ?_
          obtain ⟨r_8, hr_8, hf⟩ := bnd hf
          refine q_iald hB hW 2 rfl hr_8 dX7_swornBy_32 ?_
          obtain ⟨r_9, hr_9, hf⟩ := bnd hf
          refine q_callSZ hB hW (As := [.int v1, .int r_8]) (rest := [.int y4_2]) (ws' := [(a_p0, .inr (7, [.int p0_persons, .int p0_skies, .int p0_oaths, .ref a_p0_kind, .ref a_p0_skyAt, .ref a_p0_skyLoud, .ref a_p0_one, .ref a_p0_other, .ref a_p0_worth, .ref a_p0_hangs, .ref a_p0_now, .ref a_p0_readPerson, .ref a_p0_readSky, .ref a_p0_readOath, .int p0_readPersons, .int p0_readSkies, .int p0_readOaths, .ref a_p0_text, .int p0_length, .int p0_at, .int p0_faultAt, .int p0_acts, .int p0_next, .ref a_p0_row, .int p0_told, .ref a_p0_toldAt, .ref a_p0_toldWool, .ref a_p0_toldHeard, .long p0_seed, .ref a_p0_isKept, .ref a_p0_kept])), (a_p0_one, .inl (cI, 5, .inl p0_one)), (a_p0_other, .inl (cI, 5, .inl p0_other)), (a_p0_worth, .inl (cI, 5, .inl p0_worth)), (a_p0_now, .inl (cI, 18, .inl p0_now))]) (c_X7_has l D cI cZ v1 r_8 r_9 hr_9) (va_cwS 2 hts gX7_swornBy_X7_has rfl rfl rfl (by decide +kernel) ⟨Nat.le_of_ble_eq_true rfl, Nat.le_of_ble_eq_true rfl⟩) [] rfl rfl rfl rfl rfl hl.1 rfl (Nat.le_of_ble_eq_true rfl) ⟨Nat.le_of_ble_eq_true rfl, Nat.le_of_ble_eq_true rfl⟩ dX7_swornBy_33 (fun hzr_9 H locs hW => ?_)
          refine lv_if_eq (tgt := 45) hx hb dX7_swornBy_36 (by decide) (fun c_10 => ?_) (fun c_10 => ?_)
          · have hf := it_t c_10 hf
            refine lv_iconst (v := 0) hx hb dX7_swornBy_45 (by decide) ?_
            refine lv_ior hx hb dX7_swornBy_46 ?_
            obtain ⟨w_11, hw_11, hf⟩ := bnd hf
            refine q_nmI hw_11 ?_
            refine lv_istore_n (lv' := [(2, .int w_11), (0, .ref a_p0), (1, .int v1), (3, .int y4_3)]) hx hb dX7_swornBy_47 rfl hl (by decide) rfl (fun ls hl => ?_)
            refine lv_iinc (v := (y4_3 + (1 : Int32))) (lv' := [(3, .int (y4_3 + (1 : Int32))), (2, .int w_11), (0, .ref a_p0), (1, .int v1)]) hx hb dX7_swornBy_48 hl (k := 3) rfl rfl (by decide) rfl (fun ls hl => ?_)
            refine lv_goto (tgt := 4) hx hb dX7_swornBy_51 (by decide) ?_
            have h9 := o_inl hf ho_4
            exact ih w_11 (y4_3 + (1 : Int32)) _ _ _ h9 hW (lv_sub hl [2, 3, 1, 0] rfl)
          · have hf := it_f c_10 hf
            refine lv_iconst (v := 1) hx hb dX7_swornBy_39 (by decide) ?_
            refine lv_iload_n hx hb dX7_swornBy_40 rfl (lv_at hl 3 rfl) ?_
            refine lv_ishl hx hb dX7_swornBy_41 ?_
            refine lv_goto (tgt := 46) hx hb dX7_swornBy_42 (by decide) ?_
            refine lv_ior hx hb dX7_swornBy_46 ?_
            obtain ⟨w_12, hw_12, hf⟩ := bnd hf
            refine q_nmI hw_12 ?_
            refine lv_istore_n (lv' := [(2, .int w_12), (0, .ref a_p0), (1, .int v1), (3, .int y4_3)]) hx hb dX7_swornBy_47 rfl hl (by decide) rfl (fun ls hl => ?_)
            refine lv_iinc (v := (y4_3 + (1 : Int32))) (lv' := [(3, .int (y4_3 + (1 : Int32))), (2, .int w_12), (0, .ref a_p0), (1, .int v1)]) hx hb dX7_swornBy_48 hl (k := 3) rfl rfl (by decide) rfl (fun ls hl => ?_)
            refine lv_goto (tgt := 4) hx hb dX7_swornBy_51 (by decide) ?_
            have h9 := o_inl hf ho_4
            exact ih w_12 (y4_3 + (1 : Int32)) _ _ _ h9 hW (lv_sub hl [2, 3, 1, 0] rfl)
  exact L_4 FU (0 : Int32) (0 : Int32) _ _ _ hl_4 hW (lv_sub hl [2, 3, 1, 0] rfl)
