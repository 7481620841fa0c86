def b_X7_clapOn_26 (v1 : Int32) (v4 : Int32) (v5 : Int32) (p0_oaths : Int32) (p0_kind : Nat → Int32) (p0_one : Nat → Int32) (p0_other : Nat → Int32) (v6 : Int32) (p0_now : Nat → Int32) : Option ((Int32 × (Nat → Int32)) ⊕ (Nat → Int32)) := if p0_oaths ≤ v6 then some (.inr p0_now) else (ald p0_one 5 v6).bind fun r_528 => (f_X7_has v5 r_528).bind fun r_529 => (ald p0_other 5 v6).bind fun r_530 => (f_X7_has v5 r_530).bind fun r_531 => if r_529 = (0 : Int32) then if r_531 = (0 : Int32) then (ald p0_now 18 (((9 : Int32) * v1) + (6 : Int32))).bind fun r_534 => (ast p0_now 18 (((9 : Int32) * v1) + (6 : Int32)) (r_534 &&& (-1 : Int32))).bind fun r_535 => some (.inl ((v6 + (1 : Int32)), r_535)) else (ald p0_other 5 v6).bind fun r_536 => (ald p0_kind 5 r_536).bind fun r_537 => if r_537 = (3 : Int32) then (ald p0_now 18 (((9 : Int32) * v1) + (6 : Int32))).bind fun r_541 => (ast p0_now 18 (((9 : Int32) * v1) + (6 : Int32)) (r_541 &&& (((1 : Int32) <<< (v6 &&& 31)) ^^^ (-1 : Int32)))).bind fun r_542 => some (.inl ((v6 + (1 : Int32)), r_542)) else (ald p0_now 18 (((9 : Int32) * v1) + (6 : Int32))).bind fun r_539 => (ast p0_now 18 (((9 : Int32) * v1) + (6 : Int32)) (r_539 &&& (-1 : Int32))).bind fun r_540 => some (.inl ((v6 + (1 : Int32)), r_540)) else if r_531 = (0 : Int32) then (ald p0_one 5 v6).bind fun r_546 => (ald p0_kind 5 r_546).bind fun r_547 => if r_547 = (3 : Int32) then (ald p0_now 18 (((9 : Int32) * v1) + (6 : Int32))).bind fun r_549 => (ast p0_now 18 (((9 : Int32) * v1) + (6 : Int32)) (r_549 &&& (((1 : Int32) <<< (v6 &&& 31)) ^^^ (-1 : Int32)))).bind fun r_550 => some (.inl ((v6 + (1 : Int32)), r_550)) else (ald p0_now 18 (((9 : Int32) * v1) + (6 : Int32))).bind fun r_551 => (ast p0_now 18 (((9 : Int32) * v1) + (6 : Int32)) (r_551 &&& (-1 : Int32))).bind fun r_552 => some (.inl ((v6 + (1 : Int32)), r_552)) else (ald p0_now 18 (((9 : Int32) * v1) + (6 : Int32))).bind fun r_544 => (ast p0_now 18 (((9 : Int32) * v1) + (6 : Int32)) (r_544 &&& (((1 : Int32) <<< (v6 &&& 31)) ^^^ (-1 : Int32)))).bind fun r_545 => some (.inl ((v6 + (1 : Int32)), r_545))
def f_X7_clapOn (v1 : Int32) (v2 : Int32) (v3 : Int32) (p0_persons : Int32) (p0_oaths : Int32) (p0_kind : Nat → Int32) (p0_one : Nat → Int32) (p0_other : Nat → Int32) (p0_hangs : Nat → Int32) (p0_now : Nat → Int32) : Option (Int32 × (Nat → Int32)) := (ald p0_now 18 (((9 : Int32) * v1) + (6 : Int32))).bind fun r_1 => (f_X7_hearers v1 v2 v3 p0_persons p0_kind p0_now).bind fun r_2 => (itr (fun s => b_X7_clapOn_26 v1 r_1 r_2 p0_oaths p0_kind p0_one p0_other s.1 s.2) FU ((0 : Int32), p0_now)).bind fun x_26 => (f_X7_fallOn v1 p0_oaths p0_hangs x_26).bind fun r_3 => (ald r_3 18 (((9 : Int32) * v1) + (6 : Int32))).bind fun r_4 => (f_X7_ones (r_1 &&& (r_4 ^^^ (-1 : Int32)))).bind fun r_5 => some (r_5, r_3)
set_option maxHeartbeats 4000000 in
set_option maxRecDepth 100000 in
theorem c_X7_clapOn (l : Launch) (D : va_G) (cI cZ : ClassId) (a_p0 a_p0_kind a_p0_skyAt a_p0_skyLoud a_p0_one a_p0_other a_p0_worth a_p0_hangs a_p0_now a_p0_readPerson a_p0_readSky a_p0_readOath a_p0_text a_p0_row a_p0_toldAt a_p0_toldWool a_p0_toldHeard a_p0_isKept a_p0_kept : Nat) (p0_persons : Int32) (p0_skies : Int32) (p0_oaths : Int32) (p0_readPersons : Int32) (p0_readSkies : Int32) (p0_readOaths : Int32) (p0_length : Int32) (p0_at : Int32) (p0_faultAt : Int32) (p0_acts : Int32) (p0_next : Int32) (p0_told : Int32) (p0_seed : Int64) (p0_kind : Nat → Int32) (p0_one : Nat → Int32) (p0_other : Nat → Int32) (p0_hangs : Nat → Int32) (p0_now : Nat → Int32) (v1 : Int32) (v2 : Int32) (v3 : Int32) (q : Int32 × (Nat → Int32)) (hf : f_X7_clapOn v1 v2 v3 p0_persons p0_oaths p0_kind p0_one p0_other p0_hangs p0_now = some q) : CtI l D cI cZ yX7_clapOn wsX7_clapOn 3 71 [.ref a_p0, .int v1, .int v2, .int v3] [(a_p0, .inr (7, [.int p0_persons, .int p0_skies, .int p0_oaths, .ref a_p0_kind, .ref a_p0_skyAt, .ref a_p0_skyLoud, .ref a_p0_one, .ref a_p0_other, .ref a_p0_worth, .ref a_p0_hangs, .ref a_p0_now, .ref a_p0_readPerson, .ref a_p0_readSky, .ref a_p0_readOath, .int p0_readPersons, .int p0_readSkies, .int p0_readOaths, .ref a_p0_text, .int p0_length, .int p0_at, .int p0_faultAt, .int p0_acts, .int p0_next, .ref a_p0_row, .int p0_told, .ref a_p0_toldAt, .ref a_p0_toldWool, .ref a_p0_toldHeard, .long p0_seed, .ref a_p0_isKept, .ref a_p0_kept])), (a_p0_kind, .inl (cI, 5, .inl p0_kind)), (a_p0_one, .inl (cI, 5, .inl p0_one)), (a_p0_other, .inl (cI, 5, .inl p0_other)), (a_p0_hangs, .inl (cI, 5, .inl p0_hangs)), (a_p0_now, .inl (cI, 18, .inl p0_now))] (fun q => [(a_p0, .inr (7, [.int p0_persons, .int p0_skies, .int p0_oaths, .ref a_p0_kind, .ref a_p0_skyAt, .ref a_p0_skyLoud, .ref a_p0_one, .ref a_p0_other, .ref a_p0_worth, .ref a_p0_hangs, .ref a_p0_now, .ref a_p0_readPerson, .ref a_p0_readSky, .ref a_p0_readOath, .int p0_readPersons, .int p0_readSkies, .int p0_readOaths, .ref a_p0_text, .int p0_length, .int p0_at, .int p0_faultAt, .int p0_acts, .int p0_next, .ref a_p0_row, .int p0_told, .ref a_p0_toldAt, .ref a_p0_toldWool, .ref a_p0_toldHeard, .long p0_seed, .ref a_p0_isKept, .ref a_p0_kept])), (a_p0_kind, .inl (cI, 5, .inl p0_kind)), (a_p0_one, .inl (cI, 5, .inl p0_one)), (a_p0_other, .inl (cI, 5, .inl p0_other)), (a_p0_hangs, .inl (cI, 5, .inl p0_hangs)), (a_p0_now, .inl (cI, 18, .inl q.2))]) (fun q => q.1) q := by
  refine CtI.of (cc := cX7_clapOn) (maxL := 10) (plainFor_of_name (by decide)) rfl (Nat.le_of_ble_eq_true rfl) ?_
  intro p e s m args below meth c A Q H ls hB hE hW hl
  have hx := hB.1
  have hb := hB.2.1
  have hml := hB.2.2.2.1
  have hown : s.vm.findClass RX7 = some m.cls := hB.2.2.2.2.1
  have hts := hB.2.2.2.2.2.1
  have hK := hB.2.2.2.2.2.2.2.1.1
  have hl : lv_has ls 10 [(0, .ref a_p0), (1, .int v1), (2, .int v2), (3, .int v3)] := hl
  have in_X7 : ∀ w ∈ wsX70, w ∈ wsX7_clapOn := fun w h => List.mem_cons_of_mem _ (List.mem_append_right _ h)
  have fl_7 : (Cond.fieldLink RX7 7 (TX7 3).1 (TX7 3).2.1 (TX7 3).2.2.1).before args s = true := hts (.fieldLink RX7 7 "ClapOathsModel" "kind" "[I") (by decide +kernel)
  have fl_19 : (Cond.fieldLink RX7 19 (TX7 6).1 (TX7 6).2.1 (TX7 6).2.2.1).before args s = true := hts (.fieldLink RX7 19 "ClapOathsModel" "one" "[I") (by decide +kernel)
  have fl_22 : (Cond.fieldLink RX7 22 (TX7 7).1 (TX7 7).2.1 (TX7 7).2.2.1).before args s = true := hts (.fieldLink RX7 22 "ClapOathsModel" "other" "[I") (by decide +kernel)
  have fl_31 : (Cond.fieldLink RX7 31 (TX7 10).1 (TX7 10).2.1 (TX7 10).2.2.1).before args s = true := hts (.fieldLink RX7 31 "ClapOathsModel" "now" "[I") (by decide +kernel)
  have fl_111 : (Cond.fieldLink RX7 111 (TX7 2).1 (TX7 2).2.1 (TX7 2).2.2.1).before args s = true := hts (.fieldLink RX7 111 "ClapOathsModel" "oaths" "I") (by decide +kernel)
  unfold f_X7_clapOn at hf
  refine lv_aload_n hx hb dX7_clapOn_0 rfl (lv_at hl 0 rfl) ?_
  refine q_get hB hW 7 in_X7 0 rfl rfl 10 (by decide) fl_31 (v := .ref a_p0_now) rfl dX7_clapOn_1 ?_
  refine lv_bipush (v := 9) hx hb dX7_clapOn_4 (by decide) ?_
  refine lv_iload_n hx hb dX7_clapOn_6 rfl (lv_at hl 1 rfl) ?_
  refine lv_imul hx hb dX7_clapOn_7 ?_
  refine lv_bipush (v := 6) hx hb dX7_clapOn_8 (by decide) ?_
  refine lv_iadd hx hb dX7_clapOn_10 ?_
  obtain ⟨r_1, hr_1, hf⟩ := bnd hf
  refine q_iald hB hW 5 rfl hr_1 dX7_clapOn_11 ?_
  refine lv_istore (lv' := [(4, .int r_1), (0, .ref a_p0), (1, .int v1), (2, .int v2), (3, .int v3)]) hx hb dX7_clapOn_12 hl (by decide) rfl (fun ls hl => ?_)
  refine lv_aload_n hx hb dX7_clapOn_14 rfl (lv_at hl 1 rfl) ?_
  refine lv_iload_n hx hb dX7_clapOn_15 rfl (lv_at hl 2 rfl) ?_
  refine lv_iload_n hx hb dX7_clapOn_16 rfl (lv_at hl 3 rfl) ?_
  refine lv_iload_n hx hb dX7_clapOn_17 rfl (lv_at hl 4 rfl) ?_
  obtain ⟨r_2, hr_2, hf⟩ := bnd hf
  refine q_callVI hB hW (ci := 7) (q0 := 0) rfl rfl rfl (As := [.int v1, .int v2, .int v3]) (rest := []) (ws' := [(a_p0, .inr (7, [.int p0_persons, .int p0_skies, .int p0_oaths, .ref a_p0_kind, .ref a_p0_skyAt, .ref a_p0_skyLoud, .ref a_p0_one, .ref a_p0_other, .ref a_p0_worth, .ref a_p0_hangs, .ref a_p0_now, .ref a_p0_readPerson, .ref a_p0_readSky, .ref a_p0_readOath, .int p0_readPersons, .int p0_readSkies, .int p0_readOaths, .ref a_p0_text, .int p0_length, .int p0_at, .int p0_faultAt, .int p0_acts, .int p0_next, .ref a_p0_row, .int p0_told, .ref a_p0_toldAt, .ref a_p0_toldWool, .ref a_p0_toldHeard, .long p0_seed, .ref a_p0_isKept, .ref a_p0_kept])), (a_p0_kind, .inl (cI, 5, .inl p0_kind)), (a_p0_one, .inl (cI, 5, .inl p0_one)), (a_p0_other, .inl (cI, 5, .inl p0_other)), (a_p0_hangs, .inl (cI, 5, .inl p0_hangs)), (a_p0_now, .inl (cI, 18, .inl p0_now))]) (c_X7_hearers l D cI cZ a_p0 a_p0_kind a_p0_skyAt a_p0_skyLoud a_p0_one a_p0_other a_p0_worth a_p0_hangs a_p0_now a_p0_readPerson a_p0_readSky a_p0_readOath a_p0_text a_p0_row a_p0_toldAt a_p0_toldWool a_p0_toldHeard a_p0_isKept a_p0_kept p0_persons p0_skies p0_oaths p0_readPersons p0_readSkies p0_readOaths p0_length p0_at p0_faultAt p0_acts p0_next p0_told p0_seed p0_kind p0_now v1 v2 v3 r_2 hr_2) (cwV 3 hts gX7_clapOn_X7_hearers rfl rfl rfl (by decide +kernel) ⟨Nat.le_of_ble_eq_true rfl, Nat.le_of_ble_eq_true rfl⟩) [0, 1, 5] rfl rfl rfl rfl rfl hl.1 rfl (Nat.le_of_ble_eq_true rfl) ⟨Nat.le_of_ble_eq_true rfl, Nat.le_of_ble_eq_true rfl⟩ dX7_clapOn_18 (fun H locs hW => ?_)
  refine lv_istore (lv' := [(5, .int r_2), (4, .int r_1), (0, .ref a_p0), (1, .int v1), (2, .int v2), (3, .int v3)]) hx hb dX7_clapOn_21 hl (by decide) rfl (fun ls hl => ?_)
  refine lv_iconst (v := 0) hx hb dX7_clapOn_23 (by decide) ?_
  refine lv_istore (lv' := [(6, .int (0 : Int32)), (5, .int r_2), (4, .int r_1), (0, .ref a_p0), (1, .int v1), (2, .int v2), (3, .int v3)]) hx hb dX7_clapOn_24 hl (by decide) rfl (fun ls hl => ?_)
  obtain ⟨e_26, hl_26, hk_26⟩ := bnd hf
  have K_26 : ∀ x_26 : Nat → Int32, x_26 = e_26 → ∀ (H : Heap) (locs : List Loc) (ls : Array Slot), Wl D A s.heap [(a_p0, .inr (7, [.int p0_persons, .int p0_skies, .int p0_oaths, .ref a_p0_kind, .ref a_p0_skyAt, .ref a_p0_skyLoud, .ref a_p0_one, .ref a_p0_other, .ref a_p0_worth, .ref a_p0_hangs, .ref a_p0_now, .ref a_p0_readPerson, .ref a_p0_readSky, .ref a_p0_readOath, .int p0_readPersons, .int p0_readSkies, .int p0_readOaths, .ref a_p0_text, .int p0_length, .int p0_at, .int p0_faultAt, .int p0_acts, .int p0_next, .ref a_p0_row, .int p0_told, .ref a_p0_toldAt, .ref a_p0_toldWool, .ref a_p0_toldHeard, .long p0_seed, .ref a_p0_isKept, .ref a_p0_kept])), (a_p0_kind, .inl (cI, 5, .inl p0_kind)), (a_p0_one, .inl (cI, 5, .inl p0_one)), (a_p0_other, .inl (cI, 5, .inl p0_other)), (a_p0_hangs, .inl (cI, 5, .inl p0_hangs)), (a_p0_now, .inl (cI, 18, .inl x_26))] H locs → lv_has ls 10 [(0, .ref a_p0), (1, .int v1), (4, .int r_1)] → W p l e (Rm 3 71) s m args below meth c H locs 0 0 Q (F0 m 158 ls []) := by
    intro x_26 hx_26 H locs ls hW hl
    have hf := hk_26
    rw [← hx_26] at hf
    refine lv_aload_n hx hb dX7_clapOn_158 rfl (lv_at hl 0 rfl) ?_
    refine lv_iload_n hx hb dX7_clapOn_159 rfl (lv_at hl 1 rfl) ?_
    obtain ⟨r_3, hr_3, hf⟩ := bnd hf
    refine q_callVV hB hW (ci := 7) (q0 := 0) rfl rfl rfl (As := [.int v1]) (rest := []) (ws' := [(a_p0, .inr (7, [.int p0_persons, .int p0_skies, .int p0_oaths, .ref a_p0_kind, .ref a_p0_skyAt, .ref a_p0_skyLoud, .ref a_p0_one, .ref a_p0_other, .ref a_p0_worth, .ref a_p0_hangs, .ref a_p0_now, .ref a_p0_readPerson, .ref a_p0_readSky, .ref a_p0_readOath, .int p0_readPersons, .int p0_readSkies, .int p0_readOaths, .ref a_p0_text, .int p0_length, .int p0_at, .int p0_faultAt, .int p0_acts, .int p0_next, .ref a_p0_row, .int p0_told, .ref a_p0_toldAt, .ref a_p0_toldWool, .ref a_p0_toldHeard, .long p0_seed, .ref a_p0_isKept, .ref a_p0_kept])), (a_p0_kind, .inl (cI, 5, .inl p0_kind)), (a_p0_one, .inl (cI, 5, .inl p0_one)), (a_p0_other, .inl (cI, 5, .inl p0_other)), (a_p0_hangs, .inl (cI, 5, .inl p0_hangs)), (a_p0_now, .inl (cI, 18, .inl r_3))]) (c_X7_fallOn l D cI cZ a_p0 a_p0_kind a_p0_skyAt a_p0_skyLoud a_p0_one a_p0_other a_p0_worth a_p0_hangs a_p0_now a_p0_readPerson a_p0_readSky a_p0_readOath a_p0_text a_p0_row a_p0_toldAt a_p0_toldWool a_p0_toldHeard a_p0_isKept a_p0_kept p0_persons p0_skies p0_oaths p0_readPersons p0_readSkies p0_readOaths p0_length p0_at p0_faultAt p0_acts p0_next p0_told p0_seed p0_hangs x_26 v1 r_3 hr_3) (cwV 1 hts gX7_clapOn_X7_fallOn rfl rfl rfl (by decide +kernel) ⟨Nat.le_of_ble_eq_true rfl, Nat.le_of_ble_eq_true rfl⟩) [0, 4, 5] rfl rfl rfl rfl rfl hl.1 rfl (Nat.le_of_ble_eq_true rfl) ⟨Nat.le_of_ble_eq_true rfl, Nat.le_of_ble_eq_true rfl⟩ dX7_clapOn_160 (fun H locs hW => ?_)
    refine lv_iload hx hb dX7_clapOn_163 (lv_at hl 2 rfl) ?_
    refine lv_aload_n hx hb dX7_clapOn_165 rfl (lv_at hl 0 rfl) ?_
    refine q_get hB hW 7 in_X7 0 rfl rfl 10 (by decide) fl_31 (v := .ref a_p0_now) rfl dX7_clapOn_166 ?_
    refine lv_bipush (v := 9) hx hb dX7_clapOn_169 (by decide) ?_
    refine lv_iload_n hx hb dX7_clapOn_171 rfl (lv_at hl 1 rfl) ?_
    refine lv_imul hx hb dX7_clapOn_172 ?_
    refine lv_bipush (v := 6) hx hb dX7_clapOn_173 (by decide) ?_
    refine lv_iadd hx hb dX7_clapOn_175 ?_
    obtain ⟨r_4, hr_4, hf⟩ := bnd hf
    refine q_iald hB hW 5 rfl hr_4 dX7_clapOn_176 ?_
    refine lv_iconst (v := -1) hx hb dX7_clapOn_177 (by decide) ?_
    refine lv_ixor hx hb dX7_clapOn_178 ?_
    refine lv_iand hx hb dX7_clapOn_179 ?_
    obtain ⟨r_5, hr_5, hf⟩ := bnd hf
    refine q_callSI hB hW (As := [.int (r_1 &&& (r_4 ^^^ (-1 : Int32)))]) (rest := []) (ws' := [(a_p0, .inr (7, [.int p0_persons, .int p0_skies, .int p0_oaths, .ref a_p0_kind, .ref a_p0_skyAt, .ref a_p0_skyLoud, .ref a_p0_one, .ref a_p0_other, .ref a_p0_worth, .ref a_p0_hangs, .ref a_p0_now, .ref a_p0_readPerson, .ref a_p0_readSky, .ref a_p0_readOath, .int p0_readPersons, .int p0_readSkies, .int p0_readOaths, .ref a_p0_text, .int p0_length, .int p0_at, .int p0_faultAt, .int p0_acts, .int p0_next, .ref a_p0_row, .int p0_told, .ref a_p0_toldAt, .ref a_p0_toldWool, .ref a_p0_toldHeard, .long p0_seed, .ref a_p0_isKept, .ref a_p0_kept])), (a_p0_kind, .inl (cI, 5, .inl p0_kind)), (a_p0_one, .inl (cI, 5, .inl p0_one)), (a_p0_other, .inl (cI, 5, .inl p0_other)), (a_p0_hangs, .inl (cI, 5, .inl p0_hangs)), (a_p0_now, .inl (cI, 18, .inl r_3))]) (c_X7_ones l D cI cZ (r_1 &&& (r_4 ^^^ (-1 : Int32))) r_5 hr_5) (va_cwS 1 hts gX7_clapOn_X7_ones rfl rfl rfl (by decide +kernel) ⟨Nat.le_of_ble_eq_true rfl, Nat.le_of_ble_eq_true rfl⟩) [] rfl rfl rfl rfl rfl hl.1 rfl (Nat.le_of_ble_eq_true rfl) ⟨Nat.le_of_ble_eq_true rfl, Nat.le_of_ble_eq_true rfl⟩ dX7_clapOn_180 (fun H locs hW => ?_)
    exact hE _ _ _ _ _ (r_5, r_3) (sm hf) hW rfl dX7_clapOn_183
  have L_26 : ∀ (n : Nat) (y26_6 : Int32) (y26_p0_now : Nat → Int32) (H : Heap) (locs : List Loc) (ls : Array Slot), itr (fun s => b_X7_clapOn_26 v1 r_1 r_2 p0_oaths p0_kind p0_one p0_other s.1 s.2) n (y26_6, y26_p0_now) = some e_26 → Wl D A s.heap [(a_p0, .inr (7, [.int p0_persons, .int p0_skies, .int p0_oaths, .ref a_p0_kind, .ref a_p0_skyAt, .ref a_p0_skyLoud, .ref a_p0_one, .ref a_p0_other, .ref a_p0_worth, .ref a_p0_hangs, .ref a_p0_now, .ref a_p0_readPerson, .ref a_p0_readSky, .ref a_p0_readOath, .int p0_readPersons, .int p0_readSkies, .int p0_readOaths, .ref a_p0_text, .int p0_length, .int p0_at, .int p0_faultAt, .int p0_acts, .int p0_next, .ref a_p0_row, .int p0_told, .ref a_p0_toldAt, .ref a_p0_toldWool, .ref a_p0_toldHeard, .long p0_seed, .ref a_p0_isKept, .ref a_p0_kept])), (a_p0_kind, .inl (cI, 5, .inl p0_kind)), (a_p0_one, .inl (cI, 5, .inl p0_one)), (a_p0_other, .inl (cI, 5, .inl p0_other)), (a_p0_hangs, .inl (cI, 5, .inl p0_hangs)), (a_p0_now, .inl (cI, 18, .inl y26_p0_now))] H locs → lv_has ls 10 [(0, .ref a_p0), (1, .int v1), (4, .int r_1), (5, .int r_2), (6, .int y26_6)] → W p l e (Rm 3 71) s m args below meth c H locs 0 0 Q (F0 m 26 ls []) := by
    intro n
    induction n with
    | zero => intro y26_6 y26_p0_now H locs ls h9; exact itr_0 h9
    | succ n ih =>
      intro y26_6 y26_p0_now H locs ls hf hW hl
      obtain ⟨o_26, hf, ho_26⟩ := itr_inv hf
      have hf : b_X7_clapOn_26 v1 r_1 r_2 p0_oaths p0_kind p0_one p0_other y26_6 y26_p0_now = some o_26 := hf
      unfold b_X7_clapOn_26 at hf
      refine lv_iload hx hb dX7_clapOn_26 (lv_at hl 4 rfl) ?_
      refine lv_aload_n hx hb dX7_clapOn_28 rfl (lv_at hl 0 rfl) ?_
      refine q_get hB hW 7 in_X7 0 rfl rfl 2 (by decide) fl_111 (v := .int p0_oaths) rfl dX7_clapOn_29 ?_
      refine lv_icmp_ge (tgt := 158) hx hb dX7_clapOn_32 (by decide) (fun c_6 => ?_) (fun c_6 => ?_)
      · have hf := it_t c_6 hf
        have h9 := o_inr hf ho_26
        exact K_26 y26_p0_now h9 _ _ _ hW (lv_sub hl [0, 1, 2] rfl)
      · have hf := it_f c_6 hf
        refine lv_iload hx hb dX7_clapOn_35 (lv_at hl 3 rfl) ?_
        refine lv_aload_n hx hb dX7_clapOn_37 rfl (lv_at hl 0 rfl) ?_
        refine q_get hB hW 7 in_X7 0 rfl rfl 6 (by decide) fl_19 (v := .ref a_p0_one) rfl dX7_clapOn_38 ?_
        refine lv_iload hx hb dX7_clapOn_41 (lv_at hl 4 rfl) ?_
        obtain ⟨r_7, hr_7, hf⟩ := bnd hf
        refine q_iald hB hW 2 rfl hr_7 dX7_clapOn_43 ?_
        obtain ⟨r_8, hr_8, hf⟩ := bnd hf
        refine q_callSZ hB hW (As := [.int r_2, .int r_7]) (rest := []) (ws' := [(a_p0, .inr (7, [.int p0_persons, .int p0_skies, .int p0_oaths, .ref a_p0_kind, .ref a_p0_skyAt, .ref a_p0_skyLoud, .ref a_p0_one, .ref a_p0_other, .ref a_p0_worth, .ref a_p0_hangs, .ref a_p0_now, .ref a_p0_readPerson, .ref a_p0_readSky, .ref a_p0_readOath, .int p0_readPersons, .int p0_readSkies, .int p0_readOaths, .ref a_p0_text, .int p0_length, .int p0_at, .int p0_faultAt, .int p0_acts, .int p0_next, .ref a_p0_row, .int p0_told, .ref a_p0_toldAt, .ref a_p0_toldWool, .ref a_p0_toldHeard, .long p0_seed, .ref a_p0_isKept, .ref a_p0_kept])), (a_p0_kind, .inl (cI, 5, .inl p0_kind)), (a_p0_one, .inl (cI, 5, .inl p0_one)), (a_p0_other, .inl (cI, 5, .inl p0_other)), (a_p0_hangs, .inl (cI, 5, .inl p0_hangs)), (a_p0_now, .inl (cI, 18, .inl y26_p0_now))]) (c_X7_has l D cI cZ r_2 r_7 r_8 hr_8) (va_cwS 2 hts gX7_clapOn_X7_has rfl rfl rfl (by decide +kernel) ⟨Nat.le_of_ble_eq_true rfl, Nat.le_of_ble_eq_true rfl⟩) [] rfl rfl rfl rfl rfl hl.1 rfl (Nat.le_of_ble_eq_true rfl) ⟨Nat.le_of_ble_eq_true rfl, Nat.le_of_ble_eq_true rfl⟩ dX7_clapOn_44 (fun hzr_8 H locs hW => ?_)
        refine lv_istore (lv' := [(7, .int r_8), (0, .ref a_p0), (1, .int v1), (4, .int r_1), (5, .int r_2), (6, .int y26_6)]) hx hb dX7_clapOn_47 hl (by decide) rfl (fun ls hl => ?_)
        refine lv_iload hx hb dX7_clapOn_49 (lv_at hl 4 rfl) ?_
        refine lv_aload_n hx hb dX7_clapOn_51 rfl (lv_at hl 1 rfl) ?_
        refine q_get hB hW 7 in_X7 0 rfl rfl 7 (by decide) fl_22 (v := .ref a_p0_other) rfl dX7_clapOn_52 ?_
        refine lv_iload hx hb dX7_clapOn_55 (lv_at hl 5 rfl) ?_
        obtain ⟨r_9, hr_9, hf⟩ := bnd hf
        refine q_iald hB hW 3 rfl hr_9 dX7_clapOn_57 ?_
        obtain ⟨r_10, hr_10, hf⟩ := bnd hf
        refine q_callSZ hB hW (As := [.int r_2, .int r_9]) (rest := []) (ws' := [(a_p0, .inr (7, [.int p0_persons, .int p0_skies, .int p0_oaths, .ref a_p0_kind, .ref a_p0_skyAt, .ref a_p0_skyLoud, .ref a_p0_one, .ref a_p0_other, .ref a_p0_worth, .ref a_p0_hangs, .ref a_p0_now, .ref a_p0_readPerson, .ref a_p0_readSky, .ref a_p0_readOath, .int p0_readPersons, .int p0_readSkies, .int p0_readOaths, .ref a_p0_text, .int p0_length, .int p0_at, .int p0_faultAt, .int p0_acts, .int p0_next, .ref a_p0_row, .int p0_told, .ref a_p0_toldAt, .ref a_p0_toldWool, .ref a_p0_toldHeard, .long p0_seed, .ref a_p0_isKept, .ref a_p0_kept])), (a_p0_kind, .inl (cI, 5, .inl p0_kind)), (a_p0_one, .inl (cI, 5, .inl p0_one)), (a_p0_other, .inl (cI, 5, .inl p0_other)), (a_p0_hangs, .inl (cI, 5, .inl p0_hangs)), (a_p0_now, .inl (cI, 18, .inl y26_p0_now))]) (c_X7_has l D cI cZ r_2 r_9 r_10 hr_10) (va_cwS 2 hts gX7_clapOn_X7_has rfl rfl rfl (by decide +kernel) ⟨Nat.le_of_ble_eq_true rfl, Nat.le_of_ble_eq_true rfl⟩) [] rfl rfl rfl rfl rfl hl.1 rfl (Nat.le_of_ble_eq_true rfl) ⟨Nat.le_of_ble_eq_true rfl, Nat.le_of_ble_eq_true rfl⟩ dX7_clapOn_58 (fun hzr_10 H locs hW => ?_)
        refine lv_istore (lv' := [(8, .int r_10), (7, .int r_8), (0, .ref a_p0), (1, .int v1), (4, .int r_1), (5, .int r_2), (6, .int y26_6)]) hx hb dX7_clapOn_61 hl (by decide) rfl (fun ls hl => ?_)
        refine lv_iload hx hb dX7_clapOn_63 (lv_at hl 1 rfl) ?_
        refine lv_if_eq (tgt := 73) hx hb dX7_clapOn_65 (by decide) (fun c_11 => ?_) (fun c_11 => ?_)
        · have hf := it_t c_11 hf
          refine lv_iload hx hb dX7_clapOn_73 (lv_at hl 1 rfl) ?_
          refine lv_if_eq (tgt := 94) hx hb dX7_clapOn_75 (by decide) (fun _ => ?_) (fun c9 => absurd c_11 c9)
          refine lv_iload hx hb dX7_clapOn_94 (lv_at hl 0 rfl) ?_
          refine lv_if_eq (tgt := 119) hx hb dX7_clapOn_96 (by decide) (fun c_12 => ?_) (fun c_12 => ?_)
          · have hf := it_t c_12 hf
            refine lv_iconst (v := 0) hx hb dX7_clapOn_119 (by decide) ?_
            refine lv_istore (lv' := [(9, .int (0 : Int32)), (8, .int r_10), (7, .int r_8), (0, .ref a_p0), (1, .int v1), (4, .int r_1), (5, .int r_2), (6, .int y26_6)]) hx hb dX7_clapOn_120 hl (by decide) rfl (fun ls hl => ?_)
            refine lv_aload_n hx hb dX7_clapOn_122 rfl (lv_at hl 3 rfl) ?_
            refine q_get hB hW 7 in_X7 0 rfl rfl 10 (by decide) fl_31 (v := .ref a_p0_now) rfl dX7_clapOn_123 ?_
            refine lv_bipush (v := 9) hx hb dX7_clapOn_126 (by decide) ?_
            refine lv_iload_n hx hb dX7_clapOn_128 rfl (lv_at hl 4 rfl) ?_
            refine lv_imul hx hb dX7_clapOn_129 ?_
            refine lv_bipush (v := 6) hx hb dX7_clapOn_130 (by decide) ?_
            refine lv_iadd hx hb dX7_clapOn_132 ?_
            refine lv_dup2_11 hx hb dX7_clapOn_133 rfl rfl ?_
            obtain ⟨r_13, hr_13, hf⟩ := bnd hf
            refine q_iald hB hW 5 rfl hr_13 dX7_clapOn_134 ?_
            refine lv_iload hx hb dX7_clapOn_135 (lv_at hl 0 rfl) ?_
            refine lv_if_eq (tgt := 149) hx hb dX7_clapOn_137 (by decide) (fun _ => ?_) (fun c9 => absurd c9 (by decide))
            refine lv_iconst (v := -1) hx hb dX7_clapOn_149 (by decide) ?_
            refine lv_iand hx hb dX7_clapOn_150 ?_
            obtain ⟨r_14, hr_14, hf⟩ := bnd hf
            refine q_iast hB hW 5 rfl hr_14 (ws' := [(a_p0, .inr (7, [.int p0_persons, .int p0_skies, .int p0_oaths, .ref a_p0_kind, .ref a_p0_skyAt, .ref a_p0_skyLoud, .ref a_p0_one, .ref a_p0_other, .ref a_p0_worth, .ref a_p0_hangs, .ref a_p0_now, .ref a_p0_readPerson, .ref a_p0_readSky, .ref a_p0_readOath, .int p0_readPersons, .int p0_readSkies, .int p0_readOaths, .ref a_p0_text, .int p0_length, .int p0_at, .int p0_faultAt, .int p0_acts, .int p0_next, .ref a_p0_row, .int p0_told, .ref a_p0_toldAt, .ref a_p0_toldWool, .ref a_p0_toldHeard, .long p0_seed, .ref a_p0_isKept, .ref a_p0_kept])), (a_p0_kind, .inl (cI, 5, .inl p0_kind)), (a_p0_one, .inl (cI, 5, .inl p0_one)), (a_p0_other, .inl (cI, 5, .inl p0_other)), (a_p0_hangs, .inl (cI, 5, .inl p0_hangs)), (a_p0_now, .inl (cI, 18, .inl r_14))]) rfl dX7_clapOn_151 (fun H locs hW => ?_)
            refine lv_iinc (v := (y26_6 + (1 : Int32))) (lv' := [(6, .int (y26_6 + (1 : Int32))), (9, .int (0 : Int32)), (8, .int r_10), (7, .int r_8), (0, .ref a_p0), (1, .int v1), (4, .int r_1), (5, .int r_2)]) hx hb dX7_clapOn_152 hl (k := 7) rfl rfl (by decide) rfl (fun ls hl => ?_)
            refine lv_goto (tgt := 26) hx hb dX7_clapOn_155 (by decide) ?_
            have h9 := o_inl hf ho_26
            exact ih (y26_6 + (1 : Int32)) r_14 _ _ _ h9 hW (lv_sub hl [4, 5, 6, 7, 0] rfl)
          · have hf := it_f c_12 hf
            refine lv_aload_n hx hb dX7_clapOn_99 rfl (lv_at hl 2 rfl) ?_
            refine q_get hB hW 7 in_X7 0 rfl rfl 3 (by decide) fl_7 (v := .ref a_p0_kind) rfl dX7_clapOn_100 ?_
            refine lv_aload_n hx hb dX7_clapOn_103 rfl (lv_at hl 2 rfl) ?_
            refine q_get hB hW 7 in_X7 0 rfl rfl 7 (by decide) fl_22 (v := .ref a_p0_other) rfl dX7_clapOn_104 ?_
            refine lv_iload hx hb dX7_clapOn_107 (lv_at hl 6 rfl) ?_
            obtain ⟨r_15, hr_15, hf⟩ := bnd hf
            refine q_iald hB hW 3 rfl hr_15 dX7_clapOn_109 ?_
            obtain ⟨r_16, hr_16, hf⟩ := bnd hf
            refine q_iald hB hW 1 rfl hr_16 dX7_clapOn_110 ?_
            refine lv_iconst (v := 3) hx hb dX7_clapOn_111 (by decide) ?_
            refine lv_icmp_ne (tgt := 119) hx hb dX7_clapOn_112 (by decide) (fun c_17 => ?_) (fun c_17 => ?_)
            · have hf := it_f c_17 hf
              refine lv_iconst (v := 0) hx hb dX7_clapOn_119 (by decide) ?_
              refine lv_istore (lv' := [(9, .int (0 : Int32)), (8, .int r_10), (7, .int r_8), (0, .ref a_p0), (1, .int v1), (4, .int r_1), (5, .int r_2), (6, .int y26_6)]) hx hb dX7_clapOn_120 hl (by decide) rfl (fun ls hl => ?_)
              refine lv_aload_n hx hb dX7_clapOn_122 rfl (lv_at hl 3 rfl) ?_
              refine q_get hB hW 7 in_X7 0 rfl rfl 10 (by decide) fl_31 (v := .ref a_p0_now) rfl dX7_clapOn_123 ?_
              refine lv_bipush (v := 9) hx hb dX7_clapOn_126 (by decide) ?_
              refine lv_iload_n hx hb dX7_clapOn_128 rfl (lv_at hl 4 rfl) ?_
              refine lv_imul hx hb dX7_clapOn_129 ?_
              refine lv_bipush (v := 6) hx hb dX7_clapOn_130 (by decide) ?_
              refine lv_iadd hx hb dX7_clapOn_132 ?_
              refine lv_dup2_11 hx hb dX7_clapOn_133 rfl rfl ?_
              obtain ⟨r_18, hr_18, hf⟩ := bnd hf
              refine q_iald hB hW 5 rfl hr_18 dX7_clapOn_134 ?_
              refine lv_iload hx hb dX7_clapOn_135 (lv_at hl 0 rfl) ?_
              refine lv_if_eq (tgt := 149) hx hb dX7_clapOn_137 (by decide) (fun _ => ?_) (fun c9 => absurd c9 (by decide))
              refine lv_iconst (v := -1) hx hb dX7_clapOn_149 (by decide) ?_
              refine lv_iand hx hb dX7_clapOn_150 ?_
              obtain ⟨r_19, hr_19, hf⟩ := bnd hf
              refine q_iast hB hW 5 rfl hr_19 (ws' := [(a_p0, .inr (7, [.int p0_persons, .int p0_skies, .int p0_oaths, .ref a_p0_kind, .ref a_p0_skyAt, .ref a_p0_skyLoud, .ref a_p0_one, .ref a_p0_other, .ref a_p0_worth, .ref a_p0_hangs, .ref a_p0_now, .ref a_p0_readPerson, .ref a_p0_readSky, .ref a_p0_readOath, .int p0_readPersons, .int p0_readSkies, .int p0_readOaths, .ref a_p0_text, .int p0_length, .int p0_at, .int p0_faultAt, .int p0_acts, .int p0_next, .ref a_p0_row, .int p0_told, .ref a_p0_toldAt, .ref a_p0_toldWool, .ref a_p0_toldHeard, .long p0_seed, .ref a_p0_isKept, .ref a_p0_kept])), (a_p0_kind, .inl (cI, 5, .inl p0_kind)), (a_p0_one, .inl (cI, 5, .inl p0_one)), (a_p0_other, .inl (cI, 5, .inl p0_other)), (a_p0_hangs, .inl (cI, 5, .inl p0_hangs)), (a_p0_now, .inl (cI, 18, .inl r_19))]) rfl dX7_clapOn_151 (fun H locs hW => ?_)
              refine lv_iinc (v := (y26_6 + (1 : Int32))) (lv' := [(6, .int (y26_6 + (1 : Int32))), (9, .int (0 : Int32)), (8, .int r_10), (7, .int r_8), (0, .ref a_p0), (1, .int v1), (4, .int r_1), (5, .int r_2)]) hx hb dX7_clapOn_152 hl (k := 7) rfl rfl (by decide) rfl (fun ls hl => ?_)
              refine lv_goto (tgt := 26) hx hb dX7_clapOn_155 (by decide) ?_
              have h9 := o_inl hf ho_26
              exact ih (y26_6 + (1 : Int32)) r_19 _ _ _ h9 hW (lv_sub hl [4, 5, 6, 7, 0] rfl)
            · have hf := it_t c_17 hf
              refine lv_iconst (v := 1) hx hb dX7_clapOn_115 (by decide) ?_
              refine lv_goto (tgt := 120) hx hb dX7_clapOn_116 (by decide) ?_
              refine lv_istore (lv' := [(9, .int (1 : Int32)), (8, .int r_10), (7, .int r_8), (0, .ref a_p0), (1, .int v1), (4, .int r_1), (5, .int r_2), (6, .int y26_6)]) hx hb dX7_clapOn_120 hl (by decide) rfl (fun ls hl => ?_)
              refine lv_aload_n hx hb dX7_clapOn_122 rfl (lv_at hl 3 rfl) ?_
              refine q_get hB hW 7 in_X7 0 rfl rfl 10 (by decide) fl_31 (v := .ref a_p0_now) rfl dX7_clapOn_123 ?_
              refine lv_bipush (v := 9) hx hb dX7_clapOn_126 (by decide) ?_
              refine lv_iload_n hx hb dX7_clapOn_128 rfl (lv_at hl 4 rfl) ?_
              refine lv_imul hx hb dX7_clapOn_129 ?_
              refine lv_bipush (v := 6) hx hb dX7_clapOn_130 (by decide) ?_
              refine lv_iadd hx hb dX7_clapOn_132 ?_
              refine lv_dup2_11 hx hb dX7_clapOn_133 rfl rfl ?_
              obtain ⟨r_20, hr_20, hf⟩ := bnd hf
              refine q_iald hB hW 5 rfl hr_20 dX7_clapOn_134 ?_
              refine lv_iload hx hb dX7_clapOn_135 (lv_at hl 0 rfl) ?_
              refine lv_if_eq (tgt := 149) hx hb dX7_clapOn_137 (by decide) (fun c9 => absurd c9 (by decide)) (fun _ => ?_)
              refine lv_iconst (v := 1) hx hb dX7_clapOn_140 (by decide) ?_
              refine lv_iload hx hb dX7_clapOn_141 (lv_at hl 7 rfl) ?_
              refine lv_ishl hx hb dX7_clapOn_143 ?_
              refine lv_iconst (v := -1) hx hb dX7_clapOn_144 (by decide) ?_
              refine lv_ixor hx hb dX7_clapOn_145 ?_
              refine lv_goto (tgt := 150) hx hb dX7_clapOn_146 (by decide) ?_
              refine lv_iand hx hb dX7_clapOn_150 ?_
              obtain ⟨r_21, hr_21, hf⟩ := bnd hf
              refine q_iast hB hW 5 rfl hr_21 (ws' := [(a_p0, .inr (7, [.int p0_persons, .int p0_skies, .int p0_oaths, .ref a_p0_kind, .ref a_p0_skyAt, .ref a_p0_skyLoud, .ref a_p0_one, .ref a_p0_other, .ref a_p0_worth, .ref a_p0_hangs, .ref a_p0_now, .ref a_p0_readPerson, .ref a_p0_readSky, .ref a_p0_readOath, .int p0_readPersons, .int p0_readSkies, .int p0_readOaths, .ref a_p0_text, .int p0_length, .int p0_at, .int p0_faultAt, .int p0_acts, .int p0_next, .ref a_p0_row, .int p0_told, .ref a_p0_toldAt, .ref a_p0_toldWool, .ref a_p0_toldHeard, .long p0_seed, .ref a_p0_isKept, .ref a_p0_kept])), (a_p0_kind, .inl (cI, 5, .inl p0_kind)), (a_p0_one, .inl (cI, 5, .inl p0_one)), (a_p0_other, .inl (cI, 5, .inl p0_other)), (a_p0_hangs, .inl (cI, 5, .inl p0_hangs)), (a_p0_now, .inl (cI, 18, .inl r_21))]) rfl dX7_clapOn_151 (fun H locs hW => ?_)
              refine lv_iinc (v := (y26_6 + (1 : Int32))) (lv' := [(6, .int (y26_6 + (1 : Int32))), (9, .int (1 : Int32)), (8, .int r_10), (7, .int r_8), (0, .ref a_p0), (1, .int v1), (4, .int r_1), (5, .int r_2)]) hx hb dX7_clapOn_152 hl (k := 7) rfl rfl (by decide) rfl (fun ls hl => ?_)
              refine lv_goto (tgt := 26) hx hb dX7_clapOn_155 (by decide) ?_
              have h9 := o_inl hf ho_26
              exact ih (y26_6 + (1 : Int32)) r_21 _ _ _ h9 hW (lv_sub hl [4, 5, 6, 7, 0] rfl)
        · have hf := it_f c_11 hf
          refine lv_iload hx hb dX7_clapOn_68 (lv_at hl 0 rfl) ?_
          refine lv_if_ne (tgt := 115) hx hb dX7_clapOn_70 (by decide) (fun c_22 => ?_) (fun c_22 => ?_)
          · have hf := it_f c_22 hf
            refine lv_iconst (v := 1) hx hb dX7_clapOn_115 (by decide) ?_
            refine lv_goto (tgt := 120) hx hb dX7_clapOn_116 (by decide) ?_
            refine lv_istore (lv' := [(9, .int (1 : Int32)), (8, .int r_10), (7, .int r_8), (0, .ref a_p0), (1, .int v1), (4, .int r_1), (5, .int r_2), (6, .int y26_6)]) hx hb dX7_clapOn_120 hl (by decide) rfl (fun ls hl => ?_)
            refine lv_aload_n hx hb dX7_clapOn_122 rfl (lv_at hl 3 rfl) ?_
            refine q_get hB hW 7 in_X7 0 rfl rfl 10 (by decide) fl_31 (v := .ref a_p0_now) rfl dX7_clapOn_123 ?_
            refine lv_bipush (v := 9) hx hb dX7_clapOn_126 (by decide) ?_
            refine lv_iload_n hx hb dX7_clapOn_128 rfl (lv_at hl 4 rfl) ?_
            refine lv_imul hx hb dX7_clapOn_129 ?_
            refine lv_bipush (v := 6) hx hb dX7_clapOn_130 (by decide) ?_
            refine lv_iadd hx hb dX7_clapOn_132 ?_
            refine lv_dup2_11 hx hb dX7_clapOn_133 rfl rfl ?_
            obtain ⟨r_23, hr_23, hf⟩ := bnd hf
            refine q_iald hB hW 5 rfl hr_23 dX7_clapOn_134 ?_
            refine lv_iload hx hb dX7_clapOn_135 (lv_at hl 0 rfl) ?_
            refine lv_if_eq (tgt := 149) hx hb dX7_clapOn_137 (by decide) (fun c9 => absurd c9 (by decide)) (fun _ => ?_)
            refine lv_iconst (v := 1) hx hb dX7_clapOn_140 (by decide) ?_
            refine lv_iload hx hb dX7_clapOn_141 (lv_at hl 7 rfl) ?_
            refine lv_ishl hx hb dX7_clapOn_143 ?_
            refine lv_iconst (v := -1) hx hb dX7_clapOn_144 (by decide) ?_
            refine lv_ixor hx hb dX7_clapOn_145 ?_
            refine lv_goto (tgt := 150) hx hb dX7_clapOn_146 (by decide) ?_
            refine lv_iand hx hb dX7_clapOn_150 ?_
            obtain ⟨r_24, hr_24, hf⟩ := bnd hf
            refine q_iast hB hW 5 rfl hr_24 (ws' := [(a_p0, .inr (7, [.int p0_persons, .int p0_skies, .int p0_oaths, .ref a_p0_kind, .ref a_p0_skyAt, .ref a_p0_skyLoud, .ref a_p0_one, .ref a_p0_other, .ref a_p0_worth, .ref a_p0_hangs, .ref a_p0_now, .ref a_p0_readPerson, .ref a_p0_readSky, .ref a_p0_readOath, .int p0_readPersons, .int p0_readSkies, .int p0_readOaths, .ref a_p0_text, .int p0_length, .int p0_at, .int p0_faultAt, .int p0_acts, .int p0_next, .ref a_p0_row, .int p0_told, .ref a_p0_toldAt, .ref a_p0_toldWool, .ref a_p0_toldHeard, .long p0_seed, .ref a_p0_isKept, .ref a_p0_kept])), (a_p0_kind, .inl (cI, 5, .inl p0_kind)), (a_p0_one, .inl (cI, 5, .inl p0_one)), (a_p0_other, .inl (cI, 5, .inl p0_other)), (a_p0_hangs, .inl (cI, 5, .inl p0_hangs)), (a_p0_now, .inl (cI, 18, .inl r_24))]) rfl dX7_clapOn_151 (fun H locs hW => ?_)
            refine lv_iinc (v := (y26_6 + (1 : Int32))) (lv' := [(6, .int (y26_6 + (1 : Int32))), (9, .int (1 : Int32)), (8, .int r_10), (7, .int r_8), (0, .ref a_p0), (1, .int v1), (4, .int r_1), (5, .int r_2)]) hx hb dX7_clapOn_152 hl (k := 7) rfl rfl (by decide) rfl (fun ls hl => ?_)
            refine lv_goto (tgt := 26) hx hb dX7_clapOn_155 (by decide) ?_
            have h9 := o_inl hf ho_26
            exact ih (y26_6 + (1 : Int32)) r_24 _ _ _ h9 hW (lv_sub hl [4, 5, 6, 7, 0] rfl)
          · have hf := it_t c_22 hf
            refine lv_iload hx hb dX7_clapOn_73 (lv_at hl 1 rfl) ?_
            refine lv_if_eq (tgt := 94) hx hb dX7_clapOn_75 (by decide) (fun c9 => absurd c9 c_11) (fun _ => ?_)
            refine lv_aload_n hx hb dX7_clapOn_78 rfl (lv_at hl 2 rfl) ?_
            refine q_get hB hW 7 in_X7 0 rfl rfl 3 (by decide) fl_7 (v := .ref a_p0_kind) rfl dX7_clapOn_79 ?_
            refine lv_aload_n hx hb dX7_clapOn_82 rfl (lv_at hl 2 rfl) ?_
            refine q_get hB hW 7 in_X7 0 rfl rfl 6 (by decide) fl_19 (v := .ref a_p0_one) rfl dX7_clapOn_83 ?_
            refine lv_iload hx hb dX7_clapOn_86 (lv_at hl 6 rfl) ?_
            obtain ⟨r_25, hr_25, hf⟩ := bnd hf
            refine q_iald hB hW 2 rfl hr_25 dX7_clapOn_88 ?_
            obtain ⟨r_26, hr_26, hf⟩ := bnd hf
            refine q_iald hB hW 1 rfl hr_26 dX7_clapOn_89 ?_
            refine lv_iconst (v := 3) hx hb dX7_clapOn_90 (by decide) ?_
            refine lv_icmp_eq (tgt := 115) hx hb dX7_clapOn_91 (by decide) (fun c_27 => ?_) (fun c_27 => ?_)
            · have hf := it_t c_27 hf
              refine lv_iconst (v := 1) hx hb dX7_clapOn_115 (by decide) ?_
              refine lv_goto (tgt := 120) hx hb dX7_clapOn_116 (by decide) ?_
              refine lv_istore (lv' := [(9, .int (1 : Int32)), (8, .int r_10), (7, .int r_8), (0, .ref a_p0), (1, .int v1), (4, .int r_1), (5, .int r_2), (6, .int y26_6)]) hx hb dX7_clapOn_120 hl (by decide) rfl (fun ls hl => ?_)
              refine lv_aload_n hx hb dX7_clapOn_122 rfl (lv_at hl 3 rfl) ?_
              refine q_get hB hW 7 in_X7 0 rfl rfl 10 (by decide) fl_31 (v := .ref a_p0_now) rfl dX7_clapOn_123 ?_
              refine lv_bipush (v := 9) hx hb dX7_clapOn_126 (by decide) ?_
              refine lv_iload_n hx hb dX7_clapOn_128 rfl (lv_at hl 4 rfl) ?_
              refine lv_imul hx hb dX7_clapOn_129 ?_
              refine lv_bipush (v := 6) hx hb dX7_clapOn_130 (by decide) ?_
              refine lv_iadd hx hb dX7_clapOn_132 ?_
              refine lv_dup2_11 hx hb dX7_clapOn_133 rfl rfl ?_
              obtain ⟨r_28, hr_28, hf⟩ := bnd hf
              refine q_iald hB hW 5 rfl hr_28 dX7_clapOn_134 ?_
              refine lv_iload hx hb dX7_clapOn_135 (lv_at hl 0 rfl) ?_
              refine lv_if_eq (tgt := 149) hx hb dX7_clapOn_137 (by decide) (fun c9 => absurd c9 (by decide)) (fun _ => ?_)
              refine lv_iconst (v := 1) hx hb dX7_clapOn_140 (by decide) ?_
              refine lv_iload hx hb dX7_clapOn_141 (lv_at hl 7 rfl) ?_
              refine lv_ishl hx hb dX7_clapOn_143 ?_
              refine lv_iconst (v := -1) hx hb dX7_clapOn_144 (by decide) ?_
              refine lv_ixor hx hb dX7_clapOn_145 ?_
              refine lv_goto (tgt := 150) hx hb dX7_clapOn_146 (by decide) ?_
              refine lv_iand hx hb dX7_clapOn_150 ?_
              obtain ⟨r_29, hr_29, hf⟩ := bnd hf
              refine q_iast hB hW 5 rfl hr_29 (ws' := [(a_p0, .inr (7, [.int p0_persons, .int p0_skies, .int p0_oaths, .ref a_p0_kind, .ref a_p0_skyAt, .ref a_p0_skyLoud, .ref a_p0_one, .ref a_p0_other, .ref a_p0_worth, .ref a_p0_hangs, .ref a_p0_now, .ref a_p0_readPerson, .ref a_p0_readSky, .ref a_p0_readOath, .int p0_readPersons, .int p0_readSkies, .int p0_readOaths, .ref a_p0_text, .int p0_length, .int p0_at, .int p0_faultAt, .int p0_acts, .int p0_next, .ref a_p0_row, .int p0_told, .ref a_p0_toldAt, .ref a_p0_toldWool, .ref a_p0_toldHeard, .long p0_seed, .ref a_p0_isKept, .ref a_p0_kept])), (a_p0_kind, .inl (cI, 5, .inl p0_kind)), (a_p0_one, .inl (cI, 5, .inl p0_one)), (a_p0_other, .inl (cI, 5, .inl p0_other)), (a_p0_hangs, .inl (cI, 5, .inl p0_hangs)), (a_p0_now, .inl (cI, 18, .inl r_29))]) rfl dX7_clapOn_151 (fun H locs hW => ?_)
              refine lv_iinc (v := (y26_6 + (1 : Int32))) (lv' := [(6, .int (y26_6 + (1 : Int32))), (9, .int (1 : Int32)), (8, .int r_10), (7, .int r_8), (0, .ref a_p0), (1, .int v1), (4, .int r_1), (5, .int r_2)]) hx hb dX7_clapOn_152 hl (k := 7) rfl rfl (by decide) rfl (fun ls hl => ?_)
              refine lv_goto (tgt := 26) hx hb dX7_clapOn_155 (by decide) ?_
              have h9 := o_inl hf ho_26
              exact ih (y26_6 + (1 : Int32)) r_29 _ _ _ h9 hW (lv_sub hl [4, 5, 6, 7, 0] rfl)
            · have hf := it_f c_27 hf
              refine lv_iload hx hb dX7_clapOn_94 (lv_at hl 0 rfl) ?_
              refine lv_if_eq (tgt := 119) hx hb dX7_clapOn_96 (by decide) (fun _ => ?_) (fun c9 => absurd c_22 c9)
              refine lv_iconst (v := 0) hx hb dX7_clapOn_119 (by decide) ?_
              refine lv_istore (lv' := [(9, .int (0 : Int32)), (8, .int r_10), (7, .int r_8), (0, .ref a_p0), (1, .int v1), (4, .int r_1), (5, .int r_2), (6, .int y26_6)]) hx hb dX7_clapOn_120 hl (by decide) rfl (fun ls hl => ?_)
              refine lv_aload_n hx hb dX7_clapOn_122 rfl (lv_at hl 3 rfl) ?_
              refine q_get hB hW 7 in_X7 0 rfl rfl 10 (by decide) fl_31 (v := .ref a_p0_now) rfl dX7_clapOn_123 ?_
              refine lv_bipush (v := 9) hx hb dX7_clapOn_126 (by decide) ?_
              refine lv_iload_n hx hb dX7_clapOn_128 rfl (lv_at hl 4 rfl) ?_
              refine lv_imul hx hb dX7_clapOn_129 ?_
              refine lv_bipush (v := 6) hx hb dX7_clapOn_130 (by decide) ?_
              refine lv_iadd hx hb dX7_clapOn_132 ?_
              refine lv_dup2_11 hx hb dX7_clapOn_133 rfl rfl ?_
              obtain ⟨r_30, hr_30, hf⟩ := bnd hf
              refine q_iald hB hW 5 rfl hr_30 dX7_clapOn_134 ?_
              refine lv_iload hx hb dX7_clapOn_135 (lv_at hl 0 rfl) ?_
              refine lv_if_eq (tgt := 149) hx hb dX7_clapOn_137 (by decide) (fun _ => ?_) (fun c9 => absurd c9 (by decide))
              refine lv_iconst (v := -1) hx hb dX7_clapOn_149 (by decide) ?_
              refine lv_iand hx hb dX7_clapOn_150 ?_
              obtain ⟨r_31, hr_31, hf⟩ := bnd hf
              refine q_iast hB hW 5 rfl hr_31 (ws' := [(a_p0, .inr (7, [.int p0_persons, .int p0_skies, .int p0_oaths, .ref a_p0_kind, .ref a_p0_skyAt, .ref a_p0_skyLoud, .ref a_p0_one, .ref a_p0_other, .ref a_p0_worth, .ref a_p0_hangs, .ref a_p0_now, .ref a_p0_readPerson, .ref a_p0_readSky, .ref a_p0_readOath, .int p0_readPersons, .int p0_readSkies, .int p0_readOaths, .ref a_p0_text, .int p0_length, .int p0_at, .int p0_faultAt, .int p0_acts, .int p0_next, .ref a_p0_row, .int p0_told, .ref a_p0_toldAt, .ref a_p0_toldWool, .ref a_p0_toldHeard, .long p0_seed, .ref a_p0_isKept, .ref a_p0_kept])), (a_p0_kind, .inl (cI, 5, .inl p0_kind)), (a_p0_one, .inl (cI, 5, .inl p0_one)), (a_p0_other, .inl (cI, 5, .inl p0_other)), (a_p0_hangs, .inl (cI, 5, .inl p0_hangs)), (a_p0_now, .inl (cI, 18, .inl r_31))]) rfl dX7_clapOn_151 (fun H locs hW => ?_)
              refine lv_iinc (v := (y26_6 + (1 : Int32))) (lv' := [(6, .int (y26_6 + (1 : Int32))), (9, .int (0 : Int32)), (8, .int r_10), (7, .int r_8), (0, .ref a_p0), (1, .int v1), (4, .int r_1), (5, .int r_2)]) hx hb dX7_clapOn_152 hl (k := 7) rfl rfl (by decide) rfl (fun ls hl => ?_)
              refine lv_goto (tgt := 26) hx hb dX7_clapOn_155 (by decide) ?_
              have h9 := o_inl hf ho_26
              exact ih (y26_6 + (1 : Int32)) r_31 _ _ _ h9 hW (lv_sub hl [4, 5, 6, 7, 0] rfl)
  exact L_26 FU (0 : Int32) p0_now _ _ _ hl_26 hW (lv_sub hl [3, 4, 2, 1, 0] rfl)
def b_X7_worthsOf_4 (v1 : Int32) (p0_oaths : Int32) (p0_worth : Nat → Int32) (v2 : Int32) (v3 : Int32) : Option ((Int32 × Int32) ⊕ (Int32)) := if p0_oaths ≤ v3 then some (.inr v2) else (f_X7_has v1 v3).bind fun r_506 => if r_506 = (0 : Int32) then (some (v2 + (0 : Int32))).bind fun w_508 => some (.inl (w_508, (v3 + (1 : Int32)))) else (ald p0_worth 5 v3).bind fun r_509 => (some (v2 + r_509)).bind fun w_510 => some (.inl (w_510, (v3 + (1 : Int32))))
def f_X7_worthsOf (v1 : Int32) (p0_oaths : Int32) (p0_worth : Nat → Int32) : Option (Int32) := (itr (fun s => b_X7_worthsOf_4 v1 p0_oaths p0_worth s.1 s.2) FU ((0 : Int32), (0 : Int32))).bind fun x_4 => some x_4
set_option maxHeartbeats 4000000 in
set_option maxRecDepth 100000 in
theorem c_X7_worthsOf (l : Launch) (D : va_G) (cI cZ : ClassId) (a_p0 a_p0_kind a_p0_skyAt a_p0_skyLoud a_p0_one a_p0_other a_p0_worth a_p0_hangs a_p0_now a_p0_readPerson a_p0_readSky a_p0_readOath a_p0_text a_p0_row a_p0_toldAt a_p0_toldWool a_p0_toldHeard a_p0_isKept a_p0_kept : Nat) (p0_persons : Int32) (p0_skies : Int32) (p0_oaths : Int32) (p0_readPersons : Int32) (p0_readSkies : Int32) (p0_readOaths : Int32) (p0_length : Int32) (p0_at : Int32) (p0_faultAt : Int32) (p0_acts : Int32) (p0_next : Int32) (p0_told : Int32) (p0_seed : Int64) (p0_worth : Nat → Int32) (v1 : Int32) (q : Int32) (hf : f_X7_worthsOf v1 p0_oaths p0_worth = some q) : CtI l D cI cZ yX7_worthsOf wsX7_worthsOf 1 21 [.ref a_p0, .int v1] [(a_p0, .inr (7, [.int p0_persons, .int p0_skies, .int p0_oaths, .ref a_p0_kind, .ref a_p0_skyAt, .ref a_p0_skyLoud, .ref a_p0_one, .ref a_p0_other, .ref a_p0_worth, .ref a_p0_hangs, .ref a_p0_now, .ref a_p0_readPerson, .ref a_p0_readSky, .ref a_p0_readOath, .int p0_readPersons, .int p0_readSkies, .int p0_readOaths, .ref a_p0_text, .int p0_length, .int p0_at, .int p0_faultAt, .int p0_acts, .int p0_next, .ref a_p0_row, .int p0_told, .ref a_p0_toldAt, .ref a_p0_toldWool, .ref a_p0_toldHeard, .long p0_seed, .ref a_p0_isKept, .ref a_p0_kept])), (a_p0_worth, .inl (cI, 5, .inl p0_worth))] (fun q => [(a_p0, .inr (7, [.int p0_persons, .int p0_skies, .int p0_oaths, .ref a_p0_kind, .ref a_p0_skyAt, .ref a_p0_skyLoud, .ref a_p0_one, .ref a_p0_other, .ref a_p0_worth, .ref a_p0_hangs, .ref a_p0_now, .ref a_p0_readPerson, .ref a_p0_readSky, .ref a_p0_readOath, .int p0_readPersons, .int p0_readSkies, .int p0_readOaths, .ref a_p0_text, .int p0_length, .int p0_at, .int p0_faultAt, .int p0_acts, .int p0_next, .ref a_p0_row, .int p0_told, .ref a_p0_toldAt, .ref a_p0_toldWool, .ref a_p0_toldHeard, .long p0_seed, .ref a_p0_isKept, .ref a_p0_kept])), (a_p0_worth, .inl (cI, 5, .inl p0_worth))]) (fun q => q) q := by
  refine CtI.of (cc := cX7_worthsOf) (maxL := 4) (plainFor_of_name (by decide)) rfl (Nat.le_of_ble_eq_true rfl) ?_
  intro p e s m args below meth c A Q H ls hB hE hW hl
  have hx := hB.1
  have hb := hB.2.1
  have hml := hB.2.2.2.1
  have hown : s.vm.findClass RX7 = some m.cls := hB.2.2.2.2.1
  have hts := hB.2.2.2.2.2.1
  have hK := hB.2.2.2.2.2.2.2.1.1
  have hl : lv_has ls 4 [(0, .ref a_p0), (1, .int v1)] := hl
  have in_X7 : ∀ w ∈ wsX70, w ∈ wsX7_worthsOf := fun w h => List.mem_cons_of_mem _ (List.mem_append_right _ h)
  have fl_25 : (Cond.fieldLink RX7 25 (TX7 8).1 (TX7 8).2.1 (TX7 8).2.2.1).before args s = true := hts (.fieldLink RX7 25 "ClapOathsModel" "worth" "[I") (by decide +kernel)
  have fl_111 : (Cond.fieldLink RX7 111 (TX7 2).1 (TX7 2).2.1 (TX7 2).2.2.1).before args s = true := hts (.fieldLink RX7 111 "ClapOathsModel" "oaths" "I") (by decide +kernel)
  unfold f_X7_worthsOf at hf
  refine lv_iconst (v := 0) hx hb dX7_worthsOf_0 (by decide) ?_
  refine lv_istore_n (lv' := [(2, .int (0 : Int32)), (0, .ref a_p0), (1, .int v1)]) hx hb dX7_worthsOf_1 rfl hl (by decide) rfl (fun ls hl => ?_)
  refine lv_iconst (v := 0) hx hb dX7_worthsOf_2 (by decide) ?_
  refine lv_istore_n (lv' := [(3, .int (0 : Int32)), (2, .int (0 : Int32)), (0, .ref a_p0), (1, .int v1)]) hx hb dX7_worthsOf_3 rfl hl (by decide) rfl (fun ls hl => ?_)
  obtain ⟨e_4, hl_4, hk_4⟩ := bnd hf
  have K_4 : ∀ x_4 : Int32, x_4 = e_4 → ∀ (H : Heap) (locs : List Loc) (ls : Array Slot), Wl D A s.heap [(a_p0, .inr (7, [.int p0_persons, .int p0_skies, .int p0_oaths, .ref a_p0_kind, .ref a_p0_skyAt, .ref a_p0_skyLoud, .ref a_p0_one, .ref a_p0_other, .ref a_p0_worth, .ref a_p0_hangs, .ref a_p0_now, .ref a_p0_readPerson, .ref a_p0_readSky, .ref a_p0_readOath, .int p0_readPersons, .int p0_readSkies, .int p0_readOaths, .ref a_p0_text, .int p0_length, .int p0_at, .int p0_faultAt, .int p0_acts, .int p0_next, .ref a_p0_row, .int p0_told, .ref a_p0_toldAt, .ref a_p0_toldWool, .ref a_p0_toldHeard, .long p0_seed, .ref a_p0_isKept, .ref a_p0_kept])), (a_p0_worth, .inl (cI, 5, .inl p0_worth))] H locs → lv_has ls 4 [(2, .int x_4)] → W p l e (Rm 1 21) s m args below meth c H locs 0 0 Q (F0 m 39 ls []) := by
    intro x_4 hx_4 H locs ls hW hl
    have hf := hk_4
    rw [← hx_4] at hf
    refine lv_iload_n hx hb dX7_worthsOf_39 rfl (lv_at hl 0 rfl) ?_
    exact hE _ _ _ _ _ x_4 (sm hf) hW rfl dX7_worthsOf_40
  have L_4 : ∀ (n : Nat) (y4_2 : Int32) (y4_3 : Int32) (H : Heap) (locs : List Loc) (ls : Array Slot), itr (fun s => b_X7_worthsOf_4 v1 p0_oaths p0_worth s.1 s.2) n (y4_2, y4_3) = some e_4 → Wl D A s.heap [(a_p0, .inr (7, [.int p0_persons, .int p0_skies, .int p0_oaths, .ref a_p0_kind, .ref a_p0_skyAt, .ref a_p0_skyLoud, .ref a_p0_one, .ref a_p0_other, .ref a_p0_worth, .ref a_p0_hangs, .ref a_p0_now, .ref a_p0_readPerson, .ref a_p0_readSky, .ref a_p0_readOath, .int p0_readPersons, .int p0_readSkies, .int p0_readOaths, .ref a_p0_text, .int p0_length, .int p0_at, .int p0_faultAt, .int p0_acts, .int p0_next, .ref a_p0_row, .int p0_told, .ref a_p0_toldAt, .ref a_p0_toldWool, .ref a_p0_toldHeard, .long p0_seed, .ref a_p0_isKept, .ref a_p0_kept])), (a_p0_worth, .inl (cI, 5, .inl p0_worth))] H locs → lv_has ls 4 [(0, .ref a_p0), (1, .int v1), (2, .int y4_2), (3, .int y4_3)] → W p l e (Rm 1 21) s m args below meth c H locs 0 0 Q (F0 m 4 ls []) := by
    intro n
    induction n with
    | zero => intro y4_2 y4_3 H locs ls h9; exact itr_0 h9
    | succ n ih =>
      intro y4_2 y4_3 H locs ls hf hW hl
      obtain ⟨o_4, hf, ho_4⟩ := itr_inv hf
      have hf : b_X7_worthsOf_4 v1 p0_oaths p0_worth y4_2 y4_3 = some o_4 := hf
      unfold b_X7_worthsOf_4 at hf
      refine lv_iload_n hx hb dX7_worthsOf_4 rfl (lv_at hl 3 rfl) ?_
      refine lv_aload_n hx hb dX7_worthsOf_5 rfl (lv_at hl 0 rfl) ?_
      refine q_get hB hW 7 in_X7 0 rfl rfl 2 (by decide) fl_111 (v := .int p0_oaths) rfl dX7_worthsOf_6 ?_
      refine lv_icmp_ge (tgt := 39) hx hb dX7_worthsOf_9 (by decide) (fun c_1 => ?_) (fun c_1 => ?_)
      · have hf := it_t c_1 hf
        have h9 := o_inr hf ho_4
        exact K_4 y4_2 h9 _ _ _ hW (lv_sub hl [2] rfl)
      · have hf := it_f c_1 hf
        refine lv_iload_n hx hb dX7_worthsOf_12 rfl (lv_at hl 2 rfl) ?_
        refine lv_iload_n hx hb dX7_worthsOf_13 rfl (lv_at hl 1 rfl) ?_
        refine lv_iload_n hx hb dX7_worthsOf_14 rfl (lv_at hl 3 rfl) ?_
        obtain ⟨r_2, hr_2, hf⟩ := bnd hf
        refine q_callSZ hB hW (As := [.int v1, .int y4_3]) (rest := [.int y4_2]) (ws' := [(a_p0, .inr (7, [.int p0_persons, .int p0_skies, .int p0_oaths, .ref a_p0_kind, .ref a_p0_skyAt, .ref a_p0_skyLoud, .ref a_p0_one, .ref a_p0_other, .ref a_p0_worth, .ref a_p0_hangs, .ref a_p0_now, .ref a_p0_readPerson, .ref a_p0_readSky, .ref a_p0_readOath, .int p0_readPersons, .int p0_readSkies, .int p0_readOaths, .ref a_p0_text, .int p0_length, .int p0_at, .int p0_faultAt, .int p0_acts, .int p0_next, .ref a_p0_row, .int p0_told, .ref a_p0_toldAt, .ref a_p0_toldWool, .ref a_p0_toldHeard, .long p0_seed, .ref a_p0_isKept, .ref a_p0_kept])), (a_p0_worth, .inl (cI, 5, .inl p0_worth))]) (c_X7_has l D cI cZ v1 y4_3 r_2 hr_2) (va_cwS 2 hts gX7_worthsOf_X7_has rfl rfl rfl (by decide +kernel) ⟨Nat.le_of_ble_eq_true rfl, Nat.le_of_ble_eq_true rfl⟩) [] rfl rfl rfl rfl rfl hl.1 rfl (Nat.le_of_ble_eq_true rfl) ⟨Nat.le_of_ble_eq_true rfl, Nat.le_of_ble_eq_true rfl⟩ dX7_worthsOf_15 (fun hzr_2 H locs hW => ?_)
        refine lv_if_eq (tgt := 30) hx hb dX7_worthsOf_18 (by decide) (fun c_3 => ?_) (fun c_3 => ?_)
        · have hf := it_t c_3 hf
          refine lv_iconst (v := 0) hx hb dX7_worthsOf_30 (by decide) ?_
          refine lv_iadd hx hb dX7_worthsOf_31 ?_
          obtain ⟨w_4, hw_4, hf⟩ := bnd hf
          refine q_nmI hw_4 ?_
          refine lv_istore_n (lv' := [(2, .int w_4), (0, .ref a_p0), (1, .int v1), (3, .int y4_3)]) hx hb dX7_worthsOf_32 rfl hl (by decide) rfl (fun ls hl => ?_)
          refine lv_iinc (v := (y4_3 + (1 : Int32))) (lv' := [(3, .int (y4_3 + (1 : Int32))), (2, .int w_4), (0, .ref a_p0), (1, .int v1)]) hx hb dX7_worthsOf_33 hl (k := 3) rfl rfl (by decide) rfl (fun ls hl => ?_)
          refine lv_goto (tgt := 4) hx hb dX7_worthsOf_36 (by decide) ?_
          have h9 := o_inl hf ho_4
          exact ih w_4 (y4_3 + (1 : Int32)) _ _ _ h9 hW (lv_sub hl [2, 3, 1, 0] rfl)
        · have hf := it_f c_3 hf
          refine lv_aload_n hx hb dX7_worthsOf_21 rfl (lv_at hl 0 rfl) ?_
          refine q_get hB hW 7 in_X7 0 rfl rfl 8 (by decide) fl_25 (v := .ref a_p0_worth) rfl dX7_worthsOf_22 ?_
          refine lv_iload_n hx hb dX7_worthsOf_25 rfl (lv_at hl 3 rfl) ?_
          obtain ⟨r_5, hr_5, hf⟩ := bnd hf
          refine q_iald hB hW 1 rfl hr_5 dX7_worthsOf_26 ?_
          refine lv_goto (tgt := 31) hx hb dX7_worthsOf_27 (by decide) ?_
          refine lv_iadd hx hb dX7_worthsOf_31 ?_
          obtain ⟨w_6, hw_6, hf⟩ := bnd hf
          refine q_nmI hw_6 ?_
          refine lv_istore_n (lv' := [(2, .int w_6), (0, .ref a_p0), (1, .int v1), (3, .int y4_3)]) hx hb dX7_worthsOf_32 rfl hl (by decide) rfl (fun ls hl => ?_)
          refine lv_iinc (v := (y4_3 + (1 : Int32))) (lv' := [(3, .int (y4_3 + (1 : Int32))), (2, .int w_6), (0, .ref a_p0), (1, .int v1)]) hx hb dX7_worthsOf_33 hl (k := 3) rfl rfl (by decide) rfl (fun ls hl => ?_)
          refine lv_goto (tgt := 4) hx hb dX7_worthsOf_36 (by decide) ?_
          have h9 := o_inl hf ho_4
          exact ih w_6 (y4_3 + (1 : Int32)) _ _ _ h9 hW (lv_sub hl [2, 3, 1, 0] rfl)
  exact L_4 FU (0 : Int32) (0 : Int32) _ _ _ hl_4 hW (lv_sub hl [2, 3, 1, 0] rfl)
def f_X7_skyOf (v1 : Int32) (p0_skies : Int32) (p0_skyAt : Nat → Int32) : Option (Int32) := if p0_skies = (0 : Int32) then some (-9 : Int32) else (rmI v1 p0_skies).bind fun r_2 => (ald p0_skyAt 5 r_2).bind fun r_3 => some r_3
set_option maxHeartbeats 4000000 in
set_option maxRecDepth 100000 in
theorem c_X7_skyOf (l : Launch) (D : va_G) (cI cZ : ClassId) (a_p0 a_p0_kind a_p0_skyAt a_p0_skyLoud a_p0_one a_p0_other a_p0_worth a_p0_hangs a_p0_now a_p0_readPerson a_p0_readSky a_p0_readOath a_p0_text a_p0_row a_p0_toldAt a_p0_toldWool a_p0_toldHeard a_p0_isKept a_p0_kept : Nat) (p0_persons : Int32) (p0_skies : Int32) (p0_oaths : Int32) (p0_readPersons : Int32) (p0_readSkies : Int32) (p0_readOaths : Int32) (p0_length : Int32) (p0_at : Int32) (p0_faultAt : Int32) (p0_acts : Int32) (p0_next : Int32) (p0_told : Int32) (p0_seed : Int64) (p0_skyAt : Nat → Int32) (v1 : Int32) (q : Int32) (hf : f_X7_skyOf v1 p0_skies p0_skyAt = some q) : CtI l D cI cZ yX7_skyOf wsX7_skyOf 0 0 [.ref a_p0, .int v1] [(a_p0, .inr (7, [.int p0_persons, .int p0_skies, .int p0_oaths, .ref a_p0_kind, .ref a_p0_skyAt, .ref a_p0_skyLoud, .ref a_p0_one, .ref a_p0_other, .ref a_p0_worth, .ref a_p0_hangs, .ref a_p0_now, .ref a_p0_readPerson, .ref a_p0_readSky, .ref a_p0_readOath, .int p0_readPersons, .int p0_readSkies, .int p0_readOaths, .ref a_p0_text, .int p0_length, .int p0_at, .int p0_faultAt, .int p0_acts, .int p0_next, .ref a_p0_row, .int p0_told, .ref a_p0_toldAt, .ref a_p0_toldWool, .ref a_p0_toldHeard, .long p0_seed, .ref a_p0_isKept, .ref a_p0_kept])), (a_p0_skyAt, .inl (cI, 5, .inl p0_skyAt))] (fun q => [(a_p0, .inr (7, [.int p0_persons, .int p0_skies, .int p0_oaths, .ref a_p0_kind, .ref a_p0_skyAt, .ref a_p0_skyLoud, .ref a_p0_one, .ref a_p0_other, .ref a_p0_worth, .ref a_p0_hangs, .ref a_p0_now, .ref a_p0_readPerson, .ref a_p0_readSky, .ref a_p0_readOath, .int p0_readPersons, .int p0_readSkies, .int p0_readOaths, .ref a_p0_text, .int p0_length, .int p0_at, .int p0_faultAt, .int p0_acts, .int p0_next, .ref a_p0_row, .int p0_told, .ref a_p0_toldAt, .ref a_p0_toldWool, .ref a_p0_toldHeard, .long p0_seed, .ref a_p0_isKept, .ref a_p0_kept])), (a_p0_skyAt, .inl (cI, 5, .inl p0_skyAt))]) (fun q => q) q := by
  refine CtI.of (cc := cX7_skyOf) (maxL := 2) (plainFor_of_name (by decide)) rfl (Nat.le_of_ble_eq_true rfl) ?_
  intro p e s m args below meth c A Q H ls hB hE hW hl
  have hx := hB.1
  have hb := hB.2.1
  have hml := hB.2.2.2.1
  have hown : s.vm.findClass RX7 = some m.cls := hB.2.2.2.2.1
  have hts := hB.2.2.2.2.2.1
  have hK := hB.2.2.2.2.2.2.2.1.1
  have hl : lv_has ls 2 [(0, .ref a_p0), (1, .int v1)] := hl
  have in_X7 : ∀ w ∈ wsX70, w ∈ wsX7_skyOf := fun w h => List.mem_cons_of_mem _ (List.mem_append_right _ h)
  have fl_13 : (Cond.fieldLink RX7 13 (TX7 4).1 (TX7 4).2.1 (TX7 4).2.2.1).before args s = true := hts (.fieldLink RX7 13 "ClapOathsModel" "skyAt" "[I") (by decide +kernel)
  have fl_108 : (Cond.fieldLink RX7 108 (TX7 1).1 (TX7 1).2.1 (TX7 1).2.2.1).before args s = true := hts (.fieldLink RX7 108 "ClapOathsModel" "skies" "I") (by decide +kernel)
  unfold f_X7_skyOf at hf
  refine lv_aload_n hx hb dX7_skyOf_0 rfl (lv_at hl 0 rfl) ?_
  refine q_get hB hW 7 in_X7 0 rfl rfl 1 (by decide) fl_108 (v := .int p0_skies) rfl dX7_skyOf_1 ?_
  refine lv_if_ne (tgt := 12) hx hb dX7_skyOf_4 (by decide) (fun c_1 => ?_) (fun c_1 => ?_)
  · have hf := it_f c_1 hf
    refine lv_aload_n hx hb dX7_skyOf_12 rfl (lv_at hl 0 rfl) ?_
    refine q_get hB hW 7 in_X7 0 rfl rfl 4 (by decide) fl_13 (v := .ref a_p0_skyAt) rfl dX7_skyOf_13 ?_
    refine lv_iload_n hx hb dX7_skyOf_16 rfl (lv_at hl 1 rfl) ?_
    refine lv_aload_n hx hb dX7_skyOf_17 rfl (lv_at hl 0 rfl) ?_
    refine q_get hB hW 7 in_X7 0 rfl rfl 1 (by decide) fl_108 (v := .int p0_skies) rfl dX7_skyOf_18 ?_
    obtain ⟨r_2, hr_2, hf⟩ := bnd hf
    refine q_irem hB hr_2 dX7_skyOf_21 ?_
    obtain ⟨r_3, hr_3, hf⟩ := bnd hf
    refine q_iald hB hW 1 rfl hr_3 dX7_skyOf_22 ?_
    exact hE _ _ _ _ _ r_3 (sm hf) hW rfl dX7_skyOf_23
  · have hf := it_t c_1 hf
    refine lv_bipush (v := -9) hx hb dX7_skyOf_7 (by decide) ?_
    refine lv_goto (tgt := 23) hx hb dX7_skyOf_9 (by decide) ?_
    exact hE _ _ _ _ _ (-9 : Int32) (sm hf) hW rfl dX7_skyOf_23
def f_X7_loudOf (v1 : Int32) (p0_skies : Int32) (p0_skyLoud : Nat → Int32) : Option (Int32) := if p0_skies = (0 : Int32) then some (0 : Int32) else (rmI v1 p0_skies).bind fun r_2 => (ald p0_skyLoud 5 r_2).bind fun r_3 => some r_3
set_option maxHeartbeats 4000000 in
set_option maxRecDepth 100000 in
theorem c_X7_loudOf (l : Launch) (D : va_G) (cI cZ : ClassId) (a_p0 a_p0_kind a_p0_skyAt a_p0_skyLoud a_p0_one a_p0_other a_p0_worth a_p0_hangs a_p0_now a_p0_readPerson a_p0_readSky a_p0_readOath a_p0_text a_p0_row a_p0_toldAt a_p0_toldWool a_p0_toldHeard a_p0_isKept a_p0_kept : Nat) (p0_persons : Int32) (p0_skies : Int32) (p0_oaths : Int32) (p0_readPersons : Int32) (p0_readSkies : Int32) (p0_readOaths : Int32) (p0_length : Int32) (p0_at : Int32) (p0_faultAt : Int32) (p0_acts : Int32) (p0_next : Int32) (p0_told : Int32) (p0_seed : Int64) (p0_skyLoud : Nat → Int32) (v1 : Int32) (q : Int32) (hf : f_X7_loudOf v1 p0_skies p0_skyLoud = some q) : CtI l D cI cZ yX7_loudOf wsX7_loudOf 0 0 [.ref a_p0, .int v1] [(a_p0, .inr (7, [.int p0_persons, .int p0_skies, .int p0_oaths, .ref a_p0_kind, .ref a_p0_skyAt, .ref a_p0_skyLoud, .ref a_p0_one, .ref a_p0_other, .ref a_p0_worth, .ref a_p0_hangs, .ref a_p0_now, .ref a_p0_readPerson, .ref a_p0_readSky, .ref a_p0_readOath, .int p0_readPersons, .int p0_readSkies, .int p0_readOaths, .ref a_p0_text, .int p0_length, .int p0_at, .int p0_faultAt, .int p0_acts, .int p0_next, .ref a_p0_row, .int p0_told, .ref a_p0_toldAt, .ref a_p0_toldWool, .ref a_p0_toldHeard, .long p0_seed, .ref a_p0_isKept, .ref a_p0_kept])), (a_p0_skyLoud, .inl (cI, 5, .inl p0_skyLoud))] (fun q => [(a_p0, .inr (7, [.int p0_persons, .int p0_skies, .int p0_oaths, .ref a_p0_kind, .ref a_p0_skyAt, .ref a_p0_skyLoud, .ref a_p0_one, .ref a_p0_other, .ref a_p0_worth, .ref a_p0_hangs, .ref a_p0_now, .ref a_p0_readPerson, .ref a_p0_readSky, .ref a_p0_readOath, .int p0_readPersons, .int p0_readSkies, .int p0_readOaths, .ref a_p0_text, .int p0_length, .int p0_at, .int p0_faultAt, .int p0_acts, .int p0_next, .ref a_p0_row, .int p0_told, .ref a_p0_toldAt, .ref a_p0_toldWool, .ref a_p0_toldHeard, .long p0_seed, .ref a_p0_isKept, .ref a_p0_kept])), (a_p0_skyLoud, .inl (cI, 5, .inl p0_skyLoud))]) (fun q => q) q := by
  refine CtI.of (cc := cX7_loudOf) (maxL := 2) (plainFor_of_name (by decide)) rfl (Nat.le_of_ble_eq_true rfl) ?_
  intro p e s m args below meth c A Q H ls hB hE hW hl
  have hx := hB.1
  have hb := hB.2.1
  have hml := hB.2.2.2.1
  have hown : s.vm.findClass RX7 = some m.cls := hB.2.2.2.2.1
  have hts := hB.2.2.2.2.2.1
  have hK := hB.2.2.2.2.2.2.2.1.1
  have hl : lv_has ls 2 [(0, .ref a_p0), (1, .int v1)] := hl
  have in_X7 : ∀ w ∈ wsX70, w ∈ wsX7_loudOf := fun w h => List.mem_cons_of_mem _ (List.mem_append_right _ h)
  have fl_16 : (Cond.fieldLink RX7 16 (TX7 5).1 (TX7 5).2.1 (TX7 5).2.2.1).before args s = true := hts (.fieldLink RX7 16 "ClapOathsModel" "skyLoud" "[I") (by decide +kernel)
  have fl_108 : (Cond.fieldLink RX7 108 (TX7 1).1 (TX7 1).2.1 (TX7 1).2.2.1).before args s = true := hts (.fieldLink RX7 108 "ClapOathsModel" "skies" "I") (by decide +kernel)
  unfold f_X7_loudOf at hf
  refine lv_aload_n hx hb dX7_loudOf_0 rfl (lv_at hl 0 rfl) ?_
  refine q_get hB hW 7 in_X7 0 rfl rfl 1 (by decide) fl_108 (v := .int p0_skies) rfl dX7_loudOf_1 ?_
  refine lv_if_ne (tgt := 11) hx hb dX7_loudOf_4 (by decide) (fun c_1 => ?_) (fun c_1 => ?_)
  · have hf := it_f c_1 hf
    refine lv_aload_n hx hb dX7_loudOf_11 rfl (lv_at hl 0 rfl) ?_
    refine q_get hB hW 7 in_X7 0 rfl rfl 5 (by decide) fl_16 (v := .ref a_p0_skyLoud) rfl dX7_loudOf_12 ?_
    refine lv_iload_n hx hb dX7_loudOf_15 rfl (lv_at hl 1 rfl) ?_
    refine lv_aload_n hx hb dX7_loudOf_16 rfl (lv_at hl 0 rfl) ?_
    refine q_get hB hW 7 in_X7 0 rfl rfl 1 (by decide) fl_108 (v := .int p0_skies) rfl dX7_loudOf_17 ?_
    obtain ⟨r_2, hr_2, hf⟩ := bnd hf
    refine q_irem hB hr_2 dX7_loudOf_20 ?_
    obtain ⟨r_3, hr_3, hf⟩ := bnd hf
    refine q_iald hB hW 1 rfl hr_3 dX7_loudOf_21 ?_
    exact hE _ _ _ _ _ r_3 (sm hf) hW rfl dX7_loudOf_22
  · have hf := it_t c_1 hf
    refine lv_iconst (v := 0) hx hb dX7_loudOf_7 (by decide) ?_
    refine lv_goto (tgt := 22) hx hb dX7_loudOf_8 (by decide) ?_
    exact hE _ _ _ _ _ (0 : Int32) (sm hf) hW rfl dX7_loudOf_22
def f_X7_passOn (v1 : Int32) (v2 : Int32) (p0_persons : Int32) (p0_skies : Int32) (p0_oaths : Int32) (p0_kind : Nat → Int32) (p0_skyAt : Nat → Int32) (p0_skyLoud : Nat → Int32) (p0_one : Nat → Int32) (p0_other : Nat → Int32) (p0_worth : Nat → Int32) (p0_hangs : Nat → Int32) (p0_now : Nat → Int32) : Option (Int32 × (Nat → Int32)) := (some ((9 : Int32) * v1)).bind fun w_1 => if v2 = (0 : Int32) then (ald p0_now 18 (w_1 + (8 : Int32))).bind fun r_3 => (f_X7_loudOf r_3 p0_skies p0_skyLoud).bind fun r_4 => (f_X7_clapOn v1 (-9 : Int32) r_4 p0_persons p0_oaths p0_kind p0_one p0_other p0_hangs p0_now).bind fun r_5 => (ald r_5.2 18 (w_1 + (7 : Int32))).bind fun r_6 => (ald r_5.2 18 (w_1 + (6 : Int32))).bind fun r_7 => (f_X7_worthsOf r_7 p0_oaths p0_worth).bind fun r_8 => (some (r_6 + r_8)).bind fun w_9 => if w_9 ≤ (9999 : Int32) then (ast r_5.2 18 (w_1 + (7 : Int32)) w_9).bind fun r_11 => (ald r_11 18 (w_1 + (8 : Int32))).bind fun r_12 => (ast r_11 18 (w_1 + (8 : Int32)) (r_12 + (1 : Int32))).bind fun r_13 => some (r_5.1, r_13) else (ast r_5.2 18 (w_1 + (7 : Int32)) (9999 : Int32)).bind fun r_14 => (ald r_14 18 (w_1 + (8 : Int32))).bind fun r_15 => (ast r_14 18 (w_1 + (8 : Int32)) (r_15 + (1 : Int32))).bind fun r_16 => some (r_5.1, r_16) else (ald p0_now 18 (w_1 + (8 : Int32))).bind fun r_17 => (f_X7_skyOf r_17 p0_skies p0_skyAt).bind fun r_18 => (ald p0_now 18 (w_1 + (8 : Int32))).bind fun r_19 => (f_X7_loudOf r_19 p0_skies p0_skyLoud).bind fun r_20 => (f_X7_clapOn v1 r_18 r_20 p0_persons p0_oaths p0_kind p0_one p0_other p0_hangs p0_now).bind fun r_21 => (ald r_21.2 18 (w_1 + (7 : Int32))).bind fun r_22 => (ald r_21.2 18 (w_1 + (6 : Int32))).bind fun r_23 => (f_X7_worthsOf r_23 p0_oaths p0_worth).bind fun r_24 => (some (r_22 + r_24)).bind fun w_25 => if w_25 ≤ (9999 : Int32) then (ast r_21.2 18 (w_1 + (7 : Int32)) w_25).bind fun r_27 => (ald r_27 18 (w_1 + (8 : Int32))).bind fun r_28 => (ast r_27 18 (w_1 + (8 : Int32)) (r_28 + (1 : Int32))).bind fun r_29 => some (r_21.1, r_29) else (ast r_21.2 18 (w_1 + (7 : Int32)) (9999 : Int32)).bind fun r_30 => (ald r_30 18 (w_1 + (8 : Int32))).bind fun r_31 => (ast r_30 18 (w_1 + (8 : Int32)) (r_31 + (1 : Int32))).bind fun r_32 => some (r_21.1, r_32)
set_option maxHeartbeats 4000000 in
set_option maxRecDepth 100000 in
theorem c_X7_passOn (l : Launch) (D : va_G) (cI cZ : ClassId) (a_p0 a_p0_kind a_p0_skyAt a_p0_skyLoud a_p0_one a_p0_other a_p0_worth a_p0_hangs a_p0_now a_p0_readPerson a_p0_readSky a_p0_readOath a_p0_text a_p0_row a_p0_toldAt a_p0_toldWool a_p0_toldHeard a_p0_isKept a_p0_kept : Nat) (p0_persons : Int32) (p0_skies : Int32) (p0_oaths : Int32) (p0_readPersons : Int32) (p0_readSkies : Int32) (p0_readOaths : Int32) (p0_length : Int32) (p0_at : Int32) (p0_faultAt : Int32) (p0_acts : Int32) (p0_next : Int32) (p0_told : Int32) (p0_seed : Int64) (p0_kind : Nat → Int32) (p0_skyAt : Nat → Int32) (p0_skyLoud : Nat → Int32) (p0_one : Nat → Int32) (p0_other : Nat → Int32) (p0_worth : Nat → Int32) (p0_hangs : Nat → Int32) (p0_now : Nat → Int32) (v1 : Int32) (v2 : Int32) (q : Int32 × (Nat → Int32)) (hf : f_X7_passOn v1 v2 p0_persons p0_skies p0_oaths p0_kind p0_skyAt p0_skyLoud p0_one p0_other p0_worth p0_hangs p0_now = some q) : CtI l D cI cZ yX7_passOn wsX7_passOn 4 100 [.ref a_p0, .int v1, .int v2] [(a_p0, .inr (7, [.int p0_persons, .int p0_skies, .int p0_oaths, .ref a_p0_kind, .ref a_p0_skyAt, .ref a_p0_skyLoud, .ref a_p0_one, .ref a_p0_other, .ref a_p0_worth, .ref a_p0_hangs, .ref a_p0_now, .ref a_p0_readPerson, .ref a_p0_readSky, .ref a_p0_readOath, .int p0_readPersons, .int p0_readSkies, .int p0_readOaths, .ref a_p0_text, .int p0_length, .int p0_at, .int p0_faultAt, .int p0_acts, .int p0_next, .ref a_p0_row, .int p0_told, .ref a_p0_toldAt, .ref a_p0_toldWool, .ref a_p0_toldHeard, .long p0_seed, .ref a_p0_isKept, .ref a_p0_kept])), (a_p0_kind, .inl (cI, 5, .inl p0_kind)), (a_p0_skyAt, .inl (cI, 5, .inl p0_skyAt)), (a_p0_skyLoud, .inl (cI, 5, .inl p0_skyLoud)), (a_p0_one, .inl (cI, 5, .inl p0_one)), (a_p0_other, .inl (cI, 5, .inl p0_other)), (a_p0_worth, .inl (cI, 5, .inl p0_worth)), (a_p0_hangs, .inl (cI, 5, .inl p0_hangs)), (a_p0_now, .inl (cI, 18, .inl p0_now))] (fun q => [(a_p0, .inr (7, [.int p0_persons, .int p0_skies, .int p0_oaths, .ref a_p0_kind, .ref a_p0_skyAt, .ref a_p0_skyLoud, .ref a_p0_one, .ref a_p0_other, .ref a_p0_worth, .ref a_p0_hangs, .ref a_p0_now, .ref a_p0_readPerson, .ref a_p0_readSky, .ref a_p0_readOath, .int p0_readPersons, .int p0_readSkies, .int p0_readOaths, .ref a_p0_text, .int p0_length, .int p0_at, .int p0_faultAt, .int p0_acts, .int p0_next, .ref a_p0_row, .int p0_told, .ref a_p0_toldAt, .ref a_p0_toldWool, .ref a_p0_toldHeard, .long p0_seed, .ref a_p0_isKept, .ref a_p0_kept])), (a_p0_kind, .inl (cI, 5, .inl p0_kind)), (a_p0_skyAt, .inl (cI, 5, .inl p0_skyAt)), (a_p0_skyLoud, .inl (cI, 5, .inl p0_skyLoud)), (a_p0_one, .inl (cI, 5, .inl p0_one)), (a_p0_other, .inl (cI, 5, .inl p0_other)), (a_p0_worth, .inl (cI, 5, .inl p0_worth)), (a_p0_hangs, .inl (cI, 5, .inl p0_hangs)), (a_p0_now, .inl (cI, 18, .inl q.2))]) (fun q => q.1) q := by
  refine CtI.of (cc := cX7_passOn) (maxL := 7) (plainFor_of_name (by decide)) rfl (Nat.le_of_ble_eq_true rfl) ?_
  intro p e s m args below meth c A Q H ls hB hE hW hl
  have hx := hB.1
  have hb := hB.2.1
  have hml := hB.2.2.2.1
  have hown : s.vm.findClass RX7 = some m.cls := hB.2.2.2.2.1
  have hts := hB.2.2.2.2.2.1
  have hK := hB.2.2.2.2.2.2.2.1.1
  have hl : lv_has ls 7 [(0, .ref a_p0), (1, .int v1), (2, .int v2)] := hl
  have in_X7 : ∀ w ∈ wsX70, w ∈ wsX7_passOn := fun w h => List.mem_cons_of_mem _ (List.mem_append_right _ h)
  have fl_31 : (Cond.fieldLink RX7 31 (TX7 10).1 (TX7 10).2.1 (TX7 10).2.2.1).before args s = true := hts (.fieldLink RX7 31 "ClapOathsModel" "now" "[I") (by decide +kernel)
  unfold f_X7_passOn at hf
  refine lv_bipush (v := 9) hx hb dX7_passOn_0 (by decide) ?_
  refine lv_iload_n hx hb dX7_passOn_2 rfl (lv_at hl 1 rfl) ?_
  refine lv_imul hx hb dX7_passOn_3 ?_
  obtain ⟨w_1, hw_1, hf⟩ := bnd hf
  refine q_nmI hw_1 ?_
  refine lv_istore_n (lv' := [(3, .int w_1), (0, .ref a_p0), (1, .int v1), (2, .int v2)]) hx hb dX7_passOn_4 rfl hl (by decide) rfl (fun ls hl => ?_)
  refine lv_iload_n hx hb dX7_passOn_5 rfl (lv_at hl 3 rfl) ?_
  refine lv_if_eq (tgt := 25) hx hb dX7_passOn_6 (by decide) (fun c_2 => ?_) (fun c_2 => ?_)
  · have hf := it_t c_2 hf
    refine lv_bipush (v := -9) hx hb dX7_passOn_25 (by decide) ?_
    refine lv_istore (lv' := [(4, .int (-9 : Int32)), (3, .int w_1), (0, .ref a_p0), (1, .int v1), (2, .int v2)]) hx hb dX7_passOn_27 hl (by decide) rfl (fun ls hl => ?_)
    refine lv_aload_n hx hb dX7_passOn_29 rfl (lv_at hl 2 rfl) ?_
    refine lv_iload_n hx hb dX7_passOn_30 rfl (lv_at hl 3 rfl) ?_
    refine lv_iload hx hb dX7_passOn_31 (lv_at hl 0 rfl) ?_
    refine lv_aload_n hx hb dX7_passOn_33 rfl (lv_at hl 2 rfl) ?_
    refine lv_aload_n hx hb dX7_passOn_34 rfl (lv_at hl 2 rfl) ?_
    refine q_get hB hW 7 in_X7 0 rfl rfl 10 (by decide) fl_31 (v := .ref a_p0_now) rfl dX7_passOn_35 ?_
    refine lv_iload_n hx hb dX7_passOn_38 rfl (lv_at hl 1 rfl) ?_
    refine lv_bipush (v := 8) hx hb dX7_passOn_39 (by decide) ?_
    refine lv_iadd hx hb dX7_passOn_41 ?_
    obtain ⟨r_3, hr_3, hf⟩ := bnd hf
    refine q_iald hB hW 8 rfl hr_3 dX7_passOn_42 ?_
    obtain ⟨r_4, hr_4, hf⟩ := bnd hf
    refine q_callVI hB hW (ci := 7) (q0 := 0) rfl rfl rfl (As := [.int r_3]) (rest := [.int (-9 : Int32), .int v1, .ref a_p0]) (ws' := [(a_p0, .inr (7, [.int p0_persons, .int p0_skies, .int p0_oaths, .ref a_p0_kind, .ref a_p0_skyAt, .ref a_p0_skyLoud, .ref a_p0_one, .ref a_p0_other, .ref a_p0_worth, .ref a_p0_hangs, .ref a_p0_now, .ref a_p0_readPerson, .ref a_p0_readSky, .ref a_p0_readOath, .int p0_readPersons, .int p0_readSkies, .int p0_readOaths, .ref a_p0_text, .int p0_length, .int p0_at, .int p0_faultAt, .int p0_acts, .int p0_next, .ref a_p0_row, .int p0_told, .ref a_p0_toldAt, .ref a_p0_toldWool, .ref a_p0_toldHeard, .long p0_seed, .ref a_p0_isKept, .ref a_p0_kept])), (a_p0_kind, .inl (cI, 5, .inl p0_kind)), (a_p0_skyAt, .inl (cI, 5, .inl p0_skyAt)), (a_p0_skyLoud, .inl (cI, 5, .inl p0_skyLoud)), (a_p0_one, .inl (cI, 5, .inl p0_one)), (a_p0_other, .inl (cI, 5, .inl p0_other)), (a_p0_worth, .inl (cI, 5, .inl p0_worth)), (a_p0_hangs, .inl (cI, 5, .inl p0_hangs)), (a_p0_now, .inl (cI, 18, .inl p0_now))]) (c_X7_loudOf l D cI cZ a_p0 a_p0_kind a_p0_skyAt a_p0_skyLoud a_p0_one a_p0_other a_p0_worth a_p0_hangs a_p0_now a_p0_readPerson a_p0_readSky a_p0_readOath a_p0_text a_p0_row a_p0_toldAt a_p0_toldWool a_p0_toldHeard a_p0_isKept a_p0_kept p0_persons p0_skies p0_oaths p0_readPersons p0_readSkies p0_readOaths p0_length p0_at p0_faultAt p0_acts p0_next p0_told p0_seed p0_skyLoud r_3 r_4 hr_4) (cwV 1 hts gX7_passOn_X7_loudOf rfl rfl rfl (by decide +kernel) ⟨Nat.le_of_ble_eq_true rfl, Nat.le_of_ble_eq_true rfl⟩) [0, 3] rfl rfl rfl rfl rfl hl.1 rfl (Nat.le_of_ble_eq_true rfl) ⟨Nat.le_of_ble_eq_true rfl, Nat.le_of_ble_eq_true rfl⟩ dX7_passOn_43 (fun H locs hW => ?_)
    obtain ⟨r_5, hr_5, hf⟩ := bnd hf
    refine q_callVI hB hW (ci := 7) (q0 := 0) rfl rfl rfl (As := [.int v1, .int (-9 : Int32), .int r_4]) (rest := []) (ws' := [(a_p0, .inr (7, [.int p0_persons, .int p0_skies, .int p0_oaths, .ref a_p0_kind, .ref a_p0_skyAt, .ref a_p0_skyLoud, .ref a_p0_one, .ref a_p0_other, .ref a_p0_worth, .ref a_p0_hangs, .ref a_p0_now, .ref a_p0_readPerson, .ref a_p0_readSky, .ref a_p0_readOath, .int p0_readPersons, .int p0_readSkies, .int p0_readOaths, .ref a_p0_text, .int p0_length, .int p0_at, .int p0_faultAt, .int p0_acts, .int p0_next, .ref a_p0_row, .int p0_told, .ref a_p0_toldAt, .ref a_p0_toldWool, .ref a_p0_toldHeard, .long p0_seed, .ref a_p0_isKept, .ref a_p0_kept])), (a_p0_kind, .inl (cI, 5, .inl p0_kind)), (a_p0_skyAt, .inl (cI, 5, .inl p0_skyAt)), (a_p0_skyLoud, .inl (cI, 5, .inl p0_skyLoud)), (a_p0_one, .inl (cI, 5, .inl p0_one)), (a_p0_other, .inl (cI, 5, .inl p0_other)), (a_p0_worth, .inl (cI, 5, .inl p0_worth)), (a_p0_hangs, .inl (cI, 5, .inl p0_hangs)), (a_p0_now, .inl (cI, 18, .inl r_5.2))]) (c_X7_clapOn l D cI cZ a_p0 a_p0_kind a_p0_skyAt a_p0_skyLoud a_p0_one a_p0_other a_p0_worth a_p0_hangs a_p0_now a_p0_readPerson a_p0_readSky a_p0_readOath a_p0_text a_p0_row a_p0_toldAt a_p0_toldWool a_p0_toldHeard a_p0_isKept a_p0_kept p0_persons p0_skies p0_oaths p0_readPersons p0_readSkies p0_readOaths p0_length p0_at p0_faultAt p0_acts p0_next p0_told p0_seed p0_kind p0_one p0_other p0_hangs p0_now v1 (-9 : Int32) r_4 r_5 hr_5) (cwV 3 hts gX7_passOn_X7_clapOn rfl rfl rfl (by decide +kernel) ⟨Nat.le_of_ble_eq_true rfl, Nat.le_of_ble_eq_true rfl⟩) [0, 1, 4, 5, 7, 8] rfl rfl rfl rfl rfl hl.1 rfl (Nat.le_of_ble_eq_true rfl) ⟨Nat.le_of_ble_eq_true rfl, Nat.le_of_ble_eq_true rfl⟩ dX7_passOn_46 (fun H locs hW => ?_)
    refine lv_istore (lv' := [(5, .int r_5.1), (4, .int (-9 : Int32)), (3, .int w_1), (0, .ref a_p0), (1, .int v1), (2, .int v2)]) hx hb dX7_passOn_49 hl (by decide) rfl (fun ls hl => ?_)
    refine lv_aload_n hx hb dX7_passOn_51 rfl (lv_at hl 3 rfl) ?_
    refine q_get hB hW 7 in_X7 0 rfl rfl 10 (by decide) fl_31 (v := .ref a_p0_now) rfl dX7_passOn_52 ?_
    refine lv_iload_n hx hb dX7_passOn_55 rfl (lv_at hl 2 rfl) ?_
    refine lv_bipush (v := 7) hx hb dX7_passOn_56 (by decide) ?_
    refine lv_iadd hx hb dX7_passOn_58 ?_
    obtain ⟨r_6, hr_6, hf⟩ := bnd hf
    refine q_iald hB hW 8 rfl hr_6 dX7_passOn_59 ?_
    refine lv_aload_n hx hb dX7_passOn_60 rfl (lv_at hl 3 rfl) ?_
    refine lv_aload_n hx hb dX7_passOn_61 rfl (lv_at hl 3 rfl) ?_
    refine q_get hB hW 7 in_X7 0 rfl rfl 10 (by decide) fl_31 (v := .ref a_p0_now) rfl dX7_passOn_62 ?_
    refine lv_iload_n hx hb dX7_passOn_65 rfl (lv_at hl 2 rfl) ?_
    refine lv_bipush (v := 6) hx hb dX7_passOn_66 (by decide) ?_
    refine lv_iadd hx hb dX7_passOn_68 ?_
    obtain ⟨r_7, hr_7, hf⟩ := bnd hf
    refine q_iald hB hW 8 rfl hr_7 dX7_passOn_69 ?_
    obtain ⟨r_8, hr_8, hf⟩ := bnd hf
    refine q_callVI hB hW (ci := 7) (q0 := 0) rfl rfl rfl (As := [.int r_7]) (rest := [.int r_6]) (ws' := [(a_p0, .inr (7, [.int p0_persons, .int p0_skies, .int p0_oaths, .ref a_p0_kind, .ref a_p0_skyAt, .ref a_p0_skyLoud, .ref a_p0_one, .ref a_p0_other, .ref a_p0_worth, .ref a_p0_hangs, .ref a_p0_now, .ref a_p0_readPerson, .ref a_p0_readSky, .ref a_p0_readOath, .int p0_readPersons, .int p0_readSkies, .int p0_readOaths, .ref a_p0_text, .int p0_length, .int p0_at, .int p0_faultAt, .int p0_acts, .int p0_next, .ref a_p0_row, .int p0_told, .ref a_p0_toldAt, .ref a_p0_toldWool, .ref a_p0_toldHeard, .long p0_seed, .ref a_p0_isKept, .ref a_p0_kept])), (a_p0_kind, .inl (cI, 5, .inl p0_kind)), (a_p0_skyAt, .inl (cI, 5, .inl p0_skyAt)), (a_p0_skyLoud, .inl (cI, 5, .inl p0_skyLoud)), (a_p0_one, .inl (cI, 5, .inl p0_one)), (a_p0_other, .inl (cI, 5, .inl p0_other)), (a_p0_worth, .inl (cI, 5, .inl p0_worth)), (a_p0_hangs, .inl (cI, 5, .inl p0_hangs)), (a_p0_now, .inl (cI, 18, .inl r_5.2))]) (c_X7_worthsOf l D cI cZ a_p0 a_p0_kind a_p0_skyAt a_p0_skyLoud a_p0_one a_p0_other a_p0_worth a_p0_hangs a_p0_now a_p0_readPerson a_p0_readSky a_p0_readOath a_p0_text a_p0_row a_p0_toldAt a_p0_toldWool a_p0_toldHeard a_p0_isKept a_p0_kept p0_persons p0_skies p0_oaths p0_readPersons p0_readSkies p0_readOaths p0_length p0_at p0_faultAt p0_acts p0_next p0_told p0_seed p0_worth r_7 r_8 hr_8) (cwV 1 hts gX7_passOn_X7_worthsOf rfl rfl rfl (by decide +kernel) ⟨Nat.le_of_ble_eq_true rfl, Nat.le_of_ble_eq_true rfl⟩) [0, 6] rfl rfl rfl rfl rfl hl.1 rfl (Nat.le_of_ble_eq_true rfl) ⟨Nat.le_of_ble_eq_true rfl, Nat.le_of_ble_eq_true rfl⟩ dX7_passOn_70 (fun H locs hW => ?_)
    refine lv_iadd hx hb dX7_passOn_73 ?_
    obtain ⟨w_9, hw_9, hf⟩ := bnd hf
    refine q_nmI hw_9 ?_
    refine lv_istore (lv' := [(6, .int w_9), (5, .int r_5.1), (4, .int (-9 : Int32)), (3, .int w_1), (0, .ref a_p0), (1, .int v1), (2, .int v2)]) hx hb dX7_passOn_74 hl (by decide) rfl (fun ls hl => ?_)
    refine lv_aload_n hx hb dX7_passOn_76 rfl (lv_at hl 4 rfl) ?_
    refine q_get hB hW 7 in_X7 0 rfl rfl 10 (by decide) fl_31 (v := .ref a_p0_now) rfl dX7_passOn_77 ?_
    refine lv_iload_n hx hb dX7_passOn_80 rfl (lv_at hl 3 rfl) ?_
    refine lv_bipush (v := 7) hx hb dX7_passOn_81 (by decide) ?_
    refine lv_iadd hx hb dX7_passOn_83 ?_
    refine lv_iload hx hb dX7_passOn_84 (lv_at hl 0 rfl) ?_
    refine lv_sipush (v := 9999) hx hb dX7_passOn_86 (by decide) ?_
    refine lv_icmp_le (tgt := 98) hx hb dX7_passOn_89 (by decide) (fun c_10 => ?_) (fun c_10 => ?_)
    · have hf := it_t c_10 hf
      refine lv_iload hx hb dX7_passOn_98 (lv_at hl 0 rfl) ?_
      obtain ⟨r_11, hr_11, hf⟩ := bnd hf
      refine q_iast hB hW 8 rfl hr_11 (ws' := [(a_p0, .inr (7, [.int p0_persons, .int p0_skies, .int p0_oaths, .ref a_p0_kind, .ref a_p0_skyAt, .ref a_p0_skyLoud, .ref a_p0_one, .ref a_p0_other, .ref a_p0_worth, .ref a_p0_hangs, .ref a_p0_now, .ref a_p0_readPerson, .ref a_p0_readSky, .ref a_p0_readOath, .int p0_readPersons, .int p0_readSkies, .int p0_readOaths, .ref a_p0_text, .int p0_length, .int p0_at, .int p0_faultAt, .int p0_acts, .int p0_next, .ref a_p0_row, .int p0_told, .ref a_p0_toldAt, .ref a_p0_toldWool, .ref a_p0_toldHeard, .long p0_seed, .ref a_p0_isKept, .ref a_p0_kept])), (a_p0_kind, .inl (cI, 5, .inl p0_kind)), (a_p0_skyAt, .inl (cI, 5, .inl p0_skyAt)), (a_p0_skyLoud, .inl (cI, 5, .inl p0_skyLoud)), (a_p0_one, .inl (cI, 5, .inl p0_one)), (a_p0_other, .inl (cI, 5, .inl p0_other)), (a_p0_worth, .inl (cI, 5, .inl p0_worth)), (a_p0_hangs, .inl (cI, 5, .inl p0_hangs)), (a_p0_now, .inl (cI, 18, .inl r_11))]) rfl dX7_passOn_100 (fun H locs hW => ?_)
      refine lv_aload_n hx hb dX7_passOn_101 rfl (lv_at hl 4 rfl) ?_
      refine q_get hB hW 7 in_X7 0 rfl rfl 10 (by decide) fl_31 (v := .ref a_p0_now) rfl dX7_passOn_102 ?_
      refine lv_iload_n hx hb dX7_passOn_105 rfl (lv_at hl 3 rfl) ?_
      refine lv_bipush (v := 8) hx hb dX7_passOn_106 (by decide) ?_
      refine lv_iadd hx hb dX7_passOn_108 ?_
      refine lv_dup2_11 hx hb dX7_passOn_109 rfl rfl ?_
      obtain ⟨r_12, hr_12, hf⟩ := bnd hf
      refine q_iald hB hW 8 rfl hr_12 dX7_passOn_110 ?_
      refine lv_iconst (v := 1) hx hb dX7_passOn_111 (by decide) ?_
      refine lv_iadd hx hb dX7_passOn_112 ?_
      obtain ⟨r_13, hr_13, hf⟩ := bnd hf
      refine q_iast hB hW 8 rfl hr_13 (ws' := [(a_p0, .inr (7, [.int p0_persons, .int p0_skies, .int p0_oaths, .ref a_p0_kind, .ref a_p0_skyAt, .ref a_p0_skyLoud, .ref a_p0_one, .ref a_p0_other, .ref a_p0_worth, .ref a_p0_hangs, .ref a_p0_now, .ref a_p0_readPerson, .ref a_p0_readSky, .ref a_p0_readOath, .int p0_readPersons, .int p0_readSkies, .int p0_readOaths, .ref a_p0_text, .int p0_length, .int p0_at, .int p0_faultAt, .int p0_acts, .int p0_next, .ref a_p0_row, .int p0_told, .ref a_p0_toldAt, .ref a_p0_toldWool, .ref a_p0_toldHeard, .long p0_seed, .ref a_p0_isKept, .ref a_p0_kept])), (a_p0_kind, .inl (cI, 5, .inl p0_kind)), (a_p0_skyAt, .inl (cI, 5, .inl p0_skyAt)), (a_p0_skyLoud, .inl (cI, 5, .inl p0_skyLoud)), (a_p0_one, .inl (cI, 5, .inl p0_one)), (a_p0_other, .inl (cI, 5, .inl p0_other)), (a_p0_worth, .inl (cI, 5, .inl p0_worth)), (a_p0_hangs, .inl (cI, 5, .inl p0_hangs)), (a_p0_now, .inl (cI, 18, .inl r_13))]) rfl dX7_passOn_113 (fun H locs hW => ?_)
      refine lv_iload hx hb dX7_passOn_114 (lv_at hl 1 rfl) ?_
      exact hE _ _ _ _ _ (r_5.1, r_13) (sm hf) hW rfl dX7_passOn_116
    · have hf := it_f c_10 hf
      refine lv_sipush (v := 9999) hx hb dX7_passOn_92 (by decide) ?_
      refine lv_goto (tgt := 100) hx hb dX7_passOn_95 (by decide) ?_
      obtain ⟨r_14, hr_14, hf⟩ := bnd hf
      refine q_iast hB hW 8 rfl hr_14 (ws' := [(a_p0, .inr (7, [.int p0_persons, .int p0_skies, .int p0_oaths, .ref a_p0_kind, .ref a_p0_skyAt, .ref a_p0_skyLoud, .ref a_p0_one, .ref a_p0_other, .ref a_p0_worth, .ref a_p0_hangs, .ref a_p0_now, .ref a_p0_readPerson, .ref a_p0_readSky, .ref a_p0_readOath, .int p0_readPersons, .int p0_readSkies, .int p0_readOaths, .ref a_p0_text, .int p0_length, .int p0_at, .int p0_faultAt, .int p0_acts, .int p0_next, .ref a_p0_row, .int p0_told, .ref a_p0_toldAt, .ref a_p0_toldWool, .ref a_p0_toldHeard, .long p0_seed, .ref a_p0_isKept, .ref a_p0_kept])), (a_p0_kind, .inl (cI, 5, .inl p0_kind)), (a_p0_skyAt, .inl (cI, 5, .inl p0_skyAt)), (a_p0_skyLoud, .inl (cI, 5, .inl p0_skyLoud)), (a_p0_one, .inl (cI, 5, .inl p0_one)), (a_p0_other, .inl (cI, 5, .inl p0_other)), (a_p0_worth, .inl (cI, 5, .inl p0_worth)), (a_p0_hangs, .inl (cI, 5, .inl p0_hangs)), (a_p0_now, .inl (cI, 18, .inl r_14))]) rfl dX7_passOn_100 (fun H locs hW => ?_)
      refine lv_aload_n hx hb dX7_passOn_101 rfl (lv_at hl 4 rfl) ?_
      refine q_get hB hW 7 in_X7 0 rfl rfl 10 (by decide) fl_31 (v := .ref a_p0_now) rfl dX7_passOn_102 ?_
      refine lv_iload_n hx hb dX7_passOn_105 rfl (lv_at hl 3 rfl) ?_
      refine lv_bipush (v := 8) hx hb dX7_passOn_106 (by decide) ?_
      refine lv_iadd hx hb dX7_passOn_108 ?_
      refine lv_dup2_11 hx hb dX7_passOn_109 rfl rfl ?_
      obtain ⟨r_15, hr_15, hf⟩ := bnd hf
      refine q_iald hB hW 8 rfl hr_15 dX7_passOn_110 ?_
      refine lv_iconst (v := 1) hx hb dX7_passOn_111 (by decide) ?_
      refine lv_iadd hx hb dX7_passOn_112 ?_
      obtain ⟨r_16, hr_16, hf⟩ := bnd hf
      refine q_iast hB hW 8 rfl hr_16 (ws' := [(a_p0, .inr (7, [.int p0_persons, .int p0_skies, .int p0_oaths, .ref a_p0_kind, .ref a_p0_skyAt, .ref a_p0_skyLoud, .ref a_p0_one, .ref a_p0_other, .ref a_p0_worth, .ref a_p0_hangs, .ref a_p0_now, .ref a_p0_readPerson, .ref a_p0_readSky, .ref a_p0_readOath, .int p0_readPersons, .int p0_readSkies, .int p0_readOaths, .ref a_p0_text, .int p0_length, .int p0_at, .int p0_faultAt, .int p0_acts, .int p0_next, .ref a_p0_row, .int p0_told, .ref a_p0_toldAt, .ref a_p0_toldWool, .ref a_p0_toldHeard, .long p0_seed, .ref a_p0_isKept, .ref a_p0_kept])), (a_p0_kind, .inl (cI, 5, .inl p0_kind)), (a_p0_skyAt, .inl (cI, 5, .inl p0_skyAt)), (a_p0_skyLoud, .inl (cI, 5, .inl p0_skyLoud)), (a_p0_one, .inl (cI, 5, .inl p0_one)), (a_p0_other, .inl (cI, 5, .inl p0_other)), (a_p0_worth, .inl (cI, 5, .inl p0_worth)), (a_p0_hangs, .inl (cI, 5, .inl p0_hangs)), (a_p0_now, .inl (cI, 18, .inl r_16))]) rfl dX7_passOn_113 (fun H locs hW => ?_)
      refine lv_iload hx hb dX7_passOn_114 (lv_at hl 1 rfl) ?_
      exact hE _ _ _ _ _ (r_5.1, r_16) (sm hf) hW rfl dX7_passOn_116
  · have hf := it_f c_2 hf
    refine lv_aload_n hx hb dX7_passOn_9 rfl (lv_at hl 1 rfl) ?_
    refine lv_aload_n hx hb dX7_passOn_10 rfl (lv_at hl 1 rfl) ?_
    refine q_get hB hW 7 in_X7 0 rfl rfl 10 (by decide) fl_31 (v := .ref a_p0_now) rfl dX7_passOn_11 ?_
    refine lv_iload_n hx hb dX7_passOn_14 rfl (lv_at hl 0 rfl) ?_
    refine lv_bipush (v := 8) hx hb dX7_passOn_15 (by decide) ?_
    refine lv_iadd hx hb dX7_passOn_17 ?_
    obtain ⟨r_17, hr_17, hf⟩ := bnd hf
    refine q_iald hB hW 8 rfl hr_17 dX7_passOn_18 ?_
    obtain ⟨r_18, hr_18, hf⟩ := bnd hf
    refine q_callVI hB hW (ci := 7) (q0 := 0) rfl rfl rfl (As := [.int r_17]) (rest := []) (ws' := [(a_p0, .inr (7, [.int p0_persons, .int p0_skies, .int p0_oaths, .ref a_p0_kind, .ref a_p0_skyAt, .ref a_p0_skyLoud, .ref a_p0_one, .ref a_p0_other, .ref a_p0_worth, .ref a_p0_hangs, .ref a_p0_now, .ref a_p0_readPerson, .ref a_p0_readSky, .ref a_p0_readOath, .int p0_readPersons, .int p0_readSkies, .int p0_readOaths, .ref a_p0_text, .int p0_length, .int p0_at, .int p0_faultAt, .int p0_acts, .int p0_next, .ref a_p0_row, .int p0_told, .ref a_p0_toldAt, .ref a_p0_toldWool, .ref a_p0_toldHeard, .long p0_seed, .ref a_p0_isKept, .ref a_p0_kept])), (a_p0_kind, .inl (cI, 5, .inl p0_kind)), (a_p0_skyAt, .inl (cI, 5, .inl p0_skyAt)), (a_p0_skyLoud, .inl (cI, 5, .inl p0_skyLoud)), (a_p0_one, .inl (cI, 5, .inl p0_one)), (a_p0_other, .inl (cI, 5, .inl p0_other)), (a_p0_worth, .inl (cI, 5, .inl p0_worth)), (a_p0_hangs, .inl (cI, 5, .inl p0_hangs)), (a_p0_now, .inl (cI, 18, .inl p0_now))]) (c_X7_skyOf l D cI cZ a_p0 a_p0_kind a_p0_skyAt a_p0_skyLoud a_p0_one a_p0_other a_p0_worth a_p0_hangs a_p0_now a_p0_readPerson a_p0_readSky a_p0_readOath a_p0_text a_p0_row a_p0_toldAt a_p0_toldWool a_p0_toldHeard a_p0_isKept a_p0_kept p0_persons p0_skies p0_oaths p0_readPersons p0_readSkies p0_readOaths p0_length p0_at p0_faultAt p0_acts p0_next p0_told p0_seed p0_skyAt r_17 r_18 hr_18) (cwV 1 hts gX7_passOn_X7_skyOf rfl rfl rfl (by decide +kernel) ⟨Nat.le_of_ble_eq_true rfl, Nat.le_of_ble_eq_true rfl⟩) [0, 2] rfl rfl rfl rfl rfl hl.1 rfl (Nat.le_of_ble_eq_true rfl) ⟨Nat.le_of_ble_eq_true rfl, Nat.le_of_ble_eq_true rfl⟩ dX7_passOn_19 (fun H locs hW => ?_)
    refine lv_goto (tgt := 27) hx hb dX7_passOn_22 (by decide) ?_
    refine lv_istore (lv' := [(4, .int r_18), (3, .int w_1), (0, .ref a_p0), (1, .int v1), (2, .int v2)]) hx hb dX7_passOn_27 hl (by decide) rfl (fun ls hl => ?_)
    refine lv_aload_n hx hb dX7_passOn_29 rfl (lv_at hl 2 rfl) ?_
    refine lv_iload_n hx hb dX7_passOn_30 rfl (lv_at hl 3 rfl) ?_
    refine lv_iload hx hb dX7_passOn_31 (lv_at hl 0 rfl) ?_
    refine lv_aload_n hx hb dX7_passOn_33 rfl (lv_at hl 2 rfl) ?_
    refine lv_aload_n hx hb dX7_passOn_34 rfl (lv_at hl 2 rfl) ?_
    refine q_get hB hW 7 in_X7 0 rfl rfl 10 (by decide) fl_31 (v := .ref a_p0_now) rfl dX7_passOn_35 ?_
    refine lv_iload_n hx hb dX7_passOn_38 rfl (lv_at hl 1 rfl) ?_
    refine lv_bipush (v := 8) hx hb dX7_passOn_39 (by decide) ?_
    refine lv_iadd hx hb dX7_passOn_41 ?_
    obtain ⟨r_19, hr_19, hf⟩ := bnd hf
    refine q_iald hB hW 8 rfl hr_19 dX7_passOn_42 ?_
    obtain ⟨r_20, hr_20, hf⟩ := bnd hf
    refine q_callVI hB hW (ci := 7) (q0 := 0) rfl rfl rfl (As := [.int r_19]) (rest := [.int r_18, .int v1, .ref a_p0]) (ws' := [(a_p0, .inr (7, [.int p0_persons, .int p0_skies, .int p0_oaths, .ref a_p0_kind, .ref a_p0_skyAt, .ref a_p0_skyLoud, .ref a_p0_one, .ref a_p0_other, .ref a_p0_worth, .ref a_p0_hangs, .ref a_p0_now, .ref a_p0_readPerson, .ref a_p0_readSky, .ref a_p0_readOath, .int p0_readPersons, .int p0_readSkies, .int p0_readOaths, .ref a_p0_text, .int p0_length, .int p0_at, .int p0_faultAt, .int p0_acts, .int p0_next, .ref a_p0_row, .int p0_told, .ref a_p0_toldAt, .ref a_p0_toldWool, .ref a_p0_toldHeard, .long p0_seed, .ref a_p0_isKept, .ref a_p0_kept])), (a_p0_kind, .inl (cI, 5, .inl p0_kind)), (a_p0_skyAt, .inl (cI, 5, .inl p0_skyAt)), (a_p0_skyLoud, .inl (cI, 5, .inl p0_skyLoud)), (a_p0_one, .inl (cI, 5, .inl p0_one)), (a_p0_other, .inl (cI, 5, .inl p0_other)), (a_p0_worth, .inl (cI, 5, .inl p0_worth)), (a_p0_hangs, .inl (cI, 5, .inl p0_hangs)), (a_p0_now, .inl (cI, 18, .inl p0_now))]) (c_X7_loudOf l D cI cZ a_p0 a_p0_kind a_p0_skyAt a_p0_skyLoud a_p0_one a_p0_other a_p0_worth a_p0_hangs a_p0_now a_p0_readPerson a_p0_readSky a_p0_readOath a_p0_text a_p0_row a_p0_toldAt a_p0_toldWool a_p0_toldHeard a_p0_isKept a_p0_kept p0_persons p0_skies p0_oaths p0_readPersons p0_readSkies p0_readOaths p0_length p0_at p0_faultAt p0_acts p0_next p0_told p0_seed p0_skyLoud r_19 r_20 hr_20) (cwV 1 hts gX7_passOn_X7_loudOf rfl rfl rfl (by decide +kernel) ⟨Nat.le_of_ble_eq_true rfl, Nat.le_of_ble_eq_true rfl⟩) [0, 3] rfl rfl rfl rfl rfl hl.1 rfl (Nat.le_of_ble_eq_true rfl) ⟨Nat.le_of_ble_eq_true rfl, Nat.le_of_ble_eq_true rfl⟩ dX7_passOn_43 (fun H locs hW => ?_)
    obtain ⟨r_21, hr_21, hf⟩ := bnd hf
    refine q_callVI hB hW (ci := 7) (q0 := 0) rfl rfl rfl (As := [.int v1, .int r_18, .int r_20]) (rest := []) (ws' := [(a_p0, .inr (7, [.int p0_persons, .int p0_skies, .int p0_oaths, .ref a_p0_kind, .ref a_p0_skyAt, .ref a_p0_skyLoud, .ref a_p0_one, .ref a_p0_other, .ref a_p0_worth, .ref a_p0_hangs, .ref a_p0_now, .ref a_p0_readPerson, .ref a_p0_readSky, .ref a_p0_readOath, .int p0_readPersons, .int p0_readSkies, .int p0_readOaths, .ref a_p0_text, .int p0_length, .int p0_at, .int p0_faultAt, .int p0_acts, .int p0_next, .ref a_p0_row, .int p0_told, .ref a_p0_toldAt, .ref a_p0_toldWool, .ref a_p0_toldHeard, .long p0_seed, .ref a_p0_isKept, .ref a_p0_kept])), (a_p0_kind, .inl (cI, 5, .inl p0_kind)), (a_p0_skyAt, .inl (cI, 5, .inl p0_skyAt)), (a_p0_skyLoud, .inl (cI, 5, .inl p0_skyLoud)), (a_p0_one, .inl (cI, 5, .inl p0_one)), (a_p0_other, .inl (cI, 5, .inl p0_other)), (a_p0_worth, .inl (cI, 5, .inl p0_worth)), (a_p0_hangs, .inl (cI, 5, .inl p0_hangs)), (a_p0_now, .inl (cI, 18, .inl r_21.2))]) (c_X7_clapOn l D cI cZ a_p0 a_p0_kind a_p0_skyAt a_p0_skyLoud a_p0_one a_p0_other a_p0_worth a_p0_hangs a_p0_now a_p0_readPerson a_p0_readSky a_p0_readOath a_p0_text a_p0_row a_p0_toldAt a_p0_toldWool a_p0_toldHeard a_p0_isKept a_p0_kept p0_persons p0_skies p0_oaths p0_readPersons p0_readSkies p0_readOaths p0_length p0_at p0_faultAt p0_acts p0_next p0_told p0_seed p0_kind p0_one p0_other p0_hangs p0_now v1 r_18 r_20 r_21 hr_21) (cwV 3 hts gX7_passOn_X7_clapOn rfl rfl rfl (by decide +kernel) ⟨Nat.le_of_ble_eq_true rfl, Nat.le_of_ble_eq_true rfl⟩) [0, 1, 4, 5, 7, 8] rfl rfl rfl rfl rfl hl.1 rfl (Nat.le_of_ble_eq_true rfl) ⟨Nat.le_of_ble_eq_true rfl, Nat.le_of_ble_eq_true rfl⟩ dX7_passOn_46 (fun H locs hW => ?_)
    refine lv_istore (lv' := [(5, .int r_21.1), (4, .int r_18), (3, .int w_1), (0, .ref a_p0), (1, .int v1), (2, .int v2)]) hx hb dX7_passOn_49 hl (by decide) rfl (fun ls hl => ?_)
    refine lv_aload_n hx hb dX7_passOn_51 rfl (lv_at hl 3 rfl) ?_
    refine q_get hB hW 7 in_X7 0 rfl rfl 10 (by decide) fl_31 (v := .ref a_p0_now) rfl dX7_passOn_52 ?_
    refine lv_iload_n hx hb dX7_passOn_55 rfl (lv_at hl 2 rfl) ?_
    refine lv_bipush (v := 7) hx hb dX7_passOn_56 (by decide) ?_
    refine lv_iadd hx hb dX7_passOn_58 ?_
    obtain ⟨r_22, hr_22, hf⟩ := bnd hf
    refine q_iald hB hW 8 rfl hr_22 dX7_passOn_59 ?_
    refine lv_aload_n hx hb dX7_passOn_60 rfl (lv_at hl 3 rfl) ?_
    refine lv_aload_n hx hb dX7_passOn_61 rfl (lv_at hl 3 rfl) ?_
    refine q_get hB hW 7 in_X7 0 rfl rfl 10 (by decide) fl_31 (v := .ref a_p0_now) rfl dX7_passOn_62 ?_
    refine lv_iload_n hx hb dX7_passOn_65 rfl (lv_at hl 2 rfl) ?_
    refine lv_bipush (v := 6) hx hb dX7_passOn_66 (by decide) ?_
    refine lv_iadd hx hb dX7_passOn_68 ?_
    obtain ⟨r_23, hr_23, hf⟩ := bnd hf
    refine q_iald hB hW 8 rfl hr_23 dX7_passOn_69 ?_
    obtain ⟨r_24, hr_24, hf⟩ := bnd hf
    refine q_callVI hB hW (ci := 7) (q0 := 0) rfl rfl rfl (As := [.int r_23]) (rest := [.int r_22]) (ws' := [(a_p0, .inr (7, [.int p0_persons, .int p0_skies, .int p0_oaths, .ref a_p0_kind, .ref a_p0_skyAt, .ref a_p0_skyLoud, .ref a_p0_one, .ref a_p0_other, .ref a_p0_worth, .ref a_p0_hangs, .ref a_p0_now, .ref a_p0_readPerson, .ref a_p0_readSky, .ref a_p0_readOath, .int p0_readPersons, .int p0_readSkies, .int p0_readOaths, .ref a_p0_text, .int p0_length, .int p0_at, .int p0_faultAt, .int p0_acts, .int p0_next, .ref a_p0_row, .int p0_told, .ref a_p0_toldAt, .ref a_p0_toldWool, .ref a_p0_toldHeard, .long p0_seed, .ref a_p0_isKept, .ref a_p0_kept])), (a_p0_kind, .inl (cI, 5, .inl p0_kind)), (a_p0_skyAt, .inl (cI, 5, .inl p0_skyAt)), (a_p0_skyLoud, .inl (cI, 5, .inl p0_skyLoud)), (a_p0_one, .inl (cI, 5, .inl p0_one)), (a_p0_other, .inl (cI, 5, .inl p0_other)), (a_p0_worth, .inl (cI, 5, .inl p0_worth)), (a_p0_hangs, .inl (cI, 5, .inl p0_hangs)), (a_p0_now, .inl (cI, 18, .inl r_21.2))]) (c_X7_worthsOf l D cI cZ a_p0 a_p0_kind a_p0_skyAt a_p0_skyLoud a_p0_one a_p0_other a_p0_worth a_p0_hangs a_p0_now a_p0_readPerson a_p0_readSky a_p0_readOath a_p0_text a_p0_row a_p0_toldAt a_p0_toldWool a_p0_toldHeard a_p0_isKept a_p0_kept p0_persons p0_skies p0_oaths p0_readPersons p0_readSkies p0_readOaths p0_length p0_at p0_faultAt p0_acts p0_next p0_told p0_seed p0_worth r_23 r_24 hr_24) (cwV 1 hts gX7_passOn_X7_worthsOf rfl rfl rfl (by decide +kernel) ⟨Nat.le_of_ble_eq_true rfl, Nat.le_of_ble_eq_true rfl⟩) [0, 6] rfl rfl rfl rfl rfl hl.1 rfl (Nat.le_of_ble_eq_true rfl) ⟨Nat.le_of_ble_eq_true rfl, Nat.le_of_ble_eq_true rfl⟩ dX7_passOn_70 (fun H locs hW => ?_)
    refine lv_iadd hx hb dX7_passOn_73 ?_
    obtain ⟨w_25, hw_25, hf⟩ := bnd hf
    refine q_nmI hw_25 ?_
    refine lv_istore (lv' := [(6, .int w_25), (5, .int r_21.1), (4, .int r_18), (3, .int w_1), (0, .ref a_p0), (1, .int v1), (2, .int v2)]) hx hb dX7_passOn_74 hl (by decide) rfl (fun ls hl => ?_)
    refine lv_aload_n hx hb dX7_passOn_76 rfl (lv_at hl 4 rfl) ?_
    refine q_get hB hW 7 in_X7 0 rfl rfl 10 (by decide) fl_31 (v := .ref a_p0_now) rfl dX7_passOn_77 ?_
    refine lv_iload_n hx hb dX7_passOn_80 rfl (lv_at hl 3 rfl) ?_
    refine lv_bipush (v := 7) hx hb dX7_passOn_81 (by decide) ?_
    refine lv_iadd hx hb dX7_passOn_83 ?_
    refine lv_iload hx hb dX7_passOn_84 (lv_at hl 0 rfl) ?_
    refine lv_sipush (v := 9999) hx hb dX7_passOn_86 (by decide) ?_
    refine lv_icmp_le (tgt := 98) hx hb dX7_passOn_89 (by decide) (fun c_26 => ?_) (fun c_26 => ?_)
    · have hf := it_t c_26 hf
      refine lv_iload hx hb dX7_passOn_98 (lv_at hl 0 rfl) ?_
      obtain ⟨r_27, hr_27, hf⟩ := bnd hf
      refine q_iast hB hW 8 rfl hr_27 (ws' := [(a_p0, .inr (7, [.int p0_persons, .int p0_skies, .int p0_oaths, .ref a_p0_kind, .ref a_p0_skyAt, .ref a_p0_skyLoud, .ref a_p0_one, .ref a_p0_other, .ref a_p0_worth, .ref a_p0_hangs, .ref a_p0_now, .ref a_p0_readPerson, .ref a_p0_readSky, .ref a_p0_readOath, .int p0_readPersons, .int p0_readSkies, .int p0_readOaths, .ref a_p0_text, .int p0_length, .int p0_at, .int p0_faultAt, .int p0_acts, .int p0_next, .ref a_p0_row, .int p0_told, .ref a_p0_toldAt, .ref a_p0_toldWool, .ref a_p0_toldHeard, .long p0_seed, .ref a_p0_isKept, .ref a_p0_kept])), (a_p0_kind, .inl (cI, 5, .inl p0_kind)), (a_p0_skyAt, .inl (cI, 5, .inl p0_skyAt)), (a_p0_skyLoud, .inl (cI, 5, .inl p0_skyLoud)), (a_p0_one, .inl (cI, 5, .inl p0_one)), (a_p0_other, .inl (cI, 5, .inl p0_other)), (a_p0_worth, .inl (cI, 5, .inl p0_worth)), (a_p0_hangs, .inl (cI, 5, .inl p0_hangs)), (a_p0_now, .inl (cI, 18, .inl r_27))]) rfl dX7_passOn_100 (fun H locs hW => ?_)
      refine lv_aload_n hx hb dX7_passOn_101 rfl (lv_at hl 4 rfl) ?_
      refine q_get hB hW 7 in_X7 0 rfl rfl 10 (by decide) fl_31 (v := .ref a_p0_now) rfl dX7_passOn_102 ?_
      refine lv_iload_n hx hb dX7_passOn_105 rfl (lv_at hl 3 rfl) ?_
      refine lv_bipush (v := 8) hx hb dX7_passOn_106 (by decide) ?_
      refine lv_iadd hx hb dX7_passOn_108 ?_
      refine lv_dup2_11 hx hb dX7_passOn_109 rfl rfl ?_
      obtain ⟨r_28, hr_28, hf⟩ := bnd hf
      refine q_iald hB hW 8 rfl hr_28 dX7_passOn_110 ?_
      refine lv_iconst (v := 1) hx hb dX7_passOn_111 (by decide) ?_
      refine lv_iadd hx hb dX7_passOn_112 ?_
      obtain ⟨r_29, hr_29, hf⟩ := bnd hf
      refine q_iast hB hW 8 rfl hr_29 (ws' := [(a_p0, .inr (7, [.int p0_persons, .int p0_skies, .int p0_oaths, .ref a_p0_kind, .ref a_p0_skyAt, .ref a_p0_skyLoud, .ref a_p0_one, .ref a_p0_other, .ref a_p0_worth, .ref a_p0_hangs, .ref a_p0_now, .ref a_p0_readPerson, .ref a_p0_readSky, .ref a_p0_readOath, .int p0_readPersons, .int p0_readSkies, .int p0_readOaths, .ref a_p0_text, .int p0_length, .int p0_at, .int p0_faultAt, .int p0_acts, .int p0_next, .ref a_p0_row, .int p0_told, .ref a_p0_toldAt, .ref a_p0_toldWool, .ref a_p0_toldHeard, .long p0_seed, .ref a_p0_isKept, .ref a_p0_kept])), (a_p0_kind, .inl (cI, 5, .inl p0_kind)), (a_p0_skyAt, .inl (cI, 5, .inl p0_skyAt)), (a_p0_skyLoud, .inl (cI, 5, .inl p0_skyLoud)), (a_p0_one, .inl (cI, 5, .inl p0_one)), (a_p0_other, .inl (cI, 5, .inl p0_other)), (a_p0_worth, .inl (cI, 5, .inl p0_worth)), (a_p0_hangs, .inl (cI, 5, .inl p0_hangs)), (a_p0_now, .inl (cI, 18, .inl r_29))]) rfl dX7_passOn_113 (fun H locs hW => ?_)
      refine lv_iload hx hb dX7_passOn_114 (lv_at hl 1 rfl) ?_
      exact hE _ _ _ _ _ (r_21.1, r_29) (sm hf) hW rfl dX7_passOn_116
    · have hf := it_f c_26 hf
      refine lv_sipush (v := 9999) hx hb dX7_passOn_92 (by decide) ?_
      refine lv_goto (tgt := 100) hx hb dX7_passOn_95 (by decide) ?_
      obtain ⟨r_30, hr_30, hf⟩ := bnd hf
      refine q_iast hB hW 8 rfl hr_30 (ws' := [(a_p0, .inr (7, [.int p0_persons, .int p0_skies, .int p0_oaths, .ref a_p0_kind, .ref a_p0_skyAt, .ref a_p0_skyLoud, .ref a_p0_one, .ref a_p0_other, .ref a_p0_worth, .ref a_p0_hangs, .ref a_p0_now, .ref a_p0_readPerson, .ref a_p0_readSky, .ref a_p0_readOath, .int p0_readPersons, .int p0_readSkies, .int p0_readOaths, .ref a_p0_text, .int p0_length, .int p0_at, .int p0_faultAt, .int p0_acts, .int p0_next, .ref a_p0_row, .int p0_told, .ref a_p0_toldAt, .ref a_p0_toldWool, .ref a_p0_toldHeard, .long p0_seed, .ref a_p0_isKept, .ref a_p0_kept])), (a_p0_kind, .inl (cI, 5, .inl p0_kind)), (a_p0_skyAt, .inl (cI, 5, .inl p0_skyAt)), (a_p0_skyLoud, .inl (cI, 5, .inl p0_skyLoud)), (a_p0_one, .inl (cI, 5, .inl p0_one)), (a_p0_other, .inl (cI, 5, .inl p0_other)), (a_p0_worth, .inl (cI, 5, .inl p0_worth)), (a_p0_hangs, .inl (cI, 5, .inl p0_hangs)), (a_p0_now, .inl (cI, 18, .inl r_30))]) rfl dX7_passOn_100 (fun H locs hW => ?_)
      refine lv_aload_n hx hb dX7_passOn_101 rfl (lv_at hl 4 rfl) ?_
      refine q_get hB hW 7 in_X7 0 rfl rfl 10 (by decide) fl_31 (v := .ref a_p0_now) rfl dX7_passOn_102 ?_
      refine lv_iload_n hx hb dX7_passOn_105 rfl (lv_at hl 3 rfl) ?_
      refine lv_bipush (v := 8) hx hb dX7_passOn_106 (by decide) ?_
      refine lv_iadd hx hb dX7_passOn_108 ?_
      refine lv_dup2_11 hx hb dX7_passOn_109 rfl rfl ?_
      obtain ⟨r_31, hr_31, hf⟩ := bnd hf
      refine q_iald hB hW 8 rfl hr_31 dX7_passOn_110 ?_
      refine lv_iconst (v := 1) hx hb dX7_passOn_111 (by decide) ?_
      refine lv_iadd hx hb dX7_passOn_112 ?_
      obtain ⟨r_32, hr_32, hf⟩ := bnd hf
      refine q_iast hB hW 8 rfl hr_32 (ws' := [(a_p0, .inr (7, [.int p0_persons, .int p0_skies, .int p0_oaths, .ref a_p0_kind, .ref a_p0_skyAt, .ref a_p0_skyLoud, .ref a_p0_one, .ref a_p0_other, .ref a_p0_worth, .ref a_p0_hangs, .ref a_p0_now, .ref a_p0_readPerson, .ref a_p0_readSky, .ref a_p0_readOath, .int p0_readPersons, .int p0_readSkies, .int p0_readOaths, .ref a_p0_text, .int p0_length, .int p0_at, .int p0_faultAt, .int p0_acts, .int p0_next, .ref a_p0_row, .int p0_told, .ref a_p0_toldAt, .ref a_p0_toldWool, .ref a_p0_toldHeard, .long p0_seed, .ref a_p0_isKept, .ref a_p0_kept])), (a_p0_kind, .inl (cI, 5, .inl p0_kind)), (a_p0_skyAt, .inl (cI, 5, .inl p0_skyAt)), (a_p0_skyLoud, .inl (cI, 5, .inl p0_skyLoud)), (a_p0_one, .inl (cI, 5, .inl p0_one)), (a_p0_other, .inl (cI, 5, .inl p0_other)), (a_p0_worth, .inl (cI, 5, .inl p0_worth)), (a_p0_hangs, .inl (cI, 5, .inl p0_hangs)), (a_p0_now, .inl (cI, 18, .inl r_32))]) rfl dX7_passOn_113 (fun H locs hW => ?_)
      refine lv_iload hx hb dX7_passOn_114 (lv_at hl 1 rfl) ?_
      exact hE _ _ _ _ _ (r_21.1, r_32) (sm hf) hW rfl dX7_passOn_116
def f_X7_canSwear (v1 : Int32) (v2 : Int32) (p0_oaths : Int32) (p0_hangs : Nat → Int32) (p0_now : Nat → Int32) : Option (Int32) := (ald p0_now 18 (((9 : Int32) * v1) + (6 : Int32))).bind fun r_1 => (f_X7_isOath v2 p0_oaths).bind fun r_2 => if r_2 = (0 : Int32) then some (0 : Int32) else (f_X7_has r_1 v2).bind fun r_4 => if r_4 = (0 : Int32) then (ald p0_hangs 5 v2).bind fun r_6 => if r_6 = (-9 : Int32) then some (1 : Int32) else (ald p0_hangs 5 v2).bind fun r_8 => (f_X7_has r_1 r_8).bind fun r_9 => if r_9 = (0 : Int32) then some (0 : Int32) else some (1 : Int32) else some (0 : Int32)
set_option maxHeartbeats 4000000 in
set_option maxRecDepth 100000 in
theorem c_X7_canSwear (l : Launch) (D : va_G) (cI cZ : ClassId) (a_p0 a_p0_kind a_p0_skyAt a_p0_skyLoud a_p0_one a_p0_other a_p0_worth a_p0_hangs a_p0_now a_p0_readPerson a_p0_readSky a_p0_readOath a_p0_text a_p0_row a_p0_toldAt a_p0_toldWool a_p0_toldHeard a_p0_isKept a_p0_kept : Nat) (p0_persons : Int32) (p0_skies : Int32) (p0_oaths : Int32) (p0_readPersons : Int32) (p0_readSkies : Int32) (p0_readOaths : Int32) (p0_length : Int32) (p0_at : Int32) (p0_faultAt : Int32) (p0_acts : Int32) (p0_next : Int32) (p0_told : Int32) (p0_seed : Int64) (p0_hangs : Nat → Int32) (p0_now : Nat → Int32) (v1 : Int32) (v2 : Int32) (q : Int32) (hf : f_X7_canSwear v1 v2 p0_oaths p0_hangs p0_now = some q) : CtZ l D cI cZ yX7_canSwear wsX7_canSwear 2 46 [.ref a_p0, .int v1, .int v2] [(a_p0, .inr (7, [.int p0_persons, .int p0_skies, .int p0_oaths, .ref a_p0_kind, .ref a_p0_skyAt, .ref a_p0_skyLoud, .ref a_p0_one, .ref a_p0_other, .ref a_p0_worth, .ref a_p0_hangs, .ref a_p0_now, .ref a_p0_readPerson, .ref a_p0_readSky, .ref a_p0_readOath, .int p0_readPersons, .int p0_readSkies, .int p0_readOaths, .ref a_p0_text, .int p0_length, .int p0_at, .int p0_faultAt, .int p0_acts, .int p0_next, .ref a_p0_row, .int p0_told, .ref a_p0_toldAt, .ref a_p0_toldWool, .ref a_p0_toldHeard, .long p0_seed, .ref a_p0_isKept, .ref a_p0_kept])), (a_p0_hangs, .inl (cI, 5, .inl p0_hangs)), (a_p0_now, .inl (cI, 18, .inl p0_now))] (fun q => [(a_p0, .inr (7, [.int p0_persons, .int p0_skies, .int p0_oaths, .ref a_p0_kind, .ref a_p0_skyAt, .ref a_p0_skyLoud, .ref a_p0_one, .ref a_p0_other, .ref a_p0_worth, .ref a_p0_hangs, .ref a_p0_now, .ref a_p0_readPerson, .ref a_p0_readSky, .ref a_p0_readOath, .int p0_readPersons, .int p0_readSkies, .int p0_readOaths, .ref a_p0_text, .int p0_length, .int p0_at, .int p0_faultAt, .int p0_acts, .int p0_next, .ref a_p0_row, .int p0_told, .ref a_p0_toldAt, .ref a_p0_toldWool, .ref a_p0_toldHeard, .long p0_seed, .ref a_p0_isKept, .ref a_p0_kept])), (a_p0_hangs, .inl (cI, 5, .inl p0_hangs)), (a_p0_now, .inl (cI, 18, .inl p0_now))]) (fun q => q) q := by
  refine CtZ.of (cc := cX7_canSwear) (maxL := 4) (plainFor_of_name (by decide)) rfl (Nat.le_of_ble_eq_true rfl) ?_
  intro p e s m args below meth c A Q H ls hB hE hW hl
  have hx := hB.1
  have hb := hB.2.1
  have hml := hB.2.2.2.1
  have hown : s.vm.findClass RX7 = some m.cls := hB.2.2.2.2.1
  have hts := hB.2.2.2.2.2.1
  have hK := hB.2.2.2.2.2.2.2.1.1
  have hl : lv_has ls 4 [(0, .ref a_p0), (1, .int v1), (2, .int v2)] := hl
  have in_X7 : ∀ w ∈ wsX70, w ∈ wsX7_canSwear := fun w h => List.mem_cons_of_mem _ (List.mem_append_right _ h)
  have fl_28 : (Cond.fieldLink RX7 28 (TX7 9).1 (TX7 9).2.1 (TX7 9).2.2.1).before args s = true := hts (.fieldLink RX7 28 "ClapOathsModel" "hangs" "[I") (by decide +kernel)
  have fl_31 : (Cond.fieldLink RX7 31 (TX7 10).1 (TX7 10).2.1 (TX7 10).2.2.1).before args s = true := hts (.fieldLink RX7 31 "ClapOathsModel" "now" "[I") (by decide +kernel)
  unfold f_X7_canSwear at hf
  refine lv_aload_n hx hb dX7_canSwear_0 rfl (lv_at hl 0 rfl) ?_
  refine q_get hB hW 7 in_X7 0 rfl rfl 10 (by decide) fl_31 (v := .ref a_p0_now) rfl dX7_canSwear_1 ?_
  refine lv_bipush (v := 9) hx hb dX7_canSwear_4 (by decide) ?_
  refine lv_iload_n hx hb dX7_canSwear_6 rfl (lv_at hl 1 rfl) ?_
  refine lv_imul hx hb dX7_canSwear_7 ?_
  refine lv_bipush (v := 6) hx hb dX7_canSwear_8 (by decide) ?_
  refine lv_iadd hx hb dX7_canSwear_10 ?_
  obtain ⟨r_1, hr_1, hf⟩ := bnd hf
  refine q_iald hB hW 2 rfl hr_1 dX7_canSwear_11 ?_
  refine lv_istore_n (lv' := [(3, .int r_1), (0, .ref a_p0), (1, .int v1), (2, .int v2)]) hx hb dX7_canSwear_12 rfl hl (by decide) rfl (fun ls hl => ?_)
  refine lv_aload_n hx hb dX7_canSwear_13 rfl (lv_at hl 1 rfl) ?_
  refine lv_iload_n hx hb dX7_canSwear_14 rfl (lv_at hl 3 rfl) ?_
  obtain ⟨r_2, hr_2, hf⟩ := bnd hf
  refine q_callVZ hB hW (ci := 7) (q0 := 0) rfl rfl rfl (As := [.int v2]) (rest := []) (ws' := [(a_p0, .inr (7, [.int p0_persons, .int p0_skies, .int p0_oaths, .ref a_p0_kind, .ref a_p0_skyAt, .ref a_p0_skyLoud, .ref a_p0_one, .ref a_p0_other, .ref a_p0_worth, .ref a_p0_hangs, .ref a_p0_now, .ref a_p0_readPerson, .ref a_p0_readSky, .ref a_p0_readOath, .int p0_readPersons, .int p0_readSkies, .int p0_readOaths, .ref a_p0_text, .int p0_length, .int p0_at, .int p0_faultAt, .int p0_acts, .int p0_next, .ref a_p0_row, .int p0_told, .ref a_p0_toldAt, .ref a_p0_toldWool, .ref a_p0_toldHeard, .long p0_seed, .ref a_p0_isKept, .ref a_p0_kept])), (a_p0_hangs, .inl (cI, 5, .inl p0_hangs)), (a_p0_now, .inl (cI, 18, .inl p0_now))]) (c_X7_isOath l D cI cZ a_p0 a_p0_kind a_p0_skyAt a_p0_skyLoud a_p0_one a_p0_other a_p0_worth a_p0_hangs a_p0_now a_p0_readPerson a_p0_readSky a_p0_readOath a_p0_text a_p0_row a_p0_toldAt a_p0_toldWool a_p0_toldHeard a_p0_isKept a_p0_kept p0_persons p0_skies p0_oaths p0_readPersons p0_readSkies p0_readOaths p0_length p0_at p0_faultAt p0_acts p0_next p0_told p0_seed v2 r_2 hr_2) (cwV 1 hts gX7_canSwear_X7_isOath rfl rfl rfl (by decide +kernel) ⟨Nat.le_of_ble_eq_true rfl, Nat.le_of_ble_eq_true rfl⟩) [0] rfl rfl rfl rfl rfl hl.1 rfl (Nat.le_of_ble_eq_true rfl) ⟨Nat.le_of_ble_eq_true rfl, Nat.le_of_ble_eq_true rfl⟩ dX7_canSwear_15 (fun hzr_2 H locs hW => ?_)
  refine lv_if_eq (tgt := 57) hx hb dX7_canSwear_18 (by decide) (fun c_3 => ?_) (fun c_3 => ?_)
  · have hf := it_t c_3 hf
    refine lv_iconst (v := 0) hx hb dX7_canSwear_57 (by decide) ?_
    exact hE _ _ _ _ _ (0 : Int32) (sm hf) hW rfl nz_0 dX7_canSwear_58
  · have hf := it_f c_3 hf
    refine lv_iload_n hx hb dX7_canSwear_21 rfl (lv_at hl 0 rfl) ?_
    refine lv_iload_n hx hb dX7_canSwear_22 rfl (lv_at hl 3 rfl) ?_
    obtain ⟨r_4, hr_4, hf⟩ := bnd hf
    refine q_callSZ hB hW (As := [.int r_1, .int v2]) (rest := []) (ws' := [(a_p0, .inr (7, [.int p0_persons, .int p0_skies, .int p0_oaths, .ref a_p0_kind, .ref a_p0_skyAt, .ref a_p0_skyLoud, .ref a_p0_one, .ref a_p0_other, .ref a_p0_worth, .ref a_p0_hangs, .ref a_p0_now, .ref a_p0_readPerson, .ref a_p0_readSky, .ref a_p0_readOath, .int p0_readPersons, .int p0_readSkies, .int p0_readOaths, .ref a_p0_text, .int p0_length, .int p0_at, .int p0_faultAt, .int p0_acts, .int p0_next, .ref a_p0_row, .int p0_told, .ref a_p0_toldAt, .ref a_p0_toldWool, .ref a_p0_toldHeard, .long p0_seed, .ref a_p0_isKept, .ref a_p0_kept])), (a_p0_hangs, .inl (cI, 5, .inl p0_hangs)), (a_p0_now, .inl (cI, 18, .inl p0_now))]) (c_X7_has l D cI cZ r_1 v2 r_4 hr_4) (va_cwS 2 hts gX7_canSwear_X7_has rfl rfl rfl (by decide +kernel) ⟨Nat.le_of_ble_eq_true rfl, Nat.le_of_ble_eq_true rfl⟩) [] rfl rfl rfl rfl rfl hl.1 rfl (Nat.le_of_ble_eq_true rfl) ⟨Nat.le_of_ble_eq_true rfl, Nat.le_of_ble_eq_true rfl⟩ dX7_canSwear_23 (fun hzr_4 H locs hW => ?_)
    refine lv_if_ne (tgt := 57) hx hb dX7_canSwear_26 (by decide) (fun c_5 => ?_) (fun c_5 => ?_)
    · have hf := it_f c_5 hf
      refine lv_iconst (v := 0) hx hb dX7_canSwear_57 (by decide) ?_
      exact hE _ _ _ _ _ (0 : Int32) (sm hf) hW rfl nz_0 dX7_canSwear_58
    · have hf := it_t c_5 hf
      refine lv_aload_n hx hb dX7_canSwear_29 rfl (lv_at hl 1 rfl) ?_
      refine q_get hB hW 7 in_X7 0 rfl rfl 9 (by decide) fl_28 (v := .ref a_p0_hangs) rfl dX7_canSwear_30 ?_
      refine lv_iload_n hx hb dX7_canSwear_33 rfl (lv_at hl 3 rfl) ?_
      obtain ⟨r_6, hr_6, hf⟩ := bnd hf
      refine q_iald hB hW 1 rfl hr_6 dX7_canSwear_34 ?_
      refine lv_bipush (v := -9) hx hb dX7_canSwear_35 (by decide) ?_
      refine lv_icmp_eq (tgt := 53) hx hb dX7_canSwear_37 (by decide) (fun c_7 => ?_) (fun c_7 => ?_)
      · have hf := it_t c_7 hf
        refine lv_iconst (v := 1) hx hb dX7_canSwear_53 (by decide) ?_
        refine lv_goto (tgt := 58) hx hb dX7_canSwear_54 (by decide) ?_
        exact hE _ _ _ _ _ (1 : Int32) (sm hf) hW rfl nz_1 dX7_canSwear_58
      · have hf := it_f c_7 hf
        refine lv_iload_n hx hb dX7_canSwear_40 rfl (lv_at hl 0 rfl) ?_
        refine lv_aload_n hx hb dX7_canSwear_41 rfl (lv_at hl 1 rfl) ?_
        refine q_get hB hW 7 in_X7 0 rfl rfl 9 (by decide) fl_28 (v := .ref a_p0_hangs) rfl dX7_canSwear_42 ?_
        refine lv_iload_n hx hb dX7_canSwear_45 rfl (lv_at hl 3 rfl) ?_
        obtain ⟨r_8, hr_8, hf⟩ := bnd hf
        refine q_iald hB hW 1 rfl hr_8 dX7_canSwear_46 ?_
        obtain ⟨r_9, hr_9, hf⟩ := bnd hf
        refine q_callSZ hB hW (As := [.int r_1, .int r_8]) (rest := []) (ws' := [(a_p0, .inr (7, [.int p0_persons, .int p0_skies, .int p0_oaths, .ref a_p0_kind, .ref a_p0_skyAt, .ref a_p0_skyLoud, .ref a_p0_one, .ref a_p0_other, .ref a_p0_worth, .ref a_p0_hangs, .ref a_p0_now, .ref a_p0_readPerson, .ref a_p0_readSky, .ref a_p0_readOath, .int p0_readPersons, .int p0_readSkies, .int p0_readOaths, .ref a_p0_text, .int p0_length, .int p0_at, .int p0_faultAt, .int p0_acts, .int p0_next, .ref a_p0_row, .int p0_told, .ref a_p0_toldAt, .ref a_p0_toldWool, .ref a_p0_toldHeard, .long p0_seed, .ref a_p0_isKept, .ref a_p0_kept])), (a_p0_hangs, .inl (cI, 5, .inl p0_hangs)), (a_p0_now, .inl (cI, 18, .inl p0_now))]) (c_X7_has l D cI cZ r_1 r_8 r_9 hr_9) (va_cwS 2 hts gX7_canSwear_X7_has rfl rfl rfl (by decide +kernel) ⟨Nat.le_of_ble_eq_true rfl, Nat.le_of_ble_eq_true rfl⟩) [] rfl rfl rfl rfl rfl hl.1 rfl (Nat.le_of_ble_eq_true rfl) ⟨Nat.le_of_ble_eq_true rfl, Nat.le_of_ble_eq_true rfl⟩ dX7_canSwear_47 (fun hzr_9 H locs hW => ?_)
        refine lv_if_eq (tgt := 57) hx hb dX7_canSwear_50 (by decide) (fun c_10 => ?_) (fun c_10 => ?_)
        · have hf := it_t c_10 hf
          refine lv_iconst (v := 0) hx hb dX7_canSwear_57 (by decide) ?_
          exact hE _ _ _ _ _ (0 : Int32) (sm hf) hW rfl nz_0 dX7_canSwear_58
        · have hf := it_f c_10 hf
          refine lv_iconst (v := 1) hx hb dX7_canSwear_53 (by decide) ?_
          refine lv_goto (tgt := 58) hx hb dX7_canSwear_54 (by decide) ?_
          exact hE _ _ _ _ _ (1 : Int32) (sm hf) hW rfl nz_1 dX7_canSwear_58
def f_X7_formOn (v1 : Int32) (v2 : Int32) (p0_oaths : Int32) (p0_hangs : Nat → Int32) (p0_now : Nat → Int32) : Option (Int32 × (Nat → Int32)) := (ald p0_now 18 (((9 : Int32) * v1) + (6 : Int32))).bind fun r_1 => (ald p0_now 18 (((9 : Int32) * v1) + (6 : Int32))).bind fun r_2 => (ast p0_now 18 (((9 : Int32) * v1) + (6 : Int32)) (r_2 &&& (((1 : Int32) <<< (v2 &&& 31)) ^^^ (-1 : Int32)))).bind fun r_3 => (f_X7_fallOn v1 p0_oaths p0_hangs r_3).bind fun r_4 => (ald r_4 18 (((9 : Int32) * v1) + (6 : Int32))).bind fun r_5 => (f_X7_ones (r_1 &&& (r_5 ^^^ (-1 : Int32)))).bind fun r_6 => some (r_6, r_4)
set_option maxHeartbeats 4000000 in
set_option maxRecDepth 100000 in
theorem c_X7_formOn (l : Launch) (D : va_G) (cI cZ : ClassId) (a_p0 a_p0_kind a_p0_skyAt a_p0_skyLoud a_p0_one a_p0_other a_p0_worth a_p0_hangs a_p0_now a_p0_readPerson a_p0_readSky a_p0_readOath a_p0_text a_p0_row a_p0_toldAt a_p0_toldWool a_p0_toldHeard a_p0_isKept a_p0_kept : Nat) (p0_persons : Int32) (p0_skies : Int32) (p0_oaths : Int32) (p0_readPersons : Int32) (p0_readSkies : Int32) (p0_readOaths : Int32) (p0_length : Int32) (p0_at : Int32) (p0_faultAt : Int32) (p0_acts : Int32) (p0_next : Int32) (p0_told : Int32) (p0_seed : Int64) (p0_hangs : Nat → Int32) (p0_now : Nat → Int32) (v1 : Int32) (v2 : Int32) (q : Int32 × (Nat → Int32)) (hf : f_X7_formOn v1 v2 p0_oaths p0_hangs p0_now = some q) : CtI l D cI cZ yX7_formOn wsX7_formOn 2 44 [.ref a_p0, .int v1, .int v2] [(a_p0, .inr (7, [.int p0_persons, .int p0_skies, .int p0_oaths, .ref a_p0_kind, .ref a_p0_skyAt, .ref a_p0_skyLoud, .ref a_p0_one, .ref a_p0_other, .ref a_p0_worth, .ref a_p0_hangs, .ref a_p0_now, .ref a_p0_readPerson, .ref a_p0_readSky, .ref a_p0_readOath, .int p0_readPersons, .int p0_readSkies, .int p0_readOaths, .ref a_p0_text, .int p0_length, .int p0_at, .int p0_faultAt, .int p0_acts, .int p0_next, .ref a_p0_row, .int p0_told, .ref a_p0_toldAt, .ref a_p0_toldWool, .ref a_p0_toldHeard, .long p0_seed, .ref a_p0_isKept, .ref a_p0_kept])), (a_p0_hangs, .inl (cI, 5, .inl p0_hangs)), (a_p0_now, .inl (cI, 18, .inl p0_now))] (fun q => [(a_p0, .inr (7, [.int p0_persons, .int p0_skies, .int p0_oaths, .ref a_p0_kind, .ref a_p0_skyAt, .ref a_p0_skyLoud, .ref a_p0_one, .ref a_p0_other, .ref a_p0_worth, .ref a_p0_hangs, .ref a_p0_now, .ref a_p0_readPerson, .ref a_p0_readSky, .ref a_p0_readOath, .int p0_readPersons, .int p0_readSkies, .int p0_readOaths, .ref a_p0_text, .int p0_length, .int p0_at, .int p0_faultAt, .int p0_acts, .int p0_next, .ref a_p0_row, .int p0_told, .ref a_p0_toldAt, .ref a_p0_toldWool, .ref a_p0_toldHeard, .long p0_seed, .ref a_p0_isKept, .ref a_p0_kept])), (a_p0_hangs, .inl (cI, 5, .inl p0_hangs)), (a_p0_now, .inl (cI, 18, .inl q.2))]) (fun q => q.1) q := by
  refine CtI.of (cc := cX7_formOn) (maxL := 4) (plainFor_of_name (by decide)) rfl (Nat.le_of_ble_eq_true rfl) ?_
  intro p e s m args below meth c A Q H ls hB hE hW hl
  have hx := hB.1
  have hb := hB.2.1
  have hml := hB.2.2.2.1
  have hown : s.vm.findClass RX7 = some m.cls := hB.2.2.2.2.1
  have hts := hB.2.2.2.2.2.1
  have hK := hB.2.2.2.2.2.2.2.1.1
  have hl : lv_has ls 4 [(0, .ref a_p0), (1, .int v1), (2, .int v2)] := hl
  have in_X7 : ∀ w ∈ wsX70, w ∈ wsX7_formOn := fun w h => List.mem_cons_of_mem _ (List.mem_append_right _ h)
  have fl_31 : (Cond.fieldLink RX7 31 (TX7 10).1 (TX7 10).2.1 (TX7 10).2.2.1).before args s = true := hts (.fieldLink RX7 31 "ClapOathsModel" "now" "[I") (by decide +kernel)
  unfold f_X7_formOn at hf
  refine lv_aload_n hx hb dX7_formOn_0 rfl (lv_at hl 0 rfl) ?_
  refine q_get hB hW 7 in_X7 0 rfl rfl 10 (by decide) fl_31 (v := .ref a_p0_now) rfl dX7_formOn_1 ?_
  refine lv_bipush (v := 9) hx hb dX7_formOn_4 (by decide) ?_
  refine lv_iload_n hx hb dX7_formOn_6 rfl (lv_at hl 1 rfl) ?_
  refine lv_imul hx hb dX7_formOn_7 ?_
  refine lv_bipush (v := 6) hx hb dX7_formOn_8 (by decide) ?_
  refine lv_iadd hx hb dX7_formOn_10 ?_
  obtain ⟨r_1, hr_1, hf⟩ := bnd hf
  refine q_iald hB hW 2 rfl hr_1 dX7_formOn_11 ?_
  refine lv_istore_n (lv' := [(3, .int r_1), (0, .ref a_p0), (1, .int v1), (2, .int v2)]) hx hb dX7_formOn_12 rfl hl (by decide) rfl (fun ls hl => ?_)
  refine lv_aload_n hx hb dX7_formOn_13 rfl (lv_at hl 1 rfl) ?_
  refine q_get hB hW 7 in_X7 0 rfl rfl 10 (by decide) fl_31 (v := .ref a_p0_now) rfl dX7_formOn_14 ?_
  refine lv_bipush (v := 9) hx hb dX7_formOn_17 (by decide) ?_
  refine lv_iload_n hx hb dX7_formOn_19 rfl (lv_at hl 2 rfl) ?_
  refine lv_imul hx hb dX7_formOn_20 ?_
  refine lv_bipush (v := 6) hx hb dX7_formOn_21 (by decide) ?_
  refine lv_iadd hx hb dX7_formOn_23 ?_
  refine lv_dup2_11 hx hb dX7_formOn_24 rfl rfl ?_
  obtain ⟨r_2, hr_2, hf⟩ := bnd hf
  refine q_iald hB hW 2 rfl hr_2 dX7_formOn_25 ?_
  refine lv_iconst (v := 1) hx hb dX7_formOn_26 (by decide) ?_
  refine lv_iload_n hx hb dX7_formOn_27 rfl (lv_at hl 3 rfl) ?_
  refine lv_ishl hx hb dX7_formOn_28 ?_
  refine lv_iconst (v := -1) hx hb dX7_formOn_29 (by decide) ?_
  refine lv_ixor hx hb dX7_formOn_30 ?_
  refine lv_iand hx hb dX7_formOn_31 ?_
  obtain ⟨r_3, hr_3, hf⟩ := bnd hf
  refine q_iast hB hW 2 rfl hr_3 (ws' := [(a_p0, .inr (7, [.int p0_persons, .int p0_skies, .int p0_oaths, .ref a_p0_kind, .ref a_p0_skyAt, .ref a_p0_skyLoud, .ref a_p0_one, .ref a_p0_other, .ref a_p0_worth, .ref a_p0_hangs, .ref a_p0_now, .ref a_p0_readPerson, .ref a_p0_readSky, .ref a_p0_readOath, .int p0_readPersons, .int p0_readSkies, .int p0_readOaths, .ref a_p0_text, .int p0_length, .int p0_at, .int p0_faultAt, .int p0_acts, .int p0_next, .ref a_p0_row, .int p0_told, .ref a_p0_toldAt, .ref a_p0_toldWool, .ref a_p0_toldHeard, .long p0_seed, .ref a_p0_isKept, .ref a_p0_kept])), (a_p0_hangs, .inl (cI, 5, .inl p0_hangs)), (a_p0_now, .inl (cI, 18, .inl r_3))]) rfl dX7_formOn_32 (fun H locs hW => ?_)
  refine lv_aload_n hx hb dX7_formOn_33 rfl (lv_at hl 1 rfl) ?_
  refine lv_iload_n hx hb dX7_formOn_34 rfl (lv_at hl 2 rfl) ?_
  obtain ⟨r_4, hr_4, hf⟩ := bnd hf
  refine q_callVV hB hW (ci := 7) (q0 := 0) rfl rfl rfl (As := [.int v1]) (rest := []) (ws' := [(a_p0, .inr (7, [.int p0_persons, .int p0_skies, .int p0_oaths, .ref a_p0_kind, .ref a_p0_skyAt, .ref a_p0_skyLoud, .ref a_p0_one, .ref a_p0_other, .ref a_p0_worth, .ref a_p0_hangs, .ref a_p0_now, .ref a_p0_readPerson, .ref a_p0_readSky, .ref a_p0_readOath, .int p0_readPersons, .int p0_readSkies, .int p0_readOaths, .ref a_p0_text, .int p0_length, .int p0_at, .int p0_faultAt, .int p0_acts, .int p0_next, .ref a_p0_row, .int p0_told, .ref a_p0_toldAt, .ref a_p0_toldWool, .ref a_p0_toldHeard, .long p0_seed, .ref a_p0_isKept, .ref a_p0_kept])), (a_p0_hangs, .inl (cI, 5, .inl p0_hangs)), (a_p0_now, .inl (cI, 18, .inl r_4))]) (c_X7_fallOn l D cI cZ a_p0 a_p0_kind a_p0_skyAt a_p0_skyLoud a_p0_one a_p0_other a_p0_worth a_p0_hangs a_p0_now a_p0_readPerson a_p0_readSky a_p0_readOath a_p0_text a_p0_row a_p0_toldAt a_p0_toldWool a_p0_toldHeard a_p0_isKept a_p0_kept p0_persons p0_skies p0_oaths p0_readPersons p0_readSkies p0_readOaths p0_length p0_at p0_faultAt p0_acts p0_next p0_told p0_seed p0_hangs r_3 v1 r_4 hr_4) (cwV 1 hts gX7_formOn_X7_fallOn rfl rfl rfl (by decide +kernel) ⟨Nat.le_of_ble_eq_true rfl, Nat.le_of_ble_eq_true rfl⟩) [0, 1, 2] rfl rfl rfl rfl rfl hl.1 rfl (Nat.le_of_ble_eq_true rfl) ⟨Nat.le_of_ble_eq_true rfl, Nat.le_of_ble_eq_true rfl⟩ dX7_formOn_35 (fun H locs hW => ?_)
  refine lv_iload_n hx hb dX7_formOn_38 rfl (lv_at hl 0 rfl) ?_
  refine lv_aload_n hx hb dX7_formOn_39 rfl (lv_at hl 1 rfl) ?_
  refine q_get hB hW 7 in_X7 0 rfl rfl 10 (by decide) fl_31 (v := .ref a_p0_now) rfl dX7_formOn_40 ?_
  refine lv_bipush (v := 9) hx hb dX7_formOn_43 (by decide) ?_
  refine lv_iload_n hx hb dX7_formOn_45 rfl (lv_at hl 2 rfl) ?_
  refine lv_imul hx hb dX7_formOn_46 ?_
  refine lv_bipush (v := 6) hx hb dX7_formOn_47 (by decide) ?_
  refine lv_iadd hx hb dX7_formOn_49 ?_
  obtain ⟨r_5, hr_5, hf⟩ := bnd hf
  refine q_iald hB hW 2 rfl hr_5 dX7_formOn_50 ?_
  refine lv_iconst (v := -1) hx hb dX7_formOn_51 (by decide) ?_
  refine lv_ixor hx hb dX7_formOn_52 ?_
  refine lv_iand hx hb dX7_formOn_53 ?_
  obtain ⟨r_6, hr_6, hf⟩ := bnd hf
  refine q_callSI hB hW (As := [.int (r_1 &&& (r_5 ^^^ (-1 : Int32)))]) (rest := []) (ws' := [(a_p0, .inr (7, [.int p0_persons, .int p0_skies, .int p0_oaths, .ref a_p0_kind, .ref a_p0_skyAt, .ref a_p0_skyLoud, .ref a_p0_one, .ref a_p0_other, .ref a_p0_worth, .ref a_p0_hangs, .ref a_p0_now, .ref a_p0_readPerson, .ref a_p0_readSky, .ref a_p0_readOath, .int p0_readPersons, .int p0_readSkies, .int p0_readOaths, .ref a_p0_text, .int p0_length, .int p0_at, .int p0_faultAt, .int p0_acts, .int p0_next, .ref a_p0_row, .int p0_told, .ref a_p0_toldAt, .ref a_p0_toldWool, .ref a_p0_toldHeard, .long p0_seed, .ref a_p0_isKept, .ref a_p0_kept])), (a_p0_hangs, .inl (cI, 5, .inl p0_hangs)), (a_p0_now, .inl (cI, 18, .inl r_4))]) (c_X7_ones l D cI cZ (r_1 &&& (r_5 ^^^ (-1 : Int32))) r_6 hr_6) (va_cwS 1 hts gX7_formOn_X7_ones rfl rfl rfl (by decide +kernel) ⟨Nat.le_of_ble_eq_true rfl, Nat.le_of_ble_eq_true rfl⟩) [] rfl rfl rfl rfl rfl hl.1 rfl (Nat.le_of_ble_eq_true rfl) ⟨Nat.le_of_ble_eq_true rfl, Nat.le_of_ble_eq_true rfl⟩ dX7_formOn_54 (fun H locs hW => ?_)
  exact hE _ _ _ _ _ (r_6, r_4) (sm hf) hW rfl dX7_formOn_57
def f_X7_canWool (v1 : Int32) (p0_persons : Int32) (p0_kind : Nat → Int32) : Option (Int32) := (f_X7_isPerson v1 p0_persons).bind fun r_1 => if r_1 = (0 : Int32) then some (0 : Int32) else (ald p0_kind 5 v1).bind fun r_3 => if r_3 = (1 : Int32) then some (0 : Int32) else (ald p0_kind 5 v1).bind fun r_5 => if r_5 = (2 : Int32) then some (0 : Int32) else some (1 : Int32)
set_option maxHeartbeats 4000000 in
set_option maxRecDepth 100000 in
theorem c_X7_canWool (l : Launch) (D : va_G) (cI cZ : ClassId) (a_p0 a_p0_kind a_p0_skyAt a_p0_skyLoud a_p0_one a_p0_other a_p0_worth a_p0_hangs a_p0_now a_p0_readPerson a_p0_readSky a_p0_readOath a_p0_text a_p0_row a_p0_toldAt a_p0_toldWool a_p0_toldHeard a_p0_isKept a_p0_kept : Nat) (p0_persons : Int32) (p0_skies : Int32) (p0_oaths : Int32) (p0_readPersons : Int32) (p0_readSkies : Int32) (p0_readOaths : Int32) (p0_length : Int32) (p0_at : Int32) (p0_faultAt : Int32) (p0_acts : Int32) (p0_next : Int32) (p0_told : Int32) (p0_seed : Int64) (p0_kind : Nat → Int32) (v1 : Int32) (q : Int32) (hf : f_X7_canWool v1 p0_persons p0_kind = some q) : CtZ l D cI cZ yX7_canWool wsX7_canWool 2 46 [.ref a_p0, .int v1] [(a_p0, .inr (7, [.int p0_persons, .int p0_skies, .int p0_oaths, .ref a_p0_kind, .ref a_p0_skyAt, .ref a_p0_skyLoud, .ref a_p0_one, .ref a_p0_other, .ref a_p0_worth, .ref a_p0_hangs, .ref a_p0_now, .ref a_p0_readPerson, .ref a_p0_readSky, .ref a_p0_readOath, .int p0_readPersons, .int p0_readSkies, .int p0_readOaths, .ref a_p0_text, .int p0_length, .int p0_at, .int p0_faultAt, .int p0_acts, .int p0_next, .ref a_p0_row, .int p0_told, .ref a_p0_toldAt, .ref a_p0_toldWool, .ref a_p0_toldHeard, .long p0_seed, .ref a_p0_isKept, .ref a_p0_kept])), (a_p0_kind, .inl (cI, 5, .inl p0_kind))] (fun q => [(a_p0, .inr (7, [.int p0_persons, .int p0_skies, .int p0_oaths, .ref a_p0_kind, .ref a_p0_skyAt, .ref a_p0_skyLoud, .ref a_p0_one, .ref a_p0_other, .ref a_p0_worth, .ref a_p0_hangs, .ref a_p0_now, .ref a_p0_readPerson, .ref a_p0_readSky, .ref a_p0_readOath, .int p0_readPersons, .int p0_readSkies, .int p0_readOaths, .ref a_p0_text, .int p0_length, .int p0_at, .int p0_faultAt, .int p0_acts, .int p0_next, .ref a_p0_row, .int p0_told, .ref a_p0_toldAt, .ref a_p0_toldWool, .ref a_p0_toldHeard, .long p0_seed, .ref a_p0_isKept, .ref a_p0_kept])), (a_p0_kind, .inl (cI, 5, .inl p0_kind))]) (fun q => q) q := by
  refine CtZ.of (cc := cX7_canWool) (maxL := 2) (plainFor_of_name (by decide)) rfl (Nat.le_of_ble_eq_true rfl) ?_
  intro p e s m args below meth c A Q H ls hB hE hW hl
  have hx := hB.1
  have hb := hB.2.1
  have hml := hB.2.2.2.1
  have hown : s.vm.findClass RX7 = some m.cls := hB.2.2.2.2.1
  have hts := hB.2.2.2.2.2.1
  have hK := hB.2.2.2.2.2.2.2.1.1
  have hl : lv_has ls 2 [(0, .ref a_p0), (1, .int v1)] := hl
  have in_X7 : ∀ w ∈ wsX70, w ∈ wsX7_canWool := fun w h => List.mem_cons_of_mem _ (List.mem_append_right _ h)
  have fl_7 : (Cond.fieldLink RX7 7 (TX7 3).1 (TX7 3).2.1 (TX7 3).2.2.1).before args s = true := hts (.fieldLink RX7 7 "ClapOathsModel" "kind" "[I") (by decide +kernel)
  unfold f_X7_canWool at hf
  refine lv_aload_n hx hb dX7_canWool_0 rfl (lv_at hl 0 rfl) ?_
  refine lv_iload_n hx hb dX7_canWool_1 rfl (lv_at hl 1 rfl) ?_
  obtain ⟨r_1, hr_1, hf⟩ := bnd hf
  refine q_callVZ hB hW (ci := 7) (q0 := 0) rfl rfl rfl (As := [.int v1]) (rest := []) (ws' := [(a_p0, .inr (7, [.int p0_persons, .int p0_skies, .int p0_oaths, .ref a_p0_kind, .ref a_p0_skyAt, .ref a_p0_skyLoud, .ref a_p0_one, .ref a_p0_other, .ref a_p0_worth, .ref a_p0_hangs, .ref a_p0_now, .ref a_p0_readPerson, .ref a_p0_readSky, .ref a_p0_readOath, .int p0_readPersons, .int p0_readSkies, .int p0_readOaths, .ref a_p0_text, .int p0_length, .int p0_at, .int p0_faultAt, .int p0_acts, .int p0_next, .ref a_p0_row, .int p0_told, .ref a_p0_toldAt, .ref a_p0_toldWool, .ref a_p0_toldHeard, .long p0_seed, .ref a_p0_isKept, .ref a_p0_kept])), (a_p0_kind, .inl (cI, 5, .inl p0_kind))]) (c_X7_isPerson l D cI cZ a_p0 a_p0_kind a_p0_skyAt a_p0_skyLoud a_p0_one a_p0_other a_p0_worth a_p0_hangs a_p0_now a_p0_readPerson a_p0_readSky a_p0_readOath a_p0_text a_p0_row a_p0_toldAt a_p0_toldWool a_p0_toldHeard a_p0_isKept a_p0_kept p0_persons p0_skies p0_oaths p0_readPersons p0_readSkies p0_readOaths p0_length p0_at p0_faultAt p0_acts p0_next p0_told p0_seed v1 r_1 hr_1) (cwV 1 hts gX7_canWool_X7_isPerson rfl rfl rfl (by decide +kernel) ⟨Nat.le_of_ble_eq_true rfl, Nat.le_of_ble_eq_true rfl⟩) [0] rfl rfl rfl rfl rfl hl.1 rfl (Nat.le_of_ble_eq_true rfl) ⟨Nat.le_of_ble_eq_true rfl, Nat.le_of_ble_eq_true rfl⟩ dX7_canWool_2 (fun hzr_1 H locs hW => ?_)
  refine lv_if_eq (tgt := 32) hx hb dX7_canWool_5 (by decide) (fun c_2 => ?_) (fun c_2 => ?_)
  · have hf := it_t c_2 hf
    refine lv_iconst (v := 0) hx hb dX7_canWool_32 (by decide) ?_
    exact hE _ _ _ _ _ (0 : Int32) (sm hf) hW rfl nz_0 dX7_canWool_33
  · have hf := it_f c_2 hf
    refine lv_aload_n hx hb dX7_canWool_8 rfl (lv_at hl 0 rfl) ?_
    refine q_get hB hW 7 in_X7 0 rfl rfl 3 (by decide) fl_7 (v := .ref a_p0_kind) rfl dX7_canWool_9 ?_
    refine lv_iload_n hx hb dX7_canWool_12 rfl (lv_at hl 1 rfl) ?_
    obtain ⟨r_3, hr_3, hf⟩ := bnd hf
    refine q_iald hB hW 1 rfl hr_3 dX7_canWool_13 ?_
    refine lv_iconst (v := 1) hx hb dX7_canWool_14 (by decide) ?_
    refine lv_icmp_eq (tgt := 32) hx hb dX7_canWool_15 (by decide) (fun c_4 => ?_) (fun c_4 => ?_)
    · have hf := it_t c_4 hf
      refine lv_iconst (v := 0) hx hb dX7_canWool_32 (by decide) ?_
      exact hE _ _ _ _ _ (0 : Int32) (sm hf) hW rfl nz_0 dX7_canWool_33
    · have hf := it_f c_4 hf
      refine lv_aload_n hx hb dX7_canWool_18 rfl (lv_at hl 0 rfl) ?_
      refine q_get hB hW 7 in_X7 0 rfl rfl 3 (by decide) fl_7 (v := .ref a_p0_kind) rfl dX7_canWool_19 ?_
      refine lv_iload_n hx hb dX7_canWool_22 rfl (lv_at hl 1 rfl) ?_
      obtain ⟨r_5, hr_5, hf⟩ := bnd hf
      refine q_iald hB hW 1 rfl hr_5 dX7_canWool_23 ?_
      refine lv_iconst (v := 2) hx hb dX7_canWool_24 (by decide) ?_
      refine lv_icmp_eq (tgt := 32) hx hb dX7_canWool_25 (by decide) (fun c_6 => ?_) (fun c_6 => ?_)
      · have hf := it_t c_6 hf
        refine lv_iconst (v := 0) hx hb dX7_canWool_32 (by decide) ?_
        exact hE _ _ _ _ _ (0 : Int32) (sm hf) hW rfl nz_0 dX7_canWool_33
      · have hf := it_f c_6 hf
        refine lv_iconst (v := 1) hx hb dX7_canWool_28 (by decide) ?_
        refine lv_goto (tgt := 33) hx hb dX7_canWool_29 (by decide) ?_
        exact hE _ _ _ _ _ (1 : Int32) (sm hf) hW rfl nz_1 dX7_canWool_33
