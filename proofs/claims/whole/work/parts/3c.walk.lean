def b_X7_county_38 (v1 : Int32) (p0_now : Nat → Int32) : Option ((Int32 × (Nat → Int32)) ⊕ (Nat → Int32)) := if (9 : Int32) ≤ v1 then some (.inr p0_now) else (ast p0_now 18 v1 (0 : Int32)).bind fun r_540 => some (.inl ((v1 + (1 : Int32)), r_540))
def b_X7_county_59 (p0_persons : Int32) (p0_readPerson : Nat → Int32) (v1 : Int32) (p0_kind : Nat → Int32) (p0_now : Nat → Int32) : Option ((Int32 × (Nat → Int32) × (Nat → Int32)) ⊕ ((Nat → Int32) × (Nat → Int32))) := if p0_persons ≤ v1 then some (.inr (p0_kind, p0_now)) else (ald p0_readPerson 10 ((2 : Int32) * v1)).bind fun r_561 => (ast p0_now 18 v1 r_561).bind fun r_562 => (ald p0_readPerson 10 (((2 : Int32) * v1) + (1 : Int32))).bind fun r_563 => (ast p0_kind 5 v1 r_563).bind fun r_564 => (ald r_562 18 (5 : Int32)).bind fun r_565 => (ald r_564 5 v1).bind fun r_566 => if r_566 = (1 : Int32) then (ast r_562 18 (5 : Int32) (r_565 ||| ((1 : Int32) <<< (v1 &&& 31)))).bind fun r_569 => some (.inl ((v1 + (1 : Int32)), r_564, r_569)) else (ast r_562 18 (5 : Int32) (r_565 ||| (0 : Int32))).bind fun r_568 => some (.inl ((v1 + (1 : Int32)), r_564, r_568))
def b_X7_county_131 (p0_skies : Int32) (p0_readSky : Nat → Int32) (v1 : Int32) (p0_skyAt : Nat → Int32) (p0_skyLoud : Nat → Int32) : Option ((Int32 × (Nat → Int32) × (Nat → Int32)) ⊕ ((Nat → Int32) × (Nat → Int32))) := if p0_skies ≤ v1 then some (.inr (p0_skyAt, p0_skyLoud)) else (ald p0_readSky 10 ((2 : Int32) * v1)).bind fun r_633 => (ast p0_skyAt 5 v1 r_633).bind fun r_634 => (ald p0_readSky 10 (((2 : Int32) * v1) + (1 : Int32))).bind fun r_635 => (ast p0_skyLoud 5 v1 r_635).bind fun r_636 => some (.inl ((v1 + (1 : Int32)), r_634, r_636))
def b_X7_county_177 (p0_oaths : Int32) (p0_readOath : Nat → Int32) (v1 : Int32) (p0_one : Nat → Int32) (p0_other : Nat → Int32) (p0_worth : Nat → Int32) (p0_hangs : Nat → Int32) : Option ((Int32 × (Nat → Int32) × (Nat → Int32) × (Nat → Int32) × (Nat → Int32)) ⊕ ((Nat → Int32) × (Nat → Int32) × (Nat → Int32) × (Nat → Int32))) := if p0_oaths ≤ v1 then some (.inr (p0_one, p0_other, p0_worth, p0_hangs)) else (ald p0_readOath 20 ((4 : Int32) * v1)).bind fun r_679 => (ast p0_one 5 v1 r_679).bind fun r_680 => (ald p0_readOath 20 (((4 : Int32) * v1) + (1 : Int32))).bind fun r_681 => (ast p0_other 5 v1 r_681).bind fun r_682 => (ald p0_readOath 20 (((4 : Int32) * v1) + (2 : Int32))).bind fun r_683 => (ast p0_worth 5 v1 r_683).bind fun r_684 => (ald p0_readOath 20 (((4 : Int32) * v1) + (3 : Int32))).bind fun r_685 => (ast p0_hangs 5 v1 r_685).bind fun r_686 => some (.inl ((v1 + (1 : Int32)), r_680, r_682, r_684, r_686))
def f_X7_county (p0_persons : Int32) (p0_skies : Int32) (p0_oaths : Int32) (p0_readPersons : Int32) (p0_readSkies : Int32) (p0_readOaths : Int32) (p0_length : Int32) (p0_at : Int32) (p0_faultAt : Int32) (p0_acts : Int32) (p0_kind : Nat → Int32) (p0_skyAt : Nat → Int32) (p0_skyLoud : Nat → Int32) (p0_one : Nat → Int32) (p0_other : Nat → Int32) (p0_worth : Nat → Int32) (p0_hangs : Nat → Int32) (p0_now : Nat → Int32) (p0_readPerson : Nat → Int32) (p0_readSky : Nat → Int32) (p0_readOath : Nat → Int32) (p0_text : Nat → Int32) (p0_isKept : Nat → Int32) : Option (Int32 × Int32 × Int32 × Int32 × Int32 × Int32 × Int32 × Int32 × Int32 × Int32 × (Nat → Int32) × (Nat → Int32) × (Nat → Int32) × (Nat → Int32) × (Nat → Int32) × (Nat → Int32) × (Nat → Int32) × (Nat → Int32) × (Nat → Int32) × (Nat → Int32) × (Nat → Int32) × (Nat → Int32)) := (f_X7_readText p0_readPersons p0_readSkies p0_readOaths p0_length p0_at p0_faultAt p0_readPerson p0_readSky p0_readOath p0_text).bind fun r_1 => if r_1.1 = (-9 : Int32) then (itr (fun s => b_X7_county_38 s.1 s.2) FU ((0 : Int32), p0_now)).bind fun x_38 => (itr (fun s => b_X7_county_59 r_1.2.1 r_1.2.2.2.2.2.2.1 s.1 s.2.1 s.2.2) FU ((0 : Int32), p0_kind, x_38)).bind fun x_59 => (itr (fun s => b_X7_county_131 r_1.2.2.1 r_1.2.2.2.2.2.2.2.1 s.1 s.2.1 s.2.2) FU ((0 : Int32), p0_skyAt, p0_skyLoud)).bind fun x_131 => (itr (fun s => b_X7_county_177 r_1.2.2.2.1 r_1.2.2.2.2.2.2.2.2 s.1 s.2.1 s.2.2.1 s.2.2.2.1 s.2.2.2.2) FU ((0 : Int32), p0_one, p0_other, p0_worth, p0_hangs)).bind fun x_177 => (ast x_59.2 18 (6 : Int32) (((1 : Int32) <<< (r_1.2.2.2.1 &&& 31)) - (1 : Int32))).bind fun r_3 => (astZ p0_isKept 2 (0 : Int32) (0 : Int32)).bind fun r_4 => (astZ r_4 2 (1 : Int32) (0 : Int32)).bind fun r_5 => some (((((100 : Int32) * r_1.2.1) + ((10 : Int32) * r_1.2.2.1)) + r_1.2.2.2.1), r_1.2.1, r_1.2.2.1, r_1.2.2.2.1, r_1.2.1, r_1.2.2.1, r_1.2.2.2.1, r_1.2.2.2.2.1, r_1.2.2.2.2.2.1, (0 : Int32), x_59.1, x_131.1, x_131.2, x_177.1, x_177.2.1, x_177.2.2.1, x_177.2.2.2, r_3, r_1.2.2.2.2.2.2.1, r_1.2.2.2.2.2.2.2.1, r_1.2.2.2.2.2.2.2.2, r_5) else some ((-3 : Int32), p0_persons, p0_skies, p0_oaths, r_1.2.1, r_1.2.2.1, r_1.2.2.2.1, r_1.2.2.2.2.1, r_1.2.2.2.2.2.1, p0_acts, p0_kind, p0_skyAt, p0_skyLoud, p0_one, p0_other, p0_worth, p0_hangs, p0_now, r_1.2.2.2.2.2.2.1, r_1.2.2.2.2.2.2.2.1, r_1.2.2.2.2.2.2.2.2, p0_isKept)
set_option maxHeartbeats 4000000 in
set_option maxRecDepth 100000 in
theorem c_X7_county (l : Launch) (D : va_G) (cI cZ : ClassId) (a_p0 a_p0_kind a_p0_skyAt a_p0_skyLoud a_p0_one a_p0_other a_p0_worth a_p0_hangs a_p0_now a_p0_readPerson a_p0_readSky a_p0_readOath a_p0_text a_p0_row a_p0_toldAt a_p0_toldWool a_p0_toldHeard a_p0_isKept a_p0_kept : Nat) (p0_persons : Int32) (p0_skies : Int32) (p0_oaths : Int32) (p0_readPersons : Int32) (p0_readSkies : Int32) (p0_readOaths : Int32) (p0_length : Int32) (p0_at : Int32) (p0_faultAt : Int32) (p0_acts : Int32) (p0_next : Int32) (p0_told : Int32) (p0_seed : Int64) (p0_kind : Nat → Int32) (p0_skyAt : Nat → Int32) (p0_skyLoud : Nat → Int32) (p0_one : Nat → Int32) (p0_other : Nat → Int32) (p0_worth : Nat → Int32) (p0_hangs : Nat → Int32) (p0_now : Nat → Int32) (p0_readPerson : Nat → Int32) (p0_readSky : Nat → Int32) (p0_readOath : Nat → Int32) (p0_text : Nat → Int32) (p0_isKept : Nat → Int32) (q : Int32 × Int32 × Int32 × Int32 × Int32 × Int32 × Int32 × Int32 × Int32 × Int32 × (Nat → Int32) × (Nat → Int32) × (Nat → Int32) × (Nat → Int32) × (Nat → Int32) × (Nat → Int32) × (Nat → Int32) × (Nat → Int32) × (Nat → Int32) × (Nat → Int32) × (Nat → Int32) × (Nat → Int32)) (hf : f_X7_county p0_persons p0_skies p0_oaths p0_readPersons p0_readSkies p0_readOaths p0_length p0_at p0_faultAt p0_acts p0_kind p0_skyAt p0_skyLoud p0_one p0_other p0_worth p0_hangs p0_now p0_readPerson p0_readSky p0_readOath p0_text p0_isKept = some q) : CtI l D cI cZ yX7_county wsX7_county 5 111 [.ref a_p0] [(a_p0, .inr (7, [.int p0_persons, .int p0_skies, .int p0_oaths, .ref a_p0_kind, .ref a_p0_skyAt, .ref a_p0_skyLoud, .ref a_p0_one, .ref a_p0_other, .ref a_p0_worth, .ref a_p0_hangs, .ref a_p0_now, .ref a_p0_readPerson, .ref a_p0_readSky, .ref a_p0_readOath, .int p0_readPersons, .int p0_readSkies, .int p0_readOaths, .ref a_p0_text, .int p0_length, .int p0_at, .int p0_faultAt, .int p0_acts, .int p0_next, .ref a_p0_row, .int p0_told, .ref a_p0_toldAt, .ref a_p0_toldWool, .ref a_p0_toldHeard, .long p0_seed, .ref a_p0_isKept, .ref a_p0_kept])), (a_p0_kind, .inl (cI, 5, .inl p0_kind)), (a_p0_skyAt, .inl (cI, 5, .inl p0_skyAt)), (a_p0_skyLoud, .inl (cI, 5, .inl p0_skyLoud)), (a_p0_one, .inl (cI, 5, .inl p0_one)), (a_p0_other, .inl (cI, 5, .inl p0_other)), (a_p0_worth, .inl (cI, 5, .inl p0_worth)), (a_p0_hangs, .inl (cI, 5, .inl p0_hangs)), (a_p0_now, .inl (cI, 18, .inl p0_now)), (a_p0_readPerson, .inl (cI, 10, .inl p0_readPerson)), (a_p0_readSky, .inl (cI, 10, .inl p0_readSky)), (a_p0_readOath, .inl (cI, 20, .inl p0_readOath)), (a_p0_text, .inl (cI, 60, .inl p0_text)), (a_p0_isKept, .inl (cZ, 2, .inl p0_isKept))] (fun q => [(a_p0, .inr (7, [.int q.2.1, .int q.2.2.1, .int q.2.2.2.1, .ref a_p0_kind, .ref a_p0_skyAt, .ref a_p0_skyLoud, .ref a_p0_one, .ref a_p0_other, .ref a_p0_worth, .ref a_p0_hangs, .ref a_p0_now, .ref a_p0_readPerson, .ref a_p0_readSky, .ref a_p0_readOath, .int q.2.2.2.2.1, .int q.2.2.2.2.2.1, .int q.2.2.2.2.2.2.1, .ref a_p0_text, .int p0_length, .int q.2.2.2.2.2.2.2.1, .int q.2.2.2.2.2.2.2.2.1, .int q.2.2.2.2.2.2.2.2.2.1, .int p0_next, .ref a_p0_row, .int p0_told, .ref a_p0_toldAt, .ref a_p0_toldWool, .ref a_p0_toldHeard, .long p0_seed, .ref a_p0_isKept, .ref a_p0_kept])), (a_p0_kind, .inl (cI, 5, .inl q.2.2.2.2.2.2.2.2.2.2.1)), (a_p0_skyAt, .inl (cI, 5, .inl q.2.2.2.2.2.2.2.2.2.2.2.1)), (a_p0_skyLoud, .inl (cI, 5, .inl q.2.2.2.2.2.2.2.2.2.2.2.2.1)), (a_p0_one, .inl (cI, 5, .inl q.2.2.2.2.2.2.2.2.2.2.2.2.2.1)), (a_p0_other, .inl (cI, 5, .inl q.2.2.2.2.2.2.2.2.2.2.2.2.2.2.1)), (a_p0_worth, .inl (cI, 5, .inl q.2.2.2.2.2.2.2.2.2.2.2.2.2.2.2.1)), (a_p0_hangs, .inl (cI, 5, .inl q.2.2.2.2.2.2.2.2.2.2.2.2.2.2.2.2.1)), (a_p0_now, .inl (cI, 18, .inl q.2.2.2.2.2.2.2.2.2.2.2.2.2.2.2.2.2.1)), (a_p0_readPerson, .inl (cI, 10, .inl q.2.2.2.2.2.2.2.2.2.2.2.2.2.2.2.2.2.2.1)), (a_p0_readSky, .inl (cI, 10, .inl q.2.2.2.2.2.2.2.2.2.2.2.2.2.2.2.2.2.2.2.1)), (a_p0_readOath, .inl (cI, 20, .inl q.2.2.2.2.2.2.2.2.2.2.2.2.2.2.2.2.2.2.2.2.1)), (a_p0_text, .inl (cI, 60, .inl p0_text)), (a_p0_isKept, .inl (cZ, 2, .inl q.2.2.2.2.2.2.2.2.2.2.2.2.2.2.2.2.2.2.2.2.2))]) (fun q => q.1) q := by
  refine CtI.of (cc := cX7_county) (maxL := 2) (plainFor_of_name (by decide)) rfl (Nat.le_of_ble_eq_true rfl) ?_
  intro p e s m args below meth c A Q H ls hB hE hW hl
  have hx := hB.1
  have hb := hB.2.1
  have hml := hB.2.2.2.1
  have hown : s.vm.findClass RX7 = some m.cls := hB.2.2.2.2.1
  have hts := hB.2.2.2.2.2.1
  have hK := hB.2.2.2.2.2.2.2.1.1
  have hl : lv_has ls 2 [(0, .ref a_p0)] := hl
  have in_X7 : ∀ w ∈ wsX70, w ∈ wsX7_county := fun w h => List.mem_cons_of_mem _ (List.mem_append_right _ h)
  have fl_7 : (Cond.fieldLink RX7 7 (TX7 3).1 (TX7 3).2.1 (TX7 3).2.2.1).before args s = true := hts (.fieldLink RX7 7 "ClapOathsModel" "kind" "[I") (by decide +kernel)
  have fl_13 : (Cond.fieldLink RX7 13 (TX7 4).1 (TX7 4).2.1 (TX7 4).2.2.1).before args s = true := hts (.fieldLink RX7 13 "ClapOathsModel" "skyAt" "[I") (by decide +kernel)
  have fl_16 : (Cond.fieldLink RX7 16 (TX7 5).1 (TX7 5).2.1 (TX7 5).2.2.1).before args s = true := hts (.fieldLink RX7 16 "ClapOathsModel" "skyLoud" "[I") (by decide +kernel)
  have fl_19 : (Cond.fieldLink RX7 19 (TX7 6).1 (TX7 6).2.1 (TX7 6).2.2.1).before args s = true := hts (.fieldLink RX7 19 "ClapOathsModel" "one" "[I") (by decide +kernel)
  have fl_22 : (Cond.fieldLink RX7 22 (TX7 7).1 (TX7 7).2.1 (TX7 7).2.2.1).before args s = true := hts (.fieldLink RX7 22 "ClapOathsModel" "other" "[I") (by decide +kernel)
  have fl_25 : (Cond.fieldLink RX7 25 (TX7 8).1 (TX7 8).2.1 (TX7 8).2.2.1).before args s = true := hts (.fieldLink RX7 25 "ClapOathsModel" "worth" "[I") (by decide +kernel)
  have fl_28 : (Cond.fieldLink RX7 28 (TX7 9).1 (TX7 9).2.1 (TX7 9).2.2.1).before args s = true := hts (.fieldLink RX7 28 "ClapOathsModel" "hangs" "[I") (by decide +kernel)
  have fl_31 : (Cond.fieldLink RX7 31 (TX7 10).1 (TX7 10).2.1 (TX7 10).2.2.1).before args s = true := hts (.fieldLink RX7 31 "ClapOathsModel" "now" "[I") (by decide +kernel)
  have fl_34 : (Cond.fieldLink RX7 34 (TX7 11).1 (TX7 11).2.1 (TX7 11).2.2.1).before args s = true := hts (.fieldLink RX7 34 "ClapOathsModel" "readPerson" "[I") (by decide +kernel)
  have fl_37 : (Cond.fieldLink RX7 37 (TX7 12).1 (TX7 12).2.1 (TX7 12).2.2.1).before args s = true := hts (.fieldLink RX7 37 "ClapOathsModel" "readSky" "[I") (by decide +kernel)
  have fl_40 : (Cond.fieldLink RX7 40 (TX7 13).1 (TX7 13).2.1 (TX7 13).2.2.1).before args s = true := hts (.fieldLink RX7 40 "ClapOathsModel" "readOath" "[I") (by decide +kernel)
  have fl_58 : (Cond.fieldLink RX7 58 (TX7 29).1 (TX7 29).2.1 (TX7 29).2.2.1).before args s = true := hts (.fieldLink RX7 58 "ClapOathsModel" "isKept" "[Z") (by decide +kernel)
  have fl_81 : (Cond.fieldLink RX7 81 (TX7 14).1 (TX7 14).2.1 (TX7 14).2.2.1).before args s = true := hts (.fieldLink RX7 81 "ClapOathsModel" "readPersons" "I") (by decide +kernel)
  have fl_84 : (Cond.fieldLink RX7 84 (TX7 15).1 (TX7 15).2.1 (TX7 15).2.2.1).before args s = true := hts (.fieldLink RX7 84 "ClapOathsModel" "readSkies" "I") (by decide +kernel)
  have fl_87 : (Cond.fieldLink RX7 87 (TX7 16).1 (TX7 16).2.1 (TX7 16).2.2.1).before args s = true := hts (.fieldLink RX7 87 "ClapOathsModel" "readOaths" "I") (by decide +kernel)
  have fl_105 : (Cond.fieldLink RX7 105 (TX7 0).1 (TX7 0).2.1 (TX7 0).2.2.1).before args s = true := hts (.fieldLink RX7 105 "ClapOathsModel" "persons" "I") (by decide +kernel)
  have fl_108 : (Cond.fieldLink RX7 108 (TX7 1).1 (TX7 1).2.1 (TX7 1).2.2.1).before args s = true := hts (.fieldLink RX7 108 "ClapOathsModel" "skies" "I") (by decide +kernel)
  have fl_111 : (Cond.fieldLink RX7 111 (TX7 2).1 (TX7 2).2.1 (TX7 2).2.2.1).before args s = true := hts (.fieldLink RX7 111 "ClapOathsModel" "oaths" "I") (by decide +kernel)
  have fl_114 : (Cond.fieldLink RX7 114 (TX7 21).1 (TX7 21).2.1 (TX7 21).2.2.1).before args s = true := hts (.fieldLink RX7 114 "ClapOathsModel" "acts" "I") (by decide +kernel)
  unfold f_X7_county at hf
  refine lv_aload_n hx hb dX7_county_0 rfl (lv_at hl 0 rfl) ?_
  obtain ⟨r_1, hr_1, hf⟩ := bnd hf
  refine q_callVI hB hW (ci := 7) (q0 := 0) rfl rfl rfl (As := []) (rest := []) (ws' := [(a_p0, .inr (7, [.int p0_persons, .int p0_skies, .int p0_oaths, .ref a_p0_kind, .ref a_p0_skyAt, .ref a_p0_skyLoud, .ref a_p0_one, .ref a_p0_other, .ref a_p0_worth, .ref a_p0_hangs, .ref a_p0_now, .ref a_p0_readPerson, .ref a_p0_readSky, .ref a_p0_readOath, .int r_1.2.1, .int r_1.2.2.1, .int r_1.2.2.2.1, .ref a_p0_text, .int p0_length, .int r_1.2.2.2.2.1, .int r_1.2.2.2.2.2.1, .int p0_acts, .int p0_next, .ref a_p0_row, .int p0_told, .ref a_p0_toldAt, .ref a_p0_toldWool, .ref a_p0_toldHeard, .long p0_seed, .ref a_p0_isKept, .ref a_p0_kept])), (a_p0_kind, .inl (cI, 5, .inl p0_kind)), (a_p0_skyAt, .inl (cI, 5, .inl p0_skyAt)), (a_p0_skyLoud, .inl (cI, 5, .inl p0_skyLoud)), (a_p0_one, .inl (cI, 5, .inl p0_one)), (a_p0_other, .inl (cI, 5, .inl p0_other)), (a_p0_worth, .inl (cI, 5, .inl p0_worth)), (a_p0_hangs, .inl (cI, 5, .inl p0_hangs)), (a_p0_now, .inl (cI, 18, .inl p0_now)), (a_p0_readPerson, .inl (cI, 10, .inl r_1.2.2.2.2.2.2.1)), (a_p0_readSky, .inl (cI, 10, .inl r_1.2.2.2.2.2.2.2.1)), (a_p0_readOath, .inl (cI, 20, .inl r_1.2.2.2.2.2.2.2.2)), (a_p0_text, .inl (cI, 60, .inl p0_text)), (a_p0_isKept, .inl (cZ, 2, .inl p0_isKept))]) (c_X7_readText l D cI cZ a_p0 a_p0_kind a_p0_skyAt a_p0_skyLoud a_p0_one a_p0_other a_p0_worth a_p0_hangs a_p0_now a_p0_readPerson a_p0_readSky a_p0_readOath a_p0_text a_p0_row a_p0_toldAt a_p0_toldWool a_p0_toldHeard a_p0_isKept a_p0_kept p0_persons p0_skies p0_oaths p0_readPersons p0_readSkies p0_readOaths p0_length p0_at p0_faultAt p0_acts p0_next p0_told p0_seed p0_readPerson p0_readSky p0_readOath p0_text r_1 hr_1) (cwV 0 hts gX7_county_X7_readText rfl rfl rfl (by decide +kernel) ⟨Nat.le_of_ble_eq_true rfl, Nat.le_of_ble_eq_true rfl⟩) [0, 9, 10, 11, 12] rfl rfl rfl rfl rfl hl.1 rfl (Nat.le_of_ble_eq_true rfl) ⟨Nat.le_of_ble_eq_true rfl, Nat.le_of_ble_eq_true rfl⟩ dX7_county_1 (fun H locs hW => ?_)
  refine lv_bipush (v := -9) hx hb dX7_county_4 (by decide) ?_
  refine lv_icmp_eq (tgt := 12) hx hb dX7_county_6 (by decide) (fun c_2 => ?_) (fun c_2 => ?_)
  · have hf := it_t c_2 hf
    refine lv_aload_n hx hb dX7_county_12 rfl (lv_at hl 0 rfl) ?_
    refine lv_aload_n hx hb dX7_county_13 rfl (lv_at hl 0 rfl) ?_
    refine q_get hB hW 7 in_X7 0 rfl rfl 14 (by decide) fl_81 (v := .int r_1.2.1) rfl dX7_county_14 ?_
    refine q_put hB hW 7 in_X7 tyX7 tyX7_ok nmX7 0 rfl rfl 0 (by decide) fl_105 rfl (by first | rfl | decide) (by first | rfl | decide) (Nat.le_of_ble_eq_true rfl) (ws' := [(a_p0, .inr (7, [.int r_1.2.1, .int p0_skies, .int p0_oaths, .ref a_p0_kind, .ref a_p0_skyAt, .ref a_p0_skyLoud, .ref a_p0_one, .ref a_p0_other, .ref a_p0_worth, .ref a_p0_hangs, .ref a_p0_now, .ref a_p0_readPerson, .ref a_p0_readSky, .ref a_p0_readOath, .int r_1.2.1, .int r_1.2.2.1, .int r_1.2.2.2.1, .ref a_p0_text, .int p0_length, .int r_1.2.2.2.2.1, .int r_1.2.2.2.2.2.1, .int p0_acts, .int p0_next, .ref a_p0_row, .int p0_told, .ref a_p0_toldAt, .ref a_p0_toldWool, .ref a_p0_toldHeard, .long p0_seed, .ref a_p0_isKept, .ref a_p0_kept])), (a_p0_kind, .inl (cI, 5, .inl p0_kind)), (a_p0_skyAt, .inl (cI, 5, .inl p0_skyAt)), (a_p0_skyLoud, .inl (cI, 5, .inl p0_skyLoud)), (a_p0_one, .inl (cI, 5, .inl p0_one)), (a_p0_other, .inl (cI, 5, .inl p0_other)), (a_p0_worth, .inl (cI, 5, .inl p0_worth)), (a_p0_hangs, .inl (cI, 5, .inl p0_hangs)), (a_p0_now, .inl (cI, 18, .inl p0_now)), (a_p0_readPerson, .inl (cI, 10, .inl r_1.2.2.2.2.2.2.1)), (a_p0_readSky, .inl (cI, 10, .inl r_1.2.2.2.2.2.2.2.1)), (a_p0_readOath, .inl (cI, 20, .inl r_1.2.2.2.2.2.2.2.2)), (a_p0_text, .inl (cI, 60, .inl p0_text)), (a_p0_isKept, .inl (cZ, 2, .inl p0_isKept))]) rfl dX7_county_17 (fun H locs hW => ?_)
    refine lv_aload_n hx hb dX7_county_20 rfl (lv_at hl 0 rfl) ?_
    refine lv_aload_n hx hb dX7_county_21 rfl (lv_at hl 0 rfl) ?_
    refine q_get hB hW 7 in_X7 0 rfl rfl 15 (by decide) fl_84 (v := .int r_1.2.2.1) rfl dX7_county_22 ?_
    refine q_put hB hW 7 in_X7 tyX7 tyX7_ok nmX7 0 rfl rfl 1 (by decide) fl_108 rfl (by first | rfl | decide) (by first | rfl | decide) (Nat.le_of_ble_eq_true rfl) (ws' := [(a_p0, .inr (7, [.int r_1.2.1, .int r_1.2.2.1, .int p0_oaths, .ref a_p0_kind, .ref a_p0_skyAt, .ref a_p0_skyLoud, .ref a_p0_one, .ref a_p0_other, .ref a_p0_worth, .ref a_p0_hangs, .ref a_p0_now, .ref a_p0_readPerson, .ref a_p0_readSky, .ref a_p0_readOath, .int r_1.2.1, .int r_1.2.2.1, .int r_1.2.2.2.1, .ref a_p0_text, .int p0_length, .int r_1.2.2.2.2.1, .int r_1.2.2.2.2.2.1, .int p0_acts, .int p0_next, .ref a_p0_row, .int p0_told, .ref a_p0_toldAt, .ref a_p0_toldWool, .ref a_p0_toldHeard, .long p0_seed, .ref a_p0_isKept, .ref a_p0_kept])), (a_p0_kind, .inl (cI, 5, .inl p0_kind)), (a_p0_skyAt, .inl (cI, 5, .inl p0_skyAt)), (a_p0_skyLoud, .inl (cI, 5, .inl p0_skyLoud)), (a_p0_one, .inl (cI, 5, .inl p0_one)), (a_p0_other, .inl (cI, 5, .inl p0_other)), (a_p0_worth, .inl (cI, 5, .inl p0_worth)), (a_p0_hangs, .inl (cI, 5, .inl p0_hangs)), (a_p0_now, .inl (cI, 18, .inl p0_now)), (a_p0_readPerson, .inl (cI, 10, .inl r_1.2.2.2.2.2.2.1)), (a_p0_readSky, .inl (cI, 10, .inl r_1.2.2.2.2.2.2.2.1)), (a_p0_readOath, .inl (cI, 20, .inl r_1.2.2.2.2.2.2.2.2)), (a_p0_text, .inl (cI, 60, .inl p0_text)), (a_p0_isKept, .inl (cZ, 2, .inl p0_isKept))]) rfl dX7_county_25 (fun H locs hW => ?_)
    refine lv_aload_n hx hb dX7_county_28 rfl (lv_at hl 0 rfl) ?_
    refine lv_aload_n hx hb dX7_county_29 rfl (lv_at hl 0 rfl) ?_
    refine q_get hB hW 7 in_X7 0 rfl rfl 16 (by decide) fl_87 (v := .int r_1.2.2.2.1) rfl dX7_county_30 ?_
    refine q_put hB hW 7 in_X7 tyX7 tyX7_ok nmX7 0 rfl rfl 2 (by decide) fl_111 rfl (by first | rfl | decide) (by first | rfl | decide) (Nat.le_of_ble_eq_true rfl) (ws' := [(a_p0, .inr (7, [.int r_1.2.1, .int r_1.2.2.1, .int r_1.2.2.2.1, .ref a_p0_kind, .ref a_p0_skyAt, .ref a_p0_skyLoud, .ref a_p0_one, .ref a_p0_other, .ref a_p0_worth, .ref a_p0_hangs, .ref a_p0_now, .ref a_p0_readPerson, .ref a_p0_readSky, .ref a_p0_readOath, .int r_1.2.1, .int r_1.2.2.1, .int r_1.2.2.2.1, .ref a_p0_text, .int p0_length, .int r_1.2.2.2.2.1, .int r_1.2.2.2.2.2.1, .int p0_acts, .int p0_next, .ref a_p0_row, .int p0_told, .ref a_p0_toldAt, .ref a_p0_toldWool, .ref a_p0_toldHeard, .long p0_seed, .ref a_p0_isKept, .ref a_p0_kept])), (a_p0_kind, .inl (cI, 5, .inl p0_kind)), (a_p0_skyAt, .inl (cI, 5, .inl p0_skyAt)), (a_p0_skyLoud, .inl (cI, 5, .inl p0_skyLoud)), (a_p0_one, .inl (cI, 5, .inl p0_one)), (a_p0_other, .inl (cI, 5, .inl p0_other)), (a_p0_worth, .inl (cI, 5, .inl p0_worth)), (a_p0_hangs, .inl (cI, 5, .inl p0_hangs)), (a_p0_now, .inl (cI, 18, .inl p0_now)), (a_p0_readPerson, .inl (cI, 10, .inl r_1.2.2.2.2.2.2.1)), (a_p0_readSky, .inl (cI, 10, .inl r_1.2.2.2.2.2.2.2.1)), (a_p0_readOath, .inl (cI, 20, .inl r_1.2.2.2.2.2.2.2.2)), (a_p0_text, .inl (cI, 60, .inl p0_text)), (a_p0_isKept, .inl (cZ, 2, .inl p0_isKept))]) rfl dX7_county_33 (fun H locs hW => ?_)
    refine lv_iconst (v := 0) hx hb dX7_county_36 (by decide) ?_
    refine lv_istore_n (lv' := [(1, .int (0 : Int32)), (0, .ref a_p0)]) hx hb dX7_county_37 rfl hl (by decide) rfl (fun ls hl => ?_)
    obtain ⟨e_38, hl_38, hk_38⟩ := bnd hf
    have K_38 : ∀ x_38 : Nat → Int32, x_38 = e_38 → ∀ (H : Heap) (locs : List Loc) (ls : Array Slot), Wl D A s.heap [(a_p0, .inr (7, [.int r_1.2.1, .int r_1.2.2.1, .int r_1.2.2.2.1, .ref a_p0_kind, .ref a_p0_skyAt, .ref a_p0_skyLoud, .ref a_p0_one, .ref a_p0_other, .ref a_p0_worth, .ref a_p0_hangs, .ref a_p0_now, .ref a_p0_readPerson, .ref a_p0_readSky, .ref a_p0_readOath, .int r_1.2.1, .int r_1.2.2.1, .int r_1.2.2.2.1, .ref a_p0_text, .int p0_length, .int r_1.2.2.2.2.1, .int r_1.2.2.2.2.2.1, .int p0_acts, .int p0_next, .ref a_p0_row, .int p0_told, .ref a_p0_toldAt, .ref a_p0_toldWool, .ref a_p0_toldHeard, .long p0_seed, .ref a_p0_isKept, .ref a_p0_kept])), (a_p0_kind, .inl (cI, 5, .inl p0_kind)), (a_p0_skyAt, .inl (cI, 5, .inl p0_skyAt)), (a_p0_skyLoud, .inl (cI, 5, .inl p0_skyLoud)), (a_p0_one, .inl (cI, 5, .inl p0_one)), (a_p0_other, .inl (cI, 5, .inl p0_other)), (a_p0_worth, .inl (cI, 5, .inl p0_worth)), (a_p0_hangs, .inl (cI, 5, .inl p0_hangs)), (a_p0_now, .inl (cI, 18, .inl x_38)), (a_p0_readPerson, .inl (cI, 10, .inl r_1.2.2.2.2.2.2.1)), (a_p0_readSky, .inl (cI, 10, .inl r_1.2.2.2.2.2.2.2.1)), (a_p0_readOath, .inl (cI, 20, .inl r_1.2.2.2.2.2.2.2.2)), (a_p0_text, .inl (cI, 60, .inl p0_text)), (a_p0_isKept, .inl (cZ, 2, .inl p0_isKept))] H locs → lv_has ls 2 [(0, .ref a_p0)] → W p l e (Rm 5 111) s m args below meth c H locs 0 0 Q (F0 m 57 ls []) := by
      intro x_38 hx_38 H locs ls hW hl
      have hf := hk_38
      rw [← hx_38] at hf
      refine lv_iconst (v := 0) hx hb dX7_county_57 (by decide) ?_
      refine lv_istore_n (lv' := [(1, .int (0 : Int32)), (0, .ref a_p0)]) hx hb dX7_county_58 rfl hl (by decide) rfl (fun ls hl => ?_)
      obtain ⟨e_59, hl_59, hk_59⟩ := bnd hf
      have K_59 : ∀ x_59 : (Nat → Int32) × (Nat → Int32), x_59 = e_59 → ∀ (H : Heap) (locs : List Loc) (ls : Array Slot), Wl D A s.heap [(a_p0, .inr (7, [.int r_1.2.1, .int r_1.2.2.1, .int r_1.2.2.2.1, .ref a_p0_kind, .ref a_p0_skyAt, .ref a_p0_skyLoud, .ref a_p0_one, .ref a_p0_other, .ref a_p0_worth, .ref a_p0_hangs, .ref a_p0_now, .ref a_p0_readPerson, .ref a_p0_readSky, .ref a_p0_readOath, .int r_1.2.1, .int r_1.2.2.1, .int r_1.2.2.2.1, .ref a_p0_text, .int p0_length, .int r_1.2.2.2.2.1, .int r_1.2.2.2.2.2.1, .int p0_acts, .int p0_next, .ref a_p0_row, .int p0_told, .ref a_p0_toldAt, .ref a_p0_toldWool, .ref a_p0_toldHeard, .long p0_seed, .ref a_p0_isKept, .ref a_p0_kept])), (a_p0_kind, .inl (cI, 5, .inl x_59.1)), (a_p0_skyAt, .inl (cI, 5, .inl p0_skyAt)), (a_p0_skyLoud, .inl (cI, 5, .inl p0_skyLoud)), (a_p0_one, .inl (cI, 5, .inl p0_one)), (a_p0_other, .inl (cI, 5, .inl p0_other)), (a_p0_worth, .inl (cI, 5, .inl p0_worth)), (a_p0_hangs, .inl (cI, 5, .inl p0_hangs)), (a_p0_now, .inl (cI, 18, .inl x_59.2)), (a_p0_readPerson, .inl (cI, 10, .inl r_1.2.2.2.2.2.2.1)), (a_p0_readSky, .inl (cI, 10, .inl r_1.2.2.2.2.2.2.2.1)), (a_p0_readOath, .inl (cI, 20, .inl r_1.2.2.2.2.2.2.2.2)), (a_p0_text, .inl (cI, 60, .inl p0_text)), (a_p0_isKept, .inl (cZ, 2, .inl p0_isKept))] H locs → lv_has ls 2 [(0, .ref a_p0)] → W p l e (Rm 5 111) s m args below meth c H locs 0 0 Q (F0 m 129 ls []) := by
        intro x_59 hx_59 H locs ls hW hl
        have hf := hk_59
        rw [← hx_59] at hf
        refine lv_iconst (v := 0) hx hb dX7_county_129 (by decide) ?_
        refine lv_istore_n (lv' := [(1, .int (0 : Int32)), (0, .ref a_p0)]) hx hb dX7_county_130 rfl hl (by decide) rfl (fun ls hl => ?_)
        obtain ⟨e_131, hl_131, hk_131⟩ := bnd hf
        have K_131 : ∀ x_131 : (Nat → Int32) × (Nat → Int32), x_131 = e_131 → ∀ (H : Heap) (locs : List Loc) (ls : Array Slot), Wl D A s.heap [(a_p0, .inr (7, [.int r_1.2.1, .int r_1.2.2.1, .int r_1.2.2.2.1, .ref a_p0_kind, .ref a_p0_skyAt, .ref a_p0_skyLoud, .ref a_p0_one, .ref a_p0_other, .ref a_p0_worth, .ref a_p0_hangs, .ref a_p0_now, .ref a_p0_readPerson, .ref a_p0_readSky, .ref a_p0_readOath, .int r_1.2.1, .int r_1.2.2.1, .int r_1.2.2.2.1, .ref a_p0_text, .int p0_length, .int r_1.2.2.2.2.1, .int r_1.2.2.2.2.2.1, .int p0_acts, .int p0_next, .ref a_p0_row, .int p0_told, .ref a_p0_toldAt, .ref a_p0_toldWool, .ref a_p0_toldHeard, .long p0_seed, .ref a_p0_isKept, .ref a_p0_kept])), (a_p0_kind, .inl (cI, 5, .inl x_59.1)), (a_p0_skyAt, .inl (cI, 5, .inl x_131.1)), (a_p0_skyLoud, .inl (cI, 5, .inl x_131.2)), (a_p0_one, .inl (cI, 5, .inl p0_one)), (a_p0_other, .inl (cI, 5, .inl p0_other)), (a_p0_worth, .inl (cI, 5, .inl p0_worth)), (a_p0_hangs, .inl (cI, 5, .inl p0_hangs)), (a_p0_now, .inl (cI, 18, .inl x_59.2)), (a_p0_readPerson, .inl (cI, 10, .inl r_1.2.2.2.2.2.2.1)), (a_p0_readSky, .inl (cI, 10, .inl r_1.2.2.2.2.2.2.2.1)), (a_p0_readOath, .inl (cI, 20, .inl r_1.2.2.2.2.2.2.2.2)), (a_p0_text, .inl (cI, 60, .inl p0_text)), (a_p0_isKept, .inl (cZ, 2, .inl p0_isKept))] H locs → lv_has ls 2 [(0, .ref a_p0)] → W p l e (Rm 5 111) s m args below meth c H locs 0 0 Q (F0 m 175 ls []) := by
          intro x_131 hx_131 H locs ls hW hl
          have hf := hk_131
          rw [← hx_131] at hf
          refine lv_iconst (v := 0) hx hb dX7_county_175 (by decide) ?_
          refine lv_istore_n (lv' := [(1, .int (0 : Int32)), (0, .ref a_p0)]) hx hb dX7_county_176 rfl hl (by decide) rfl (fun ls hl => ?_)
          obtain ⟨e_177, hl_177, hk_177⟩ := bnd hf
          have K_177 : ∀ x_177 : (Nat → Int32) × (Nat → Int32) × (Nat → Int32) × (Nat → Int32), x_177 = e_177 → ∀ (H : Heap) (locs : List Loc) (ls : Array Slot), Wl D A s.heap [(a_p0, .inr (7, [.int r_1.2.1, .int r_1.2.2.1, .int r_1.2.2.2.1, .ref a_p0_kind, .ref a_p0_skyAt, .ref a_p0_skyLoud, .ref a_p0_one, .ref a_p0_other, .ref a_p0_worth, .ref a_p0_hangs, .ref a_p0_now, .ref a_p0_readPerson, .ref a_p0_readSky, .ref a_p0_readOath, .int r_1.2.1, .int r_1.2.2.1, .int r_1.2.2.2.1, .ref a_p0_text, .int p0_length, .int r_1.2.2.2.2.1, .int r_1.2.2.2.2.2.1, .int p0_acts, .int p0_next, .ref a_p0_row, .int p0_told, .ref a_p0_toldAt, .ref a_p0_toldWool, .ref a_p0_toldHeard, .long p0_seed, .ref a_p0_isKept, .ref a_p0_kept])), (a_p0_kind, .inl (cI, 5, .inl x_59.1)), (a_p0_skyAt, .inl (cI, 5, .inl x_131.1)), (a_p0_skyLoud, .inl (cI, 5, .inl x_131.2)), (a_p0_one, .inl (cI, 5, .inl x_177.1)), (a_p0_other, .inl (cI, 5, .inl x_177.2.1)), (a_p0_worth, .inl (cI, 5, .inl x_177.2.2.1)), (a_p0_hangs, .inl (cI, 5, .inl x_177.2.2.2)), (a_p0_now, .inl (cI, 18, .inl x_59.2)), (a_p0_readPerson, .inl (cI, 10, .inl r_1.2.2.2.2.2.2.1)), (a_p0_readSky, .inl (cI, 10, .inl r_1.2.2.2.2.2.2.2.1)), (a_p0_readOath, .inl (cI, 20, .inl r_1.2.2.2.2.2.2.2.2)), (a_p0_text, .inl (cI, 60, .inl p0_text)), (a_p0_isKept, .inl (cZ, 2, .inl p0_isKept))] H locs → lv_has ls 2 [(0, .ref a_p0)] → W p l e (Rm 5 111) s m args below meth c H locs 0 0 Q (F0 m 253 ls []) := by
            intro x_177 hx_177 H locs ls hW hl
            have hf := hk_177
            rw [← hx_177] at hf
            refine lv_aload_n hx hb dX7_county_253 rfl (lv_at hl 0 rfl) ?_
            refine q_get hB hW 7 in_X7 0 rfl rfl 10 (by decide) fl_31 (v := .ref a_p0_now) rfl dX7_county_254 ?_
            refine lv_bipush (v := 6) hx hb dX7_county_257 (by decide) ?_
            refine lv_iconst (v := 1) hx hb dX7_county_259 (by decide) ?_
            refine lv_aload_n hx hb dX7_county_260 rfl (lv_at hl 0 rfl) ?_
            refine q_get hB hW 7 in_X7 0 rfl rfl 2 (by decide) fl_111 (v := .int r_1.2.2.2.1) rfl dX7_county_261 ?_
            refine lv_ishl hx hb dX7_county_264 ?_
            refine lv_iconst (v := 1) hx hb dX7_county_265 (by decide) ?_
            refine lv_isub hx hb dX7_county_266 ?_
            obtain ⟨r_3, hr_3, hf⟩ := bnd hf
            refine q_iast hB hW 8 rfl hr_3 (ws' := [(a_p0, .inr (7, [.int r_1.2.1, .int r_1.2.2.1, .int r_1.2.2.2.1, .ref a_p0_kind, .ref a_p0_skyAt, .ref a_p0_skyLoud, .ref a_p0_one, .ref a_p0_other, .ref a_p0_worth, .ref a_p0_hangs, .ref a_p0_now, .ref a_p0_readPerson, .ref a_p0_readSky, .ref a_p0_readOath, .int r_1.2.1, .int r_1.2.2.1, .int r_1.2.2.2.1, .ref a_p0_text, .int p0_length, .int r_1.2.2.2.2.1, .int r_1.2.2.2.2.2.1, .int p0_acts, .int p0_next, .ref a_p0_row, .int p0_told, .ref a_p0_toldAt, .ref a_p0_toldWool, .ref a_p0_toldHeard, .long p0_seed, .ref a_p0_isKept, .ref a_p0_kept])), (a_p0_kind, .inl (cI, 5, .inl x_59.1)), (a_p0_skyAt, .inl (cI, 5, .inl x_131.1)), (a_p0_skyLoud, .inl (cI, 5, .inl x_131.2)), (a_p0_one, .inl (cI, 5, .inl x_177.1)), (a_p0_other, .inl (cI, 5, .inl x_177.2.1)), (a_p0_worth, .inl (cI, 5, .inl x_177.2.2.1)), (a_p0_hangs, .inl (cI, 5, .inl x_177.2.2.2)), (a_p0_now, .inl (cI, 18, .inl r_3)), (a_p0_readPerson, .inl (cI, 10, .inl r_1.2.2.2.2.2.2.1)), (a_p0_readSky, .inl (cI, 10, .inl r_1.2.2.2.2.2.2.2.1)), (a_p0_readOath, .inl (cI, 20, .inl r_1.2.2.2.2.2.2.2.2)), (a_p0_text, .inl (cI, 60, .inl p0_text)), (a_p0_isKept, .inl (cZ, 2, .inl p0_isKept))]) rfl dX7_county_267 (fun H locs hW => ?_)
            refine lv_aload_n hx hb dX7_county_268 rfl (lv_at hl 0 rfl) ?_
            refine lv_iconst (v := 0) hx hb dX7_county_269 (by decide) ?_
            refine q_put hB hW 7 in_X7 tyX7 tyX7_ok nmX7 0 rfl rfl 21 (by decide) fl_114 rfl (by first | rfl | decide) (by first | rfl | decide) (Nat.le_of_ble_eq_true rfl) (ws' := [(a_p0, .inr (7, [.int r_1.2.1, .int r_1.2.2.1, .int r_1.2.2.2.1, .ref a_p0_kind, .ref a_p0_skyAt, .ref a_p0_skyLoud, .ref a_p0_one, .ref a_p0_other, .ref a_p0_worth, .ref a_p0_hangs, .ref a_p0_now, .ref a_p0_readPerson, .ref a_p0_readSky, .ref a_p0_readOath, .int r_1.2.1, .int r_1.2.2.1, .int r_1.2.2.2.1, .ref a_p0_text, .int p0_length, .int r_1.2.2.2.2.1, .int r_1.2.2.2.2.2.1, .int (0 : Int32), .int p0_next, .ref a_p0_row, .int p0_told, .ref a_p0_toldAt, .ref a_p0_toldWool, .ref a_p0_toldHeard, .long p0_seed, .ref a_p0_isKept, .ref a_p0_kept])), (a_p0_kind, .inl (cI, 5, .inl x_59.1)), (a_p0_skyAt, .inl (cI, 5, .inl x_131.1)), (a_p0_skyLoud, .inl (cI, 5, .inl x_131.2)), (a_p0_one, .inl (cI, 5, .inl x_177.1)), (a_p0_other, .inl (cI, 5, .inl x_177.2.1)), (a_p0_worth, .inl (cI, 5, .inl x_177.2.2.1)), (a_p0_hangs, .inl (cI, 5, .inl x_177.2.2.2)), (a_p0_now, .inl (cI, 18, .inl r_3)), (a_p0_readPerson, .inl (cI, 10, .inl r_1.2.2.2.2.2.2.1)), (a_p0_readSky, .inl (cI, 10, .inl r_1.2.2.2.2.2.2.2.1)), (a_p0_readOath, .inl (cI, 20, .inl r_1.2.2.2.2.2.2.2.2)), (a_p0_text, .inl (cI, 60, .inl p0_text)), (a_p0_isKept, .inl (cZ, 2, .inl p0_isKept))]) rfl dX7_county_270 (fun H locs hW => ?_)
            refine lv_aload_n hx hb dX7_county_273 rfl (lv_at hl 0 rfl) ?_
            refine q_get hB hW 7 in_X7 0 rfl rfl 29 (by decide) fl_58 (v := .ref a_p0_isKept) rfl dX7_county_274 ?_
            refine lv_iconst (v := 0) hx hb dX7_county_277 (by decide) ?_
            refine lv_iconst (v := 0) hx hb dX7_county_278 (by decide) ?_
            obtain ⟨r_4, hr_4, hf⟩ := bnd hf
            refine q_zast hB hW 13 rfl hr_4 (ws' := [(a_p0, .inr (7, [.int r_1.2.1, .int r_1.2.2.1, .int r_1.2.2.2.1, .ref a_p0_kind, .ref a_p0_skyAt, .ref a_p0_skyLoud, .ref a_p0_one, .ref a_p0_other, .ref a_p0_worth, .ref a_p0_hangs, .ref a_p0_now, .ref a_p0_readPerson, .ref a_p0_readSky, .ref a_p0_readOath, .int r_1.2.1, .int r_1.2.2.1, .int r_1.2.2.2.1, .ref a_p0_text, .int p0_length, .int r_1.2.2.2.2.1, .int r_1.2.2.2.2.2.1, .int (0 : Int32), .int p0_next, .ref a_p0_row, .int p0_told, .ref a_p0_toldAt, .ref a_p0_toldWool, .ref a_p0_toldHeard, .long p0_seed, .ref a_p0_isKept, .ref a_p0_kept])), (a_p0_kind, .inl (cI, 5, .inl x_59.1)), (a_p0_skyAt, .inl (cI, 5, .inl x_131.1)), (a_p0_skyLoud, .inl (cI, 5, .inl x_131.2)), (a_p0_one, .inl (cI, 5, .inl x_177.1)), (a_p0_other, .inl (cI, 5, .inl x_177.2.1)), (a_p0_worth, .inl (cI, 5, .inl x_177.2.2.1)), (a_p0_hangs, .inl (cI, 5, .inl x_177.2.2.2)), (a_p0_now, .inl (cI, 18, .inl r_3)), (a_p0_readPerson, .inl (cI, 10, .inl r_1.2.2.2.2.2.2.1)), (a_p0_readSky, .inl (cI, 10, .inl r_1.2.2.2.2.2.2.2.1)), (a_p0_readOath, .inl (cI, 20, .inl r_1.2.2.2.2.2.2.2.2)), (a_p0_text, .inl (cI, 60, .inl p0_text)), (a_p0_isKept, .inl (cZ, 2, .inl r_4))]) rfl dX7_county_279 (fun H locs hW => ?_)
            refine lv_aload_n hx hb dX7_county_280 rfl (lv_at hl 0 rfl) ?_
            refine q_get hB hW 7 in_X7 0 rfl rfl 29 (by decide) fl_58 (v := .ref a_p0_isKept) rfl dX7_county_281 ?_
            refine lv_iconst (v := 1) hx hb dX7_county_284 (by decide) ?_
            refine lv_iconst (v := 0) hx hb dX7_county_285 (by decide) ?_
            obtain ⟨r_5, hr_5, hf⟩ := bnd hf
            refine q_zast hB hW 13 rfl hr_5 (ws' := [(a_p0, .inr (7, [.int r_1.2.1, .int r_1.2.2.1, .int r_1.2.2.2.1, .ref a_p0_kind, .ref a_p0_skyAt, .ref a_p0_skyLoud, .ref a_p0_one, .ref a_p0_other, .ref a_p0_worth, .ref a_p0_hangs, .ref a_p0_now, .ref a_p0_readPerson, .ref a_p0_readSky, .ref a_p0_readOath, .int r_1.2.1, .int r_1.2.2.1, .int r_1.2.2.2.1, .ref a_p0_text, .int p0_length, .int r_1.2.2.2.2.1, .int r_1.2.2.2.2.2.1, .int (0 : Int32), .int p0_next, .ref a_p0_row, .int p0_told, .ref a_p0_toldAt, .ref a_p0_toldWool, .ref a_p0_toldHeard, .long p0_seed, .ref a_p0_isKept, .ref a_p0_kept])), (a_p0_kind, .inl (cI, 5, .inl x_59.1)), (a_p0_skyAt, .inl (cI, 5, .inl x_131.1)), (a_p0_skyLoud, .inl (cI, 5, .inl x_131.2)), (a_p0_one, .inl (cI, 5, .inl x_177.1)), (a_p0_other, .inl (cI, 5, .inl x_177.2.1)), (a_p0_worth, .inl (cI, 5, .inl x_177.2.2.1)), (a_p0_hangs, .inl (cI, 5, .inl x_177.2.2.2)), (a_p0_now, .inl (cI, 18, .inl r_3)), (a_p0_readPerson, .inl (cI, 10, .inl r_1.2.2.2.2.2.2.1)), (a_p0_readSky, .inl (cI, 10, .inl r_1.2.2.2.2.2.2.2.1)), (a_p0_readOath, .inl (cI, 20, .inl r_1.2.2.2.2.2.2.2.2)), (a_p0_text, .inl (cI, 60, .inl p0_text)), (a_p0_isKept, .inl (cZ, 2, .inl r_5))]) rfl dX7_county_286 (fun H locs hW => ?_)
            refine lv_bipush (v := 100) hx hb dX7_county_287 (by decide) ?_
            refine lv_aload_n hx hb dX7_county_289 rfl (lv_at hl 0 rfl) ?_
            refine q_get hB hW 7 in_X7 0 rfl rfl 0 (by decide) fl_105 (v := .int r_1.2.1) rfl dX7_county_290 ?_
            refine lv_imul hx hb dX7_county_293 ?_
            refine lv_bipush (v := 10) hx hb dX7_county_294 (by decide) ?_
            refine lv_aload_n hx hb dX7_county_296 rfl (lv_at hl 0 rfl) ?_
            refine q_get hB hW 7 in_X7 0 rfl rfl 1 (by decide) fl_108 (v := .int r_1.2.2.1) rfl dX7_county_297 ?_
            refine lv_imul hx hb dX7_county_300 ?_
            refine lv_iadd hx hb dX7_county_301 ?_
            refine lv_aload_n hx hb dX7_county_302 rfl (lv_at hl 0 rfl) ?_
            refine q_get hB hW 7 in_X7 0 rfl rfl 2 (by decide) fl_111 (v := .int r_1.2.2.2.1) rfl dX7_county_303 ?_
            refine lv_iadd hx hb dX7_county_306 ?_
            exact hE _ _ _ _ _ (((((100 : Int32) * r_1.2.1) + ((10 : Int32) * r_1.2.2.1)) + r_1.2.2.2.1), r_1.2.1, r_1.2.2.1, r_1.2.2.2.1, r_1.2.1, r_1.2.2.1, r_1.2.2.2.1, r_1.2.2.2.2.1, r_1.2.2.2.2.2.1, (0 : Int32), x_59.1, x_131.1, x_131.2, x_177.1, x_177.2.1, x_177.2.2.1, x_177.2.2.2, r_3, r_1.2.2.2.2.2.2.1, r_1.2.2.2.2.2.2.2.1, r_1.2.2.2.2.2.2.2.2, r_5) (sm hf) hW rfl dX7_county_307
          have L_177 : ∀ (n : Nat) (y177_1 : Int32) (y177_p0_one : Nat → Int32) (y177_p0_other : Nat → Int32) (y177_p0_worth : Nat → Int32) (y177_p0_hangs : Nat → Int32) (H : Heap) (locs : List Loc) (ls : Array Slot), itr (fun s => b_X7_county_177 r_1.2.2.2.1 r_1.2.2.2.2.2.2.2.2 s.1 s.2.1 s.2.2.1 s.2.2.2.1 s.2.2.2.2) n (y177_1, y177_p0_one, y177_p0_other, y177_p0_worth, y177_p0_hangs) = some e_177 → Wl D A s.heap [(a_p0, .inr (7, [.int r_1.2.1, .int r_1.2.2.1, .int r_1.2.2.2.1, .ref a_p0_kind, .ref a_p0_skyAt, .ref a_p0_skyLoud, .ref a_p0_one, .ref a_p0_other, .ref a_p0_worth, .ref a_p0_hangs, .ref a_p0_now, .ref a_p0_readPerson, .ref a_p0_readSky, .ref a_p0_readOath, .int r_1.2.1, .int r_1.2.2.1, .int r_1.2.2.2.1, .ref a_p0_text, .int p0_length, .int r_1.2.2.2.2.1, .int r_1.2.2.2.2.2.1, .int p0_acts, .int p0_next, .ref a_p0_row, .int p0_told, .ref a_p0_toldAt, .ref a_p0_toldWool, .ref a_p0_toldHeard, .long p0_seed, .ref a_p0_isKept, .ref a_p0_kept])), (a_p0_kind, .inl (cI, 5, .inl x_59.1)), (a_p0_skyAt, .inl (cI, 5, .inl x_131.1)), (a_p0_skyLoud, .inl (cI, 5, .inl x_131.2)), (a_p0_one, .inl (cI, 5, .inl y177_p0_one)), (a_p0_other, .inl (cI, 5, .inl y177_p0_other)), (a_p0_worth, .inl (cI, 5, .inl y177_p0_worth)), (a_p0_hangs, .inl (cI, 5, .inl y177_p0_hangs)), (a_p0_now, .inl (cI, 18, .inl x_59.2)), (a_p0_readPerson, .inl (cI, 10, .inl r_1.2.2.2.2.2.2.1)), (a_p0_readSky, .inl (cI, 10, .inl r_1.2.2.2.2.2.2.2.1)), (a_p0_readOath, .inl (cI, 20, .inl r_1.2.2.2.2.2.2.2.2)), (a_p0_text, .inl (cI, 60, .inl p0_text)), (a_p0_isKept, .inl (cZ, 2, .inl p0_isKept))] H locs → lv_has ls 2 [(0, .ref a_p0), (1, .int y177_1)] → W p l e (Rm 5 111) s m args below meth c H locs 0 0 Q (F0 m 177 ls []) := by
            intro n
            induction n with
            | zero => intro y177_1 y177_p0_one y177_p0_other y177_p0_worth y177_p0_hangs H locs ls h9; exact itr_0 h9
            | succ n ih =>
              intro y177_1 y177_p0_one y177_p0_other y177_p0_worth y177_p0_hangs H locs ls hf hW hl
              obtain ⟨o_177, hf, ho_177⟩ := itr_inv hf
              have hf : b_X7_county_177 r_1.2.2.2.1 r_1.2.2.2.2.2.2.2.2 y177_1 y177_p0_one y177_p0_other y177_p0_worth y177_p0_hangs = some o_177 := hf
              unfold b_X7_county_177 at hf
              refine lv_iload_n hx hb dX7_county_177 rfl (lv_at hl 1 rfl) ?_
              refine lv_aload_n hx hb dX7_county_178 rfl (lv_at hl 0 rfl) ?_
              refine q_get hB hW 7 in_X7 0 rfl rfl 2 (by decide) fl_111 (v := .int r_1.2.2.2.1) rfl dX7_county_179 ?_
              refine lv_icmp_ge (tgt := 253) hx hb dX7_county_182 (by decide) (fun c_6 => ?_) (fun c_6 => ?_)
              · have hf := it_t c_6 hf
                have h9 := o_inr hf ho_177
                exact K_177 (y177_p0_one, y177_p0_other, y177_p0_worth, y177_p0_hangs) h9 _ _ _ hW (lv_sub hl [0] rfl)
              · have hf := it_f c_6 hf
                refine lv_aload_n hx hb dX7_county_185 rfl (lv_at hl 0 rfl) ?_
                refine q_get hB hW 7 in_X7 0 rfl rfl 6 (by decide) fl_19 (v := .ref a_p0_one) rfl dX7_county_186 ?_
                refine lv_iload_n hx hb dX7_county_189 rfl (lv_at hl 1 rfl) ?_
                refine lv_aload_n hx hb dX7_county_190 rfl (lv_at hl 0 rfl) ?_
                refine q_get hB hW 7 in_X7 0 rfl rfl 13 (by decide) fl_40 (v := .ref a_p0_readOath) rfl dX7_county_191 ?_
                refine lv_iconst (v := 4) hx hb dX7_county_194 (by decide) ?_
                refine lv_iload_n hx hb dX7_county_195 rfl (lv_at hl 1 rfl) ?_
                refine lv_imul hx hb dX7_county_196 ?_
                obtain ⟨r_7, hr_7, hf⟩ := bnd hf
                refine q_iald hB hW 11 rfl hr_7 dX7_county_197 ?_
                obtain ⟨r_8, hr_8, hf⟩ := bnd hf
                refine q_iast hB hW 4 rfl hr_8 (ws' := [(a_p0, .inr (7, [.int r_1.2.1, .int r_1.2.2.1, .int r_1.2.2.2.1, .ref a_p0_kind, .ref a_p0_skyAt, .ref a_p0_skyLoud, .ref a_p0_one, .ref a_p0_other, .ref a_p0_worth, .ref a_p0_hangs, .ref a_p0_now, .ref a_p0_readPerson, .ref a_p0_readSky, .ref a_p0_readOath, .int r_1.2.1, .int r_1.2.2.1, .int r_1.2.2.2.1, .ref a_p0_text, .int p0_length, .int r_1.2.2.2.2.1, .int r_1.2.2.2.2.2.1, .int p0_acts, .int p0_next, .ref a_p0_row, .int p0_told, .ref a_p0_toldAt, .ref a_p0_toldWool, .ref a_p0_toldHeard, .long p0_seed, .ref a_p0_isKept, .ref a_p0_kept])), (a_p0_kind, .inl (cI, 5, .inl x_59.1)), (a_p0_skyAt, .inl (cI, 5, .inl x_131.1)), (a_p0_skyLoud, .inl (cI, 5, .inl x_131.2)), (a_p0_one, .inl (cI, 5, .inl r_8)), (a_p0_other, .inl (cI, 5, .inl y177_p0_other)), (a_p0_worth, .inl (cI, 5, .inl y177_p0_worth)), (a_p0_hangs, .inl (cI, 5, .inl y177_p0_hangs)), (a_p0_now, .inl (cI, 18, .inl x_59.2)), (a_p0_readPerson, .inl (cI, 10, .inl r_1.2.2.2.2.2.2.1)), (a_p0_readSky, .inl (cI, 10, .inl r_1.2.2.2.2.2.2.2.1)), (a_p0_readOath, .inl (cI, 20, .inl r_1.2.2.2.2.2.2.2.2)), (a_p0_text, .inl (cI, 60, .inl p0_text)), (a_p0_isKept, .inl (cZ, 2, .inl p0_isKept))]) rfl dX7_county_198 (fun H locs hW => ?_)
                refine lv_aload_n hx hb dX7_county_199 rfl (lv_at hl 0 rfl) ?_
                refine q_get hB hW 7 in_X7 0 rfl rfl 7 (by decide) fl_22 (v := .ref a_p0_other) rfl dX7_county_200 ?_
                refine lv_iload_n hx hb dX7_county_203 rfl (lv_at hl 1 rfl) ?_
                refine lv_aload_n hx hb dX7_county_204 rfl (lv_at hl 0 rfl) ?_
                refine q_get hB hW 7 in_X7 0 rfl rfl 13 (by decide) fl_40 (v := .ref a_p0_readOath) rfl dX7_county_205 ?_
                refine lv_iconst (v := 4) hx hb dX7_county_208 (by decide) ?_
                refine lv_iload_n hx hb dX7_county_209 rfl (lv_at hl 1 rfl) ?_
                refine lv_imul hx hb dX7_county_210 ?_
                refine lv_iconst (v := 1) hx hb dX7_county_211 (by decide) ?_
                refine lv_iadd hx hb dX7_county_212 ?_
                obtain ⟨r_9, hr_9, hf⟩ := bnd hf
                refine q_iald hB hW 11 rfl hr_9 dX7_county_213 ?_
                obtain ⟨r_10, hr_10, hf⟩ := bnd hf
                refine q_iast hB hW 5 rfl hr_10 (ws' := [(a_p0, .inr (7, [.int r_1.2.1, .int r_1.2.2.1, .int r_1.2.2.2.1, .ref a_p0_kind, .ref a_p0_skyAt, .ref a_p0_skyLoud, .ref a_p0_one, .ref a_p0_other, .ref a_p0_worth, .ref a_p0_hangs, .ref a_p0_now, .ref a_p0_readPerson, .ref a_p0_readSky, .ref a_p0_readOath, .int r_1.2.1, .int r_1.2.2.1, .int r_1.2.2.2.1, .ref a_p0_text, .int p0_length, .int r_1.2.2.2.2.1, .int r_1.2.2.2.2.2.1, .int p0_acts, .int p0_next, .ref a_p0_row, .int p0_told, .ref a_p0_toldAt, .ref a_p0_toldWool, .ref a_p0_toldHeard, .long p0_seed, .ref a_p0_isKept, .ref a_p0_kept])), (a_p0_kind, .inl (cI, 5, .inl x_59.1)), (a_p0_skyAt, .inl (cI, 5, .inl x_131.1)), (a_p0_skyLoud, .inl (cI, 5, .inl x_131.2)), (a_p0_one, .inl (cI, 5, .inl r_8)), (a_p0_other, .inl (cI, 5, .inl r_10)), (a_p0_worth, .inl (cI, 5, .inl y177_p0_worth)), (a_p0_hangs, .inl (cI, 5, .inl y177_p0_hangs)), (a_p0_now, .inl (cI, 18, .inl x_59.2)), (a_p0_readPerson, .inl (cI, 10, .inl r_1.2.2.2.2.2.2.1)), (a_p0_readSky, .inl (cI, 10, .inl r_1.2.2.2.2.2.2.2.1)), (a_p0_readOath, .inl (cI, 20, .inl r_1.2.2.2.2.2.2.2.2)), (a_p0_text, .inl (cI, 60, .inl p0_text)), (a_p0_isKept, .inl (cZ, 2, .inl p0_isKept))]) rfl dX7_county_214 (fun H locs hW => ?_)
                refine lv_aload_n hx hb dX7_county_215 rfl (lv_at hl 0 rfl) ?_
                refine q_get hB hW 7 in_X7 0 rfl rfl 8 (by decide) fl_25 (v := .ref a_p0_worth) rfl dX7_county_216 ?_
                refine lv_iload_n hx hb dX7_county_219 rfl (lv_at hl 1 rfl) ?_
                refine lv_aload_n hx hb dX7_county_220 rfl (lv_at hl 0 rfl) ?_
                refine q_get hB hW 7 in_X7 0 rfl rfl 13 (by decide) fl_40 (v := .ref a_p0_readOath) rfl dX7_county_221 ?_
                refine lv_iconst (v := 4) hx hb dX7_county_224 (by decide) ?_
                refine lv_iload_n hx hb dX7_county_225 rfl (lv_at hl 1 rfl) ?_
                refine lv_imul hx hb dX7_county_226 ?_
                refine lv_iconst (v := 2) hx hb dX7_county_227 (by decide) ?_
                refine lv_iadd hx hb dX7_county_228 ?_
                obtain ⟨r_11, hr_11, hf⟩ := bnd hf
                refine q_iald hB hW 11 rfl hr_11 dX7_county_229 ?_
                obtain ⟨r_12, hr_12, hf⟩ := bnd hf
                refine q_iast hB hW 6 rfl hr_12 (ws' := [(a_p0, .inr (7, [.int r_1.2.1, .int r_1.2.2.1, .int r_1.2.2.2.1, .ref a_p0_kind, .ref a_p0_skyAt, .ref a_p0_skyLoud, .ref a_p0_one, .ref a_p0_other, .ref a_p0_worth, .ref a_p0_hangs, .ref a_p0_now, .ref a_p0_readPerson, .ref a_p0_readSky, .ref a_p0_readOath, .int r_1.2.1, .int r_1.2.2.1, .int r_1.2.2.2.1, .ref a_p0_text, .int p0_length, .int r_1.2.2.2.2.1, .int r_1.2.2.2.2.2.1, .int p0_acts, .int p0_next, .ref a_p0_row, .int p0_told, .ref a_p0_toldAt, .ref a_p0_toldWool, .ref a_p0_toldHeard, .long p0_seed, .ref a_p0_isKept, .ref a_p0_kept])), (a_p0_kind, .inl (cI, 5, .inl x_59.1)), (a_p0_skyAt, .inl (cI, 5, .inl x_131.1)), (a_p0_skyLoud, .inl (cI, 5, .inl x_131.2)), (a_p0_one, .inl (cI, 5, .inl r_8)), (a_p0_other, .inl (cI, 5, .inl r_10)), (a_p0_worth, .inl (cI, 5, .inl r_12)), (a_p0_hangs, .inl (cI, 5, .inl y177_p0_hangs)), (a_p0_now, .inl (cI, 18, .inl x_59.2)), (a_p0_readPerson, .inl (cI, 10, .inl r_1.2.2.2.2.2.2.1)), (a_p0_readSky, .inl (cI, 10, .inl r_1.2.2.2.2.2.2.2.1)), (a_p0_readOath, .inl (cI, 20, .inl r_1.2.2.2.2.2.2.2.2)), (a_p0_text, .inl (cI, 60, .inl p0_text)), (a_p0_isKept, .inl (cZ, 2, .inl p0_isKept))]) rfl dX7_county_230 (fun H locs hW => ?_)
                refine lv_aload_n hx hb dX7_county_231 rfl (lv_at hl 0 rfl) ?_
                refine q_get hB hW 7 in_X7 0 rfl rfl 9 (by decide) fl_28 (v := .ref a_p0_hangs) rfl dX7_county_232 ?_
                refine lv_iload_n hx hb dX7_county_235 rfl (lv_at hl 1 rfl) ?_
                refine lv_aload_n hx hb dX7_county_236 rfl (lv_at hl 0 rfl) ?_
                refine q_get hB hW 7 in_X7 0 rfl rfl 13 (by decide) fl_40 (v := .ref a_p0_readOath) rfl dX7_county_237 ?_
                refine lv_iconst (v := 4) hx hb dX7_county_240 (by decide) ?_
                refine lv_iload_n hx hb dX7_county_241 rfl (lv_at hl 1 rfl) ?_
                refine lv_imul hx hb dX7_county_242 ?_
                refine lv_iconst (v := 3) hx hb dX7_county_243 (by decide) ?_
                refine lv_iadd hx hb dX7_county_244 ?_
                obtain ⟨r_13, hr_13, hf⟩ := bnd hf
                refine q_iald hB hW 11 rfl hr_13 dX7_county_245 ?_
                obtain ⟨r_14, hr_14, hf⟩ := bnd hf
                refine q_iast hB hW 7 rfl hr_14 (ws' := [(a_p0, .inr (7, [.int r_1.2.1, .int r_1.2.2.1, .int r_1.2.2.2.1, .ref a_p0_kind, .ref a_p0_skyAt, .ref a_p0_skyLoud, .ref a_p0_one, .ref a_p0_other, .ref a_p0_worth, .ref a_p0_hangs, .ref a_p0_now, .ref a_p0_readPerson, .ref a_p0_readSky, .ref a_p0_readOath, .int r_1.2.1, .int r_1.2.2.1, .int r_1.2.2.2.1, .ref a_p0_text, .int p0_length, .int r_1.2.2.2.2.1, .int r_1.2.2.2.2.2.1, .int p0_acts, .int p0_next, .ref a_p0_row, .int p0_told, .ref a_p0_toldAt, .ref a_p0_toldWool, .ref a_p0_toldHeard, .long p0_seed, .ref a_p0_isKept, .ref a_p0_kept])), (a_p0_kind, .inl (cI, 5, .inl x_59.1)), (a_p0_skyAt, .inl (cI, 5, .inl x_131.1)), (a_p0_skyLoud, .inl (cI, 5, .inl x_131.2)), (a_p0_one, .inl (cI, 5, .inl r_8)), (a_p0_other, .inl (cI, 5, .inl r_10)), (a_p0_worth, .inl (cI, 5, .inl r_12)), (a_p0_hangs, .inl (cI, 5, .inl r_14)), (a_p0_now, .inl (cI, 18, .inl x_59.2)), (a_p0_readPerson, .inl (cI, 10, .inl r_1.2.2.2.2.2.2.1)), (a_p0_readSky, .inl (cI, 10, .inl r_1.2.2.2.2.2.2.2.1)), (a_p0_readOath, .inl (cI, 20, .inl r_1.2.2.2.2.2.2.2.2)), (a_p0_text, .inl (cI, 60, .inl p0_text)), (a_p0_isKept, .inl (cZ, 2, .inl p0_isKept))]) rfl dX7_county_246 (fun H locs hW => ?_)
                refine lv_iinc (v := (y177_1 + (1 : Int32))) (lv' := [(1, .int (y177_1 + (1 : Int32))), (0, .ref a_p0)]) hx hb dX7_county_247 hl (k := 1) rfl rfl (by decide) rfl (fun ls hl => ?_)
                refine lv_goto (tgt := 177) hx hb dX7_county_250 (by decide) ?_
                have h9 := o_inl hf ho_177
                exact ih (y177_1 + (1 : Int32)) r_8 r_10 r_12 r_14 _ _ _ h9 hW (lv_sub hl [1, 0] rfl)
          exact L_177 FU (0 : Int32) p0_one p0_other p0_worth p0_hangs _ _ _ hl_177 hW (lv_sub hl [1, 0] rfl)
        have L_131 : ∀ (n : Nat) (y131_1 : Int32) (y131_p0_skyAt : Nat → Int32) (y131_p0_skyLoud : Nat → Int32) (H : Heap) (locs : List Loc) (ls : Array Slot), itr (fun s => b_X7_county_131 r_1.2.2.1 r_1.2.2.2.2.2.2.2.1 s.1 s.2.1 s.2.2) n (y131_1, y131_p0_skyAt, y131_p0_skyLoud) = some e_131 → Wl D A s.heap [(a_p0, .inr (7, [.int r_1.2.1, .int r_1.2.2.1, .int r_1.2.2.2.1, .ref a_p0_kind, .ref a_p0_skyAt, .ref a_p0_skyLoud, .ref a_p0_one, .ref a_p0_other, .ref a_p0_worth, .ref a_p0_hangs, .ref a_p0_now, .ref a_p0_readPerson, .ref a_p0_readSky, .ref a_p0_readOath, .int r_1.2.1, .int r_1.2.2.1, .int r_1.2.2.2.1, .ref a_p0_text, .int p0_length, .int r_1.2.2.2.2.1, .int r_1.2.2.2.2.2.1, .int p0_acts, .int p0_next, .ref a_p0_row, .int p0_told, .ref a_p0_toldAt, .ref a_p0_toldWool, .ref a_p0_toldHeard, .long p0_seed, .ref a_p0_isKept, .ref a_p0_kept])), (a_p0_kind, .inl (cI, 5, .inl x_59.1)), (a_p0_skyAt, .inl (cI, 5, .inl y131_p0_skyAt)), (a_p0_skyLoud, .inl (cI, 5, .inl y131_p0_skyLoud)), (a_p0_one, .inl (cI, 5, .inl p0_one)), (a_p0_other, .inl (cI, 5, .inl p0_other)), (a_p0_worth, .inl (cI, 5, .inl p0_worth)), (a_p0_hangs, .inl (cI, 5, .inl p0_hangs)), (a_p0_now, .inl (cI, 18, .inl x_59.2)), (a_p0_readPerson, .inl (cI, 10, .inl r_1.2.2.2.2.2.2.1)), (a_p0_readSky, .inl (cI, 10, .inl r_1.2.2.2.2.2.2.2.1)), (a_p0_readOath, .inl (cI, 20, .inl r_1.2.2.2.2.2.2.2.2)), (a_p0_text, .inl (cI, 60, .inl p0_text)), (a_p0_isKept, .inl (cZ, 2, .inl p0_isKept))] H locs → lv_has ls 2 [(0, .ref a_p0), (1, .int y131_1)] → W p l e (Rm 5 111) s m args below meth c H locs 0 0 Q (F0 m 131 ls []) := by
          intro n
          induction n with
          | zero => intro y131_1 y131_p0_skyAt y131_p0_skyLoud H locs ls h9; exact itr_0 h9
          | succ n ih =>
            intro y131_1 y131_p0_skyAt y131_p0_skyLoud H locs ls hf hW hl
            obtain ⟨o_131, hf, ho_131⟩ := itr_inv hf
            have hf : b_X7_county_131 r_1.2.2.1 r_1.2.2.2.2.2.2.2.1 y131_1 y131_p0_skyAt y131_p0_skyLoud = some o_131 := hf
            unfold b_X7_county_131 at hf
            refine lv_iload_n hx hb dX7_county_131 rfl (lv_at hl 1 rfl) ?_
            refine lv_aload_n hx hb dX7_county_132 rfl (lv_at hl 0 rfl) ?_
            refine q_get hB hW 7 in_X7 0 rfl rfl 1 (by decide) fl_108 (v := .int r_1.2.2.1) rfl dX7_county_133 ?_
            refine lv_icmp_ge (tgt := 175) hx hb dX7_county_136 (by decide) (fun c_15 => ?_) (fun c_15 => ?_)
            · have hf := it_t c_15 hf
              have h9 := o_inr hf ho_131
              exact K_131 (y131_p0_skyAt, y131_p0_skyLoud) h9 _ _ _ hW (lv_sub hl [0] rfl)
            · have hf := it_f c_15 hf
              refine lv_aload_n hx hb dX7_county_139 rfl (lv_at hl 0 rfl) ?_
              refine q_get hB hW 7 in_X7 0 rfl rfl 4 (by decide) fl_13 (v := .ref a_p0_skyAt) rfl dX7_county_140 ?_
              refine lv_iload_n hx hb dX7_county_143 rfl (lv_at hl 1 rfl) ?_
              refine lv_aload_n hx hb dX7_county_144 rfl (lv_at hl 0 rfl) ?_
              refine q_get hB hW 7 in_X7 0 rfl rfl 12 (by decide) fl_37 (v := .ref a_p0_readSky) rfl dX7_county_145 ?_
              refine lv_iconst (v := 2) hx hb dX7_county_148 (by decide) ?_
              refine lv_iload_n hx hb dX7_county_149 rfl (lv_at hl 1 rfl) ?_
              refine lv_imul hx hb dX7_county_150 ?_
              obtain ⟨r_16, hr_16, hf⟩ := bnd hf
              refine q_iald hB hW 10 rfl hr_16 dX7_county_151 ?_
              obtain ⟨r_17, hr_17, hf⟩ := bnd hf
              refine q_iast hB hW 2 rfl hr_17 (ws' := [(a_p0, .inr (7, [.int r_1.2.1, .int r_1.2.2.1, .int r_1.2.2.2.1, .ref a_p0_kind, .ref a_p0_skyAt, .ref a_p0_skyLoud, .ref a_p0_one, .ref a_p0_other, .ref a_p0_worth, .ref a_p0_hangs, .ref a_p0_now, .ref a_p0_readPerson, .ref a_p0_readSky, .ref a_p0_readOath, .int r_1.2.1, .int r_1.2.2.1, .int r_1.2.2.2.1, .ref a_p0_text, .int p0_length, .int r_1.2.2.2.2.1, .int r_1.2.2.2.2.2.1, .int p0_acts, .int p0_next, .ref a_p0_row, .int p0_told, .ref a_p0_toldAt, .ref a_p0_toldWool, .ref a_p0_toldHeard, .long p0_seed, .ref a_p0_isKept, .ref a_p0_kept])), (a_p0_kind, .inl (cI, 5, .inl x_59.1)), (a_p0_skyAt, .inl (cI, 5, .inl r_17)), (a_p0_skyLoud, .inl (cI, 5, .inl y131_p0_skyLoud)), (a_p0_one, .inl (cI, 5, .inl p0_one)), (a_p0_other, .inl (cI, 5, .inl p0_other)), (a_p0_worth, .inl (cI, 5, .inl p0_worth)), (a_p0_hangs, .inl (cI, 5, .inl p0_hangs)), (a_p0_now, .inl (cI, 18, .inl x_59.2)), (a_p0_readPerson, .inl (cI, 10, .inl r_1.2.2.2.2.2.2.1)), (a_p0_readSky, .inl (cI, 10, .inl r_1.2.2.2.2.2.2.2.1)), (a_p0_readOath, .inl (cI, 20, .inl r_1.2.2.2.2.2.2.2.2)), (a_p0_text, .inl (cI, 60, .inl p0_text)), (a_p0_isKept, .inl (cZ, 2, .inl p0_isKept))]) rfl dX7_county_152 (fun H locs hW => ?_)
              refine lv_aload_n hx hb dX7_county_153 rfl (lv_at hl 0 rfl) ?_
              refine q_get hB hW 7 in_X7 0 rfl rfl 5 (by decide) fl_16 (v := .ref a_p0_skyLoud) rfl dX7_county_154 ?_
              refine lv_iload_n hx hb dX7_county_157 rfl (lv_at hl 1 rfl) ?_
              refine lv_aload_n hx hb dX7_county_158 rfl (lv_at hl 0 rfl) ?_
              refine q_get hB hW 7 in_X7 0 rfl rfl 12 (by decide) fl_37 (v := .ref a_p0_readSky) rfl dX7_county_159 ?_
              refine lv_iconst (v := 2) hx hb dX7_county_162 (by decide) ?_
              refine lv_iload_n hx hb dX7_county_163 rfl (lv_at hl 1 rfl) ?_
              refine lv_imul hx hb dX7_county_164 ?_
              refine lv_iconst (v := 1) hx hb dX7_county_165 (by decide) ?_
              refine lv_iadd hx hb dX7_county_166 ?_
              obtain ⟨r_18, hr_18, hf⟩ := bnd hf
              refine q_iald hB hW 10 rfl hr_18 dX7_county_167 ?_
              obtain ⟨r_19, hr_19, hf⟩ := bnd hf
              refine q_iast hB hW 3 rfl hr_19 (ws' := [(a_p0, .inr (7, [.int r_1.2.1, .int r_1.2.2.1, .int r_1.2.2.2.1, .ref a_p0_kind, .ref a_p0_skyAt, .ref a_p0_skyLoud, .ref a_p0_one, .ref a_p0_other, .ref a_p0_worth, .ref a_p0_hangs, .ref a_p0_now, .ref a_p0_readPerson, .ref a_p0_readSky, .ref a_p0_readOath, .int r_1.2.1, .int r_1.2.2.1, .int r_1.2.2.2.1, .ref a_p0_text, .int p0_length, .int r_1.2.2.2.2.1, .int r_1.2.2.2.2.2.1, .int p0_acts, .int p0_next, .ref a_p0_row, .int p0_told, .ref a_p0_toldAt, .ref a_p0_toldWool, .ref a_p0_toldHeard, .long p0_seed, .ref a_p0_isKept, .ref a_p0_kept])), (a_p0_kind, .inl (cI, 5, .inl x_59.1)), (a_p0_skyAt, .inl (cI, 5, .inl r_17)), (a_p0_skyLoud, .inl (cI, 5, .inl r_19)), (a_p0_one, .inl (cI, 5, .inl p0_one)), (a_p0_other, .inl (cI, 5, .inl p0_other)), (a_p0_worth, .inl (cI, 5, .inl p0_worth)), (a_p0_hangs, .inl (cI, 5, .inl p0_hangs)), (a_p0_now, .inl (cI, 18, .inl x_59.2)), (a_p0_readPerson, .inl (cI, 10, .inl r_1.2.2.2.2.2.2.1)), (a_p0_readSky, .inl (cI, 10, .inl r_1.2.2.2.2.2.2.2.1)), (a_p0_readOath, .inl (cI, 20, .inl r_1.2.2.2.2.2.2.2.2)), (a_p0_text, .inl (cI, 60, .inl p0_text)), (a_p0_isKept, .inl (cZ, 2, .inl p0_isKept))]) rfl dX7_county_168 (fun H locs hW => ?_)
              refine lv_iinc (v := (y131_1 + (1 : Int32))) (lv' := [(1, .int (y131_1 + (1 : Int32))), (0, .ref a_p0)]) hx hb dX7_county_169 hl (k := 1) rfl rfl (by decide) rfl (fun ls hl => ?_)
              refine lv_goto (tgt := 131) hx hb dX7_county_172 (by decide) ?_
              have h9 := o_inl hf ho_131
              exact ih (y131_1 + (1 : Int32)) r_17 r_19 _ _ _ h9 hW (lv_sub hl [1, 0] rfl)
        exact L_131 FU (0 : Int32) p0_skyAt p0_skyLoud _ _ _ hl_131 hW (lv_sub hl [1, 0] rfl)
      have L_59 : ∀ (n : Nat) (y59_1 : Int32) (y59_p0_kind : Nat → Int32) (y59_p0_now : Nat → Int32) (H : Heap) (locs : List Loc) (ls : Array Slot), itr (fun s => b_X7_county_59 r_1.2.1 r_1.2.2.2.2.2.2.1 s.1 s.2.1 s.2.2) n (y59_1, y59_p0_kind, y59_p0_now) = some e_59 → Wl D A s.heap [(a_p0, .inr (7, [.int r_1.2.1, .int r_1.2.2.1, .int r_1.2.2.2.1, .ref a_p0_kind, .ref a_p0_skyAt, .ref a_p0_skyLoud, .ref a_p0_one, .ref a_p0_other, .ref a_p0_worth, .ref a_p0_hangs, .ref a_p0_now, .ref a_p0_readPerson, .ref a_p0_readSky, .ref a_p0_readOath, .int r_1.2.1, .int r_1.2.2.1, .int r_1.2.2.2.1, .ref a_p0_text, .int p0_length, .int r_1.2.2.2.2.1, .int r_1.2.2.2.2.2.1, .int p0_acts, .int p0_next, .ref a_p0_row, .int p0_told, .ref a_p0_toldAt, .ref a_p0_toldWool, .ref a_p0_toldHeard, .long p0_seed, .ref a_p0_isKept, .ref a_p0_kept])), (a_p0_kind, .inl (cI, 5, .inl y59_p0_kind)), (a_p0_skyAt, .inl (cI, 5, .inl p0_skyAt)), (a_p0_skyLoud, .inl (cI, 5, .inl p0_skyLoud)), (a_p0_one, .inl (cI, 5, .inl p0_one)), (a_p0_other, .inl (cI, 5, .inl p0_other)), (a_p0_worth, .inl (cI, 5, .inl p0_worth)), (a_p0_hangs, .inl (cI, 5, .inl p0_hangs)), (a_p0_now, .inl (cI, 18, .inl y59_p0_now)), (a_p0_readPerson, .inl (cI, 10, .inl r_1.2.2.2.2.2.2.1)), (a_p0_readSky, .inl (cI, 10, .inl r_1.2.2.2.2.2.2.2.1)), (a_p0_readOath, .inl (cI, 20, .inl r_1.2.2.2.2.2.2.2.2)), (a_p0_text, .inl (cI, 60, .inl p0_text)), (a_p0_isKept, .inl (cZ, 2, .inl p0_isKept))] H locs → lv_has ls 2 [(0, .ref a_p0), (1, .int y59_1)] → W p l e (Rm 5 111) s m args below meth c H locs 0 0 Q (F0 m 59 ls []) := by
        intro n
        induction n with
        | zero => intro y59_1 y59_p0_kind y59_p0_now H locs ls h9; exact itr_0 h9
        | succ n ih =>
          intro y59_1 y59_p0_kind y59_p0_now H locs ls hf hW hl
          obtain ⟨o_59, hf, ho_59⟩ := itr_inv hf
          have hf : b_X7_county_59 r_1.2.1 r_1.2.2.2.2.2.2.1 y59_1 y59_p0_kind y59_p0_now = some o_59 := hf
          unfold b_X7_county_59 at hf
          refine lv_iload_n hx hb dX7_county_59 rfl (lv_at hl 1 rfl) ?_
          refine lv_aload_n hx hb dX7_county_60 rfl (lv_at hl 0 rfl) ?_
          refine q_get hB hW 7 in_X7 0 rfl rfl 0 (by decide) fl_105 (v := .int r_1.2.1) rfl dX7_county_61 ?_
          refine lv_icmp_ge (tgt := 129) hx hb dX7_county_64 (by decide) (fun c_20 => ?_) (fun c_20 => ?_)
          · have hf := it_t c_20 hf
            have h9 := o_inr hf ho_59
            exact K_59 (y59_p0_kind, y59_p0_now) h9 _ _ _ hW (lv_sub hl [0] rfl)
          · have hf := it_f c_20 hf
            refine lv_aload_n hx hb dX7_county_67 rfl (lv_at hl 0 rfl) ?_
            refine q_get hB hW 7 in_X7 0 rfl rfl 10 (by decide) fl_31 (v := .ref a_p0_now) rfl dX7_county_68 ?_
            refine lv_iload_n hx hb dX7_county_71 rfl (lv_at hl 1 rfl) ?_
            refine lv_aload_n hx hb dX7_county_72 rfl (lv_at hl 0 rfl) ?_
            refine q_get hB hW 7 in_X7 0 rfl rfl 11 (by decide) fl_34 (v := .ref a_p0_readPerson) rfl dX7_county_73 ?_
            refine lv_iconst (v := 2) hx hb dX7_county_76 (by decide) ?_
            refine lv_iload_n hx hb dX7_county_77 rfl (lv_at hl 1 rfl) ?_
            refine lv_imul hx hb dX7_county_78 ?_
            obtain ⟨r_21, hr_21, hf⟩ := bnd hf
            refine q_iald hB hW 9 rfl hr_21 dX7_county_79 ?_
            obtain ⟨r_22, hr_22, hf⟩ := bnd hf
            refine q_iast hB hW 8 rfl hr_22 (ws' := [(a_p0, .inr (7, [.int r_1.2.1, .int r_1.2.2.1, .int r_1.2.2.2.1, .ref a_p0_kind, .ref a_p0_skyAt, .ref a_p0_skyLoud, .ref a_p0_one, .ref a_p0_other, .ref a_p0_worth, .ref a_p0_hangs, .ref a_p0_now, .ref a_p0_readPerson, .ref a_p0_readSky, .ref a_p0_readOath, .int r_1.2.1, .int r_1.2.2.1, .int r_1.2.2.2.1, .ref a_p0_text, .int p0_length, .int r_1.2.2.2.2.1, .int r_1.2.2.2.2.2.1, .int p0_acts, .int p0_next, .ref a_p0_row, .int p0_told, .ref a_p0_toldAt, .ref a_p0_toldWool, .ref a_p0_toldHeard, .long p0_seed, .ref a_p0_isKept, .ref a_p0_kept])), (a_p0_kind, .inl (cI, 5, .inl y59_p0_kind)), (a_p0_skyAt, .inl (cI, 5, .inl p0_skyAt)), (a_p0_skyLoud, .inl (cI, 5, .inl p0_skyLoud)), (a_p0_one, .inl (cI, 5, .inl p0_one)), (a_p0_other, .inl (cI, 5, .inl p0_other)), (a_p0_worth, .inl (cI, 5, .inl p0_worth)), (a_p0_hangs, .inl (cI, 5, .inl p0_hangs)), (a_p0_now, .inl (cI, 18, .inl r_22)), (a_p0_readPerson, .inl (cI, 10, .inl r_1.2.2.2.2.2.2.1)), (a_p0_readSky, .inl (cI, 10, .inl r_1.2.2.2.2.2.2.2.1)), (a_p0_readOath, .inl (cI, 20, .inl r_1.2.2.2.2.2.2.2.2)), (a_p0_text, .inl (cI, 60, .inl p0_text)), (a_p0_isKept, .inl (cZ, 2, .inl p0_isKept))]) rfl dX7_county_80 (fun H locs hW => ?_)
            refine lv_aload_n hx hb dX7_county_81 rfl (lv_at hl 0 rfl) ?_
            refine q_get hB hW 7 in_X7 0 rfl rfl 3 (by decide) fl_7 (v := .ref a_p0_kind) rfl dX7_county_82 ?_
            refine lv_iload_n hx hb dX7_county_85 rfl (lv_at hl 1 rfl) ?_
            refine lv_aload_n hx hb dX7_county_86 rfl (lv_at hl 0 rfl) ?_
            refine q_get hB hW 7 in_X7 0 rfl rfl 11 (by decide) fl_34 (v := .ref a_p0_readPerson) rfl dX7_county_87 ?_
            refine lv_iconst (v := 2) hx hb dX7_county_90 (by decide) ?_
            refine lv_iload_n hx hb dX7_county_91 rfl (lv_at hl 1 rfl) ?_
            refine lv_imul hx hb dX7_county_92 ?_
            refine lv_iconst (v := 1) hx hb dX7_county_93 (by decide) ?_
            refine lv_iadd hx hb dX7_county_94 ?_
            obtain ⟨r_23, hr_23, hf⟩ := bnd hf
            refine q_iald hB hW 9 rfl hr_23 dX7_county_95 ?_
            obtain ⟨r_24, hr_24, hf⟩ := bnd hf
            refine q_iast hB hW 1 rfl hr_24 (ws' := [(a_p0, .inr (7, [.int r_1.2.1, .int r_1.2.2.1, .int r_1.2.2.2.1, .ref a_p0_kind, .ref a_p0_skyAt, .ref a_p0_skyLoud, .ref a_p0_one, .ref a_p0_other, .ref a_p0_worth, .ref a_p0_hangs, .ref a_p0_now, .ref a_p0_readPerson, .ref a_p0_readSky, .ref a_p0_readOath, .int r_1.2.1, .int r_1.2.2.1, .int r_1.2.2.2.1, .ref a_p0_text, .int p0_length, .int r_1.2.2.2.2.1, .int r_1.2.2.2.2.2.1, .int p0_acts, .int p0_next, .ref a_p0_row, .int p0_told, .ref a_p0_toldAt, .ref a_p0_toldWool, .ref a_p0_toldHeard, .long p0_seed, .ref a_p0_isKept, .ref a_p0_kept])), (a_p0_kind, .inl (cI, 5, .inl r_24)), (a_p0_skyAt, .inl (cI, 5, .inl p0_skyAt)), (a_p0_skyLoud, .inl (cI, 5, .inl p0_skyLoud)), (a_p0_one, .inl (cI, 5, .inl p0_one)), (a_p0_other, .inl (cI, 5, .inl p0_other)), (a_p0_worth, .inl (cI, 5, .inl p0_worth)), (a_p0_hangs, .inl (cI, 5, .inl p0_hangs)), (a_p0_now, .inl (cI, 18, .inl r_22)), (a_p0_readPerson, .inl (cI, 10, .inl r_1.2.2.2.2.2.2.1)), (a_p0_readSky, .inl (cI, 10, .inl r_1.2.2.2.2.2.2.2.1)), (a_p0_readOath, .inl (cI, 20, .inl r_1.2.2.2.2.2.2.2.2)), (a_p0_text, .inl (cI, 60, .inl p0_text)), (a_p0_isKept, .inl (cZ, 2, .inl p0_isKept))]) rfl dX7_county_96 (fun H locs hW => ?_)
            refine lv_aload_n hx hb dX7_county_97 rfl (lv_at hl 0 rfl) ?_
            refine q_get hB hW 7 in_X7 0 rfl rfl 10 (by decide) fl_31 (v := .ref a_p0_now) rfl dX7_county_98 ?_
            refine lv_iconst (v := 5) hx hb dX7_county_101 (by decide) ?_
            refine lv_dup2_11 hx hb dX7_county_102 rfl rfl ?_
            obtain ⟨r_25, hr_25, hf⟩ := bnd hf
            refine q_iald hB hW 8 rfl hr_25 dX7_county_103 ?_
            refine lv_aload_n hx hb dX7_county_104 rfl (lv_at hl 0 rfl) ?_
            refine q_get hB hW 7 in_X7 0 rfl rfl 3 (by decide) fl_7 (v := .ref a_p0_kind) rfl dX7_county_105 ?_
            refine lv_iload_n hx hb dX7_county_108 rfl (lv_at hl 1 rfl) ?_
            obtain ⟨r_26, hr_26, hf⟩ := bnd hf
            refine q_iald hB hW 1 rfl hr_26 dX7_county_109 ?_
            refine lv_iconst (v := 1) hx hb dX7_county_110 (by decide) ?_
            refine lv_icmp_ne (tgt := 120) hx hb dX7_county_111 (by decide) (fun c_27 => ?_) (fun c_27 => ?_)
            · have hf := it_f c_27 hf
              refine lv_iconst (v := 0) hx hb dX7_county_120 (by decide) ?_
              refine lv_ior hx hb dX7_county_121 ?_
              obtain ⟨r_28, hr_28, hf⟩ := bnd hf
              refine q_iast hB hW 8 rfl hr_28 (ws' := [(a_p0, .inr (7, [.int r_1.2.1, .int r_1.2.2.1, .int r_1.2.2.2.1, .ref a_p0_kind, .ref a_p0_skyAt, .ref a_p0_skyLoud, .ref a_p0_one, .ref a_p0_other, .ref a_p0_worth, .ref a_p0_hangs, .ref a_p0_now, .ref a_p0_readPerson, .ref a_p0_readSky, .ref a_p0_readOath, .int r_1.2.1, .int r_1.2.2.1, .int r_1.2.2.2.1, .ref a_p0_text, .int p0_length, .int r_1.2.2.2.2.1, .int r_1.2.2.2.2.2.1, .int p0_acts, .int p0_next, .ref a_p0_row, .int p0_told, .ref a_p0_toldAt, .ref a_p0_toldWool, .ref a_p0_toldHeard, .long p0_seed, .ref a_p0_isKept, .ref a_p0_kept])), (a_p0_kind, .inl (cI, 5, .inl r_24)), (a_p0_skyAt, .inl (cI, 5, .inl p0_skyAt)), (a_p0_skyLoud, .inl (cI, 5, .inl p0_skyLoud)), (a_p0_one, .inl (cI, 5, .inl p0_one)), (a_p0_other, .inl (cI, 5, .inl p0_other)), (a_p0_worth, .inl (cI, 5, .inl p0_worth)), (a_p0_hangs, .inl (cI, 5, .inl p0_hangs)), (a_p0_now, .inl (cI, 18, .inl r_28)), (a_p0_readPerson, .inl (cI, 10, .inl r_1.2.2.2.2.2.2.1)), (a_p0_readSky, .inl (cI, 10, .inl r_1.2.2.2.2.2.2.2.1)), (a_p0_readOath, .inl (cI, 20, .inl r_1.2.2.2.2.2.2.2.2)), (a_p0_text, .inl (cI, 60, .inl p0_text)), (a_p0_isKept, .inl (cZ, 2, .inl p0_isKept))]) rfl dX7_county_122 (fun H locs hW => ?_)
              refine lv_iinc (v := (y59_1 + (1 : Int32))) (lv' := [(1, .int (y59_1 + (1 : Int32))), (0, .ref a_p0)]) hx hb dX7_county_123 hl (k := 1) rfl rfl (by decide) rfl (fun ls hl => ?_)
              refine lv_goto (tgt := 59) hx hb dX7_county_126 (by decide) ?_
              have h9 := o_inl hf ho_59
              exact ih (y59_1 + (1 : Int32)) r_24 r_28 _ _ _ h9 hW (lv_sub hl [1, 0] rfl)
            · have hf := it_t c_27 hf
              refine lv_iconst (v := 1) hx hb dX7_county_114 (by decide) ?_
              refine lv_iload_n hx hb dX7_county_115 rfl (lv_at hl 1 rfl) ?_
              refine lv_ishl hx hb dX7_county_116 ?_
              refine lv_goto (tgt := 121) hx hb dX7_county_117 (by decide) ?_
              refine lv_ior hx hb dX7_county_121 ?_
              obtain ⟨r_29, hr_29, hf⟩ := bnd hf
              refine q_iast hB hW 8 rfl hr_29 (ws' := [(a_p0, .inr (7, [.int r_1.2.1, .int r_1.2.2.1, .int r_1.2.2.2.1, .ref a_p0_kind, .ref a_p0_skyAt, .ref a_p0_skyLoud, .ref a_p0_one, .ref a_p0_other, .ref a_p0_worth, .ref a_p0_hangs, .ref a_p0_now, .ref a_p0_readPerson, .ref a_p0_readSky, .ref a_p0_readOath, .int r_1.2.1, .int r_1.2.2.1, .int r_1.2.2.2.1, .ref a_p0_text, .int p0_length, .int r_1.2.2.2.2.1, .int r_1.2.2.2.2.2.1, .int p0_acts, .int p0_next, .ref a_p0_row, .int p0_told, .ref a_p0_toldAt, .ref a_p0_toldWool, .ref a_p0_toldHeard, .long p0_seed, .ref a_p0_isKept, .ref a_p0_kept])), (a_p0_kind, .inl (cI, 5, .inl r_24)), (a_p0_skyAt, .inl (cI, 5, .inl p0_skyAt)), (a_p0_skyLoud, .inl (cI, 5, .inl p0_skyLoud)), (a_p0_one, .inl (cI, 5, .inl p0_one)), (a_p0_other, .inl (cI, 5, .inl p0_other)), (a_p0_worth, .inl (cI, 5, .inl p0_worth)), (a_p0_hangs, .inl (cI, 5, .inl p0_hangs)), (a_p0_now, .inl (cI, 18, .inl r_29)), (a_p0_readPerson, .inl (cI, 10, .inl r_1.2.2.2.2.2.2.1)), (a_p0_readSky, .inl (cI, 10, .inl r_1.2.2.2.2.2.2.2.1)), (a_p0_readOath, .inl (cI, 20, .inl r_1.2.2.2.2.2.2.2.2)), (a_p0_text, .inl (cI, 60, .inl p0_text)), (a_p0_isKept, .inl (cZ, 2, .inl p0_isKept))]) rfl dX7_county_122 (fun H locs hW => ?_)
              refine lv_iinc (v := (y59_1 + (1 : Int32))) (lv' := [(1, .int (y59_1 + (1 : Int32))), (0, .ref a_p0)]) hx hb dX7_county_123 hl (k := 1) rfl rfl (by decide) rfl (fun ls hl => ?_)
              refine lv_goto (tgt := 59) hx hb dX7_county_126 (by decide) ?_
              have h9 := o_inl hf ho_59
              exact ih (y59_1 + (1 : Int32)) r_24 r_29 _ _ _ h9 hW (lv_sub hl [1, 0] rfl)
      exact L_59 FU (0 : Int32) p0_kind x_38 _ _ _ hl_59 hW (lv_sub hl [1, 0] rfl)
    have L_38 : ∀ (n : Nat) (y38_1 : Int32) (y38_p0_now : Nat → Int32) (H : Heap) (locs : List Loc) (ls : Array Slot), itr (fun s => b_X7_county_38 s.1 s.2) n (y38_1, y38_p0_now) = some e_38 → Wl D A s.heap [(a_p0, .inr (7, [.int r_1.2.1, .int r_1.2.2.1, .int r_1.2.2.2.1, .ref a_p0_kind, .ref a_p0_skyAt, .ref a_p0_skyLoud, .ref a_p0_one, .ref a_p0_other, .ref a_p0_worth, .ref a_p0_hangs, .ref a_p0_now, .ref a_p0_readPerson, .ref a_p0_readSky, .ref a_p0_readOath, .int r_1.2.1, .int r_1.2.2.1, .int r_1.2.2.2.1, .ref a_p0_text, .int p0_length, .int r_1.2.2.2.2.1, .int r_1.2.2.2.2.2.1, .int p0_acts, .int p0_next, .ref a_p0_row, .int p0_told, .ref a_p0_toldAt, .ref a_p0_toldWool, .ref a_p0_toldHeard, .long p0_seed, .ref a_p0_isKept, .ref a_p0_kept])), (a_p0_kind, .inl (cI, 5, .inl p0_kind)), (a_p0_skyAt, .inl (cI, 5, .inl p0_skyAt)), (a_p0_skyLoud, .inl (cI, 5, .inl p0_skyLoud)), (a_p0_one, .inl (cI, 5, .inl p0_one)), (a_p0_other, .inl (cI, 5, .inl p0_other)), (a_p0_worth, .inl (cI, 5, .inl p0_worth)), (a_p0_hangs, .inl (cI, 5, .inl p0_hangs)), (a_p0_now, .inl (cI, 18, .inl y38_p0_now)), (a_p0_readPerson, .inl (cI, 10, .inl r_1.2.2.2.2.2.2.1)), (a_p0_readSky, .inl (cI, 10, .inl r_1.2.2.2.2.2.2.2.1)), (a_p0_readOath, .inl (cI, 20, .inl r_1.2.2.2.2.2.2.2.2)), (a_p0_text, .inl (cI, 60, .inl p0_text)), (a_p0_isKept, .inl (cZ, 2, .inl p0_isKept))] H locs → lv_has ls 2 [(0, .ref a_p0), (1, .int y38_1)] → W p l e (Rm 5 111) s m args below meth c H locs 0 0 Q (F0 m 38 ls []) := by
      intro n
      induction n with
      | zero => intro y38_1 y38_p0_now H locs ls h9; exact itr_0 h9
      | succ n ih =>
        intro y38_1 y38_p0_now H locs ls hf hW hl
        obtain ⟨o_38, hf, ho_38⟩ := itr_inv hf
        have hf : b_X7_county_38 y38_1 y38_p0_now = some o_38 := hf
        unfold b_X7_county_38 at hf
        refine lv_iload_n hx hb dX7_county_38 rfl (lv_at hl 1 rfl) ?_
        refine lv_bipush (v := 9) hx hb dX7_county_39 (by decide) ?_
        refine lv_icmp_ge (tgt := 57) hx hb dX7_county_41 (by decide) (fun c_30 => ?_) (fun c_30 => ?_)
        · have hf := it_t c_30 hf
          have h9 := o_inr hf ho_38
          exact K_38 y38_p0_now h9 _ _ _ hW (lv_sub hl [0] rfl)
        · have hf := it_f c_30 hf
          refine lv_aload_n hx hb dX7_county_44 rfl (lv_at hl 0 rfl) ?_
          refine q_get hB hW 7 in_X7 0 rfl rfl 10 (by decide) fl_31 (v := .ref a_p0_now) rfl dX7_county_45 ?_
          refine lv_iload_n hx hb dX7_county_48 rfl (lv_at hl 1 rfl) ?_
          refine lv_iconst (v := 0) hx hb dX7_county_49 (by decide) ?_
          obtain ⟨r_31, hr_31, hf⟩ := bnd hf
          refine q_iast hB hW 8 rfl hr_31 (ws' := [(a_p0, .inr (7, [.int r_1.2.1, .int r_1.2.2.1, .int r_1.2.2.2.1, .ref a_p0_kind, .ref a_p0_skyAt, .ref a_p0_skyLoud, .ref a_p0_one, .ref a_p0_other, .ref a_p0_worth, .ref a_p0_hangs, .ref a_p0_now, .ref a_p0_readPerson, .ref a_p0_readSky, .ref a_p0_readOath, .int r_1.2.1, .int r_1.2.2.1, .int r_1.2.2.2.1, .ref a_p0_text, .int p0_length, .int r_1.2.2.2.2.1, .int r_1.2.2.2.2.2.1, .int p0_acts, .int p0_next, .ref a_p0_row, .int p0_told, .ref a_p0_toldAt, .ref a_p0_toldWool, .ref a_p0_toldHeard, .long p0_seed, .ref a_p0_isKept, .ref a_p0_kept])), (a_p0_kind, .inl (cI, 5, .inl p0_kind)), (a_p0_skyAt, .inl (cI, 5, .inl p0_skyAt)), (a_p0_skyLoud, .inl (cI, 5, .inl p0_skyLoud)), (a_p0_one, .inl (cI, 5, .inl p0_one)), (a_p0_other, .inl (cI, 5, .inl p0_other)), (a_p0_worth, .inl (cI, 5, .inl p0_worth)), (a_p0_hangs, .inl (cI, 5, .inl p0_hangs)), (a_p0_now, .inl (cI, 18, .inl r_31)), (a_p0_readPerson, .inl (cI, 10, .inl r_1.2.2.2.2.2.2.1)), (a_p0_readSky, .inl (cI, 10, .inl r_1.2.2.2.2.2.2.2.1)), (a_p0_readOath, .inl (cI, 20, .inl r_1.2.2.2.2.2.2.2.2)), (a_p0_text, .inl (cI, 60, .inl p0_text)), (a_p0_isKept, .inl (cZ, 2, .inl p0_isKept))]) rfl dX7_county_50 (fun H locs hW => ?_)
          refine lv_iinc (v := (y38_1 + (1 : Int32))) (lv' := [(1, .int (y38_1 + (1 : Int32))), (0, .ref a_p0)]) hx hb dX7_county_51 hl (k := 1) rfl rfl (by decide) rfl (fun ls hl => ?_)
          refine lv_goto (tgt := 38) hx hb dX7_county_54 (by decide) ?_
          have h9 := o_inl hf ho_38
          exact ih (y38_1 + (1 : Int32)) r_31 _ _ _ h9 hW (lv_sub hl [1, 0] rfl)
    exact L_38 FU (0 : Int32) p0_now _ _ _ hl_38 hW (lv_sub hl [1, 0] rfl)
  · have hf := it_f c_2 hf
    refine lv_bipush (v := -3) hx hb dX7_county_9 (by decide) ?_
    exact hE _ _ _ _ _ ((-3 : Int32), p0_persons, p0_skies, p0_oaths, r_1.2.1, r_1.2.2.1, r_1.2.2.2.1, r_1.2.2.2.2.1, r_1.2.2.2.2.2.1, p0_acts, p0_kind, p0_skyAt, p0_skyLoud, p0_one, p0_other, p0_worth, p0_hangs, p0_now, r_1.2.2.2.2.2.2.1, r_1.2.2.2.2.2.2.2.1, r_1.2.2.2.2.2.2.2.2, p0_isKept) (sm hf) hW rfl dX7_county_11
def f_X7_isPerson (v1 : Int32) (p0_persons : Int32) : Option (Int32) := (f_X7_in (Int32.toInt64 v1) (0 : Int64) (Int32.toInt64 (p0_persons - (1 : Int32)))).bind fun r_1 => some r_1
set_option maxHeartbeats 4000000 in
set_option maxRecDepth 100000 in
theorem c_X7_isPerson (l : Launch) (D : va_G) (cI cZ : ClassId) (a_p0 a_p0_kind a_p0_skyAt a_p0_skyLoud a_p0_one a_p0_other a_p0_worth a_p0_hangs a_p0_now a_p0_readPerson a_p0_readSky a_p0_readOath a_p0_text a_p0_row a_p0_toldAt a_p0_toldWool a_p0_toldHeard a_p0_isKept a_p0_kept : Nat) (p0_persons : Int32) (p0_skies : Int32) (p0_oaths : Int32) (p0_readPersons : Int32) (p0_readSkies : Int32) (p0_readOaths : Int32) (p0_length : Int32) (p0_at : Int32) (p0_faultAt : Int32) (p0_acts : Int32) (p0_next : Int32) (p0_told : Int32) (p0_seed : Int64) (v1 : Int32) (q : Int32) (hf : f_X7_isPerson v1 p0_persons = some q) : CtZ l D cI cZ yX7_isPerson wsX7_isPerson 1 25 [.ref a_p0, .int v1] [(a_p0, .inr (7, [.int p0_persons, .int p0_skies, .int p0_oaths, .ref a_p0_kind, .ref a_p0_skyAt, .ref a_p0_skyLoud, .ref a_p0_one, .ref a_p0_other, .ref a_p0_worth, .ref a_p0_hangs, .ref a_p0_now, .ref a_p0_readPerson, .ref a_p0_readSky, .ref a_p0_readOath, .int p0_readPersons, .int p0_readSkies, .int p0_readOaths, .ref a_p0_text, .int p0_length, .int p0_at, .int p0_faultAt, .int p0_acts, .int p0_next, .ref a_p0_row, .int p0_told, .ref a_p0_toldAt, .ref a_p0_toldWool, .ref a_p0_toldHeard, .long p0_seed, .ref a_p0_isKept, .ref a_p0_kept]))] (fun q => [(a_p0, .inr (7, [.int p0_persons, .int p0_skies, .int p0_oaths, .ref a_p0_kind, .ref a_p0_skyAt, .ref a_p0_skyLoud, .ref a_p0_one, .ref a_p0_other, .ref a_p0_worth, .ref a_p0_hangs, .ref a_p0_now, .ref a_p0_readPerson, .ref a_p0_readSky, .ref a_p0_readOath, .int p0_readPersons, .int p0_readSkies, .int p0_readOaths, .ref a_p0_text, .int p0_length, .int p0_at, .int p0_faultAt, .int p0_acts, .int p0_next, .ref a_p0_row, .int p0_told, .ref a_p0_toldAt, .ref a_p0_toldWool, .ref a_p0_toldHeard, .long p0_seed, .ref a_p0_isKept, .ref a_p0_kept]))]) (fun q => q) q := by
  refine CtZ.of (cc := cX7_isPerson) (maxL := 2) (plainFor_of_name (by decide)) rfl (Nat.le_of_ble_eq_true rfl) ?_
  intro p e s m args below meth c A Q H ls hB hE hW hl
  have hx := hB.1
  have hb := hB.2.1
  have hml := hB.2.2.2.1
  have hown : s.vm.findClass RX7 = some m.cls := hB.2.2.2.2.1
  have hts := hB.2.2.2.2.2.1
  have hK := hB.2.2.2.2.2.2.2.1.1
  have hl : lv_has ls 2 [(0, .ref a_p0), (1, .int v1)] := hl
  have in_X7 : ∀ w ∈ wsX70, w ∈ wsX7_isPerson := fun w h => List.mem_cons_of_mem _ (List.mem_append_right _ h)
  have fl_105 : (Cond.fieldLink RX7 105 (TX7 0).1 (TX7 0).2.1 (TX7 0).2.2.1).before args s = true := hts (.fieldLink RX7 105 "ClapOathsModel" "persons" "I") (by decide +kernel)
  unfold f_X7_isPerson at hf
  refine lv_iload_n hx hb dX7_isPerson_0 rfl (lv_at hl 1 rfl) ?_
  refine lv_i2l (v := (Int32.toInt64 v1)) hx hb dX7_isPerson_1 rfl ?_
  refine lv_lconst (v := 0) hx hb dX7_isPerson_2 (by decide) ?_
  refine lv_aload_n hx hb dX7_isPerson_3 rfl (lv_at hl 0 rfl) ?_
  refine q_get hB hW 7 in_X7 0 rfl rfl 0 (by decide) fl_105 (v := .int p0_persons) rfl dX7_isPerson_4 ?_
  refine lv_iconst (v := 1) hx hb dX7_isPerson_7 (by decide) ?_
  refine lv_isub hx hb dX7_isPerson_8 ?_
  refine lv_i2l (v := (Int32.toInt64 (p0_persons - (1 : Int32)))) hx hb dX7_isPerson_9 rfl ?_
  obtain ⟨r_1, hr_1, hf⟩ := bnd hf
  refine q_callSZ hB hW (As := [.long (Int32.toInt64 v1), .long (0 : Int64), .long (Int32.toInt64 (p0_persons - (1 : Int32)))]) (rest := []) (ws' := [(a_p0, .inr (7, [.int p0_persons, .int p0_skies, .int p0_oaths, .ref a_p0_kind, .ref a_p0_skyAt, .ref a_p0_skyLoud, .ref a_p0_one, .ref a_p0_other, .ref a_p0_worth, .ref a_p0_hangs, .ref a_p0_now, .ref a_p0_readPerson, .ref a_p0_readSky, .ref a_p0_readOath, .int p0_readPersons, .int p0_readSkies, .int p0_readOaths, .ref a_p0_text, .int p0_length, .int p0_at, .int p0_faultAt, .int p0_acts, .int p0_next, .ref a_p0_row, .int p0_told, .ref a_p0_toldAt, .ref a_p0_toldWool, .ref a_p0_toldHeard, .long p0_seed, .ref a_p0_isKept, .ref a_p0_kept]))]) (c_X7_in l D cI cZ (Int32.toInt64 v1) (0 : Int64) (Int32.toInt64 (p0_persons - (1 : Int32))) r_1 hr_1) (va_cwS 3 hts gX7_isPerson_X7_in rfl rfl rfl (by decide +kernel) ⟨Nat.le_of_ble_eq_true rfl, Nat.le_of_ble_eq_true rfl⟩) [] rfl rfl rfl rfl rfl hl.1 rfl (Nat.le_of_ble_eq_true rfl) ⟨Nat.le_of_ble_eq_true rfl, Nat.le_of_ble_eq_true rfl⟩ dX7_isPerson_10 (fun hzr_1 H locs hW => ?_)
  exact hE _ _ _ _ _ r_1 (sm hf) hW rfl hzr_1 dX7_isPerson_13
def f_X7_isOath (v1 : Int32) (p0_oaths : Int32) : Option (Int32) := (f_X7_in (Int32.toInt64 v1) (0 : Int64) (Int32.toInt64 (p0_oaths - (1 : Int32)))).bind fun r_1 => some r_1
set_option maxHeartbeats 4000000 in
set_option maxRecDepth 100000 in
theorem c_X7_isOath (l : Launch) (D : va_G) (cI cZ : ClassId) (a_p0 a_p0_kind a_p0_skyAt a_p0_skyLoud a_p0_one a_p0_other a_p0_worth a_p0_hangs a_p0_now a_p0_readPerson a_p0_readSky a_p0_readOath a_p0_text a_p0_row a_p0_toldAt a_p0_toldWool a_p0_toldHeard a_p0_isKept a_p0_kept : Nat) (p0_persons : Int32) (p0_skies : Int32) (p0_oaths : Int32) (p0_readPersons : Int32) (p0_readSkies : Int32) (p0_readOaths : Int32) (p0_length : Int32) (p0_at : Int32) (p0_faultAt : Int32) (p0_acts : Int32) (p0_next : Int32) (p0_told : Int32) (p0_seed : Int64) (v1 : Int32) (q : Int32) (hf : f_X7_isOath v1 p0_oaths = some q) : CtZ l D cI cZ yX7_isOath wsX7_isOath 1 25 [.ref a_p0, .int v1] [(a_p0, .inr (7, [.int p0_persons, .int p0_skies, .int p0_oaths, .ref a_p0_kind, .ref a_p0_skyAt, .ref a_p0_skyLoud, .ref a_p0_one, .ref a_p0_other, .ref a_p0_worth, .ref a_p0_hangs, .ref a_p0_now, .ref a_p0_readPerson, .ref a_p0_readSky, .ref a_p0_readOath, .int p0_readPersons, .int p0_readSkies, .int p0_readOaths, .ref a_p0_text, .int p0_length, .int p0_at, .int p0_faultAt, .int p0_acts, .int p0_next, .ref a_p0_row, .int p0_told, .ref a_p0_toldAt, .ref a_p0_toldWool, .ref a_p0_toldHeard, .long p0_seed, .ref a_p0_isKept, .ref a_p0_kept]))] (fun q => [(a_p0, .inr (7, [.int p0_persons, .int p0_skies, .int p0_oaths, .ref a_p0_kind, .ref a_p0_skyAt, .ref a_p0_skyLoud, .ref a_p0_one, .ref a_p0_other, .ref a_p0_worth, .ref a_p0_hangs, .ref a_p0_now, .ref a_p0_readPerson, .ref a_p0_readSky, .ref a_p0_readOath, .int p0_readPersons, .int p0_readSkies, .int p0_readOaths, .ref a_p0_text, .int p0_length, .int p0_at, .int p0_faultAt, .int p0_acts, .int p0_next, .ref a_p0_row, .int p0_told, .ref a_p0_toldAt, .ref a_p0_toldWool, .ref a_p0_toldHeard, .long p0_seed, .ref a_p0_isKept, .ref a_p0_kept]))]) (fun q => q) q := by
  refine CtZ.of (cc := cX7_isOath) (maxL := 2) (plainFor_of_name (by decide)) rfl (Nat.le_of_ble_eq_true rfl) ?_
  intro p e s m args below meth c A Q H ls hB hE hW hl
  have hx := hB.1
  have hb := hB.2.1
  have hml := hB.2.2.2.1
  have hown : s.vm.findClass RX7 = some m.cls := hB.2.2.2.2.1
  have hts := hB.2.2.2.2.2.1
  have hK := hB.2.2.2.2.2.2.2.1.1
  have hl : lv_has ls 2 [(0, .ref a_p0), (1, .int v1)] := hl
  have in_X7 : ∀ w ∈ wsX70, w ∈ wsX7_isOath := fun w h => List.mem_cons_of_mem _ (List.mem_append_right _ h)
  have fl_111 : (Cond.fieldLink RX7 111 (TX7 2).1 (TX7 2).2.1 (TX7 2).2.2.1).before args s = true := hts (.fieldLink RX7 111 "ClapOathsModel" "oaths" "I") (by decide +kernel)
  unfold f_X7_isOath at hf
  refine lv_iload_n hx hb dX7_isOath_0 rfl (lv_at hl 1 rfl) ?_
  refine lv_i2l (v := (Int32.toInt64 v1)) hx hb dX7_isOath_1 rfl ?_
  refine lv_lconst (v := 0) hx hb dX7_isOath_2 (by decide) ?_
  refine lv_aload_n hx hb dX7_isOath_3 rfl (lv_at hl 0 rfl) ?_
  refine q_get hB hW 7 in_X7 0 rfl rfl 2 (by decide) fl_111 (v := .int p0_oaths) rfl dX7_isOath_4 ?_
  refine lv_iconst (v := 1) hx hb dX7_isOath_7 (by decide) ?_
  refine lv_isub hx hb dX7_isOath_8 ?_
  refine lv_i2l (v := (Int32.toInt64 (p0_oaths - (1 : Int32)))) hx hb dX7_isOath_9 rfl ?_
  obtain ⟨r_1, hr_1, hf⟩ := bnd hf
  refine q_callSZ hB hW (As := [.long (Int32.toInt64 v1), .long (0 : Int64), .long (Int32.toInt64 (p0_oaths - (1 : Int32)))]) (rest := []) (ws' := [(a_p0, .inr (7, [.int p0_persons, .int p0_skies, .int p0_oaths, .ref a_p0_kind, .ref a_p0_skyAt, .ref a_p0_skyLoud, .ref a_p0_one, .ref a_p0_other, .ref a_p0_worth, .ref a_p0_hangs, .ref a_p0_now, .ref a_p0_readPerson, .ref a_p0_readSky, .ref a_p0_readOath, .int p0_readPersons, .int p0_readSkies, .int p0_readOaths, .ref a_p0_text, .int p0_length, .int p0_at, .int p0_faultAt, .int p0_acts, .int p0_next, .ref a_p0_row, .int p0_told, .ref a_p0_toldAt, .ref a_p0_toldWool, .ref a_p0_toldHeard, .long p0_seed, .ref a_p0_isKept, .ref a_p0_kept]))]) (c_X7_in l D cI cZ (Int32.toInt64 v1) (0 : Int64) (Int32.toInt64 (p0_oaths - (1 : Int32))) r_1 hr_1) (va_cwS 3 hts gX7_isOath_X7_in rfl rfl rfl (by decide +kernel) ⟨Nat.le_of_ble_eq_true rfl, Nat.le_of_ble_eq_true rfl⟩) [] rfl rfl rfl rfl rfl hl.1 rfl (Nat.le_of_ble_eq_true rfl) ⟨Nat.le_of_ble_eq_true rfl, Nat.le_of_ble_eq_true rfl⟩ dX7_isOath_10 (fun hzr_1 H locs hW => ?_)
  exact hE _ _ _ _ _ r_1 (sm hf) hW rfl hzr_1 dX7_isOath_13
def f_X7_isPlace (v0 : Int32) : Option (Int32) := (f_X7_in (Int32.toInt64 v0) (0 : Int64) (9 : Int64)).bind fun r_1 => some r_1
set_option maxHeartbeats 4000000 in
set_option maxRecDepth 100000 in
theorem c_X7_isPlace (l : Launch) (D : va_G) (cI cZ : ClassId) (v0 : Int32) (q : Int32) (hf : f_X7_isPlace v0 = some q) : CtZ l D cI cZ yX7_isPlace wsX7_isPlace 1 25 [.int v0] [] (fun q => []) (fun q => q) q := by
  refine CtZ.of (cc := cX7_isPlace) (maxL := 1) (plainFor_of_name (by decide)) rfl (Nat.le_of_ble_eq_true rfl) ?_
  intro p e s m args below meth c A Q H ls hB hE hW hl
  have hx := hB.1
  have hb := hB.2.1
  have hml := hB.2.2.2.1
  have hown : s.vm.findClass RX7 = some m.cls := hB.2.2.2.2.1
  have hts := hB.2.2.2.2.2.1
  have hK := hB.2.2.2.2.2.2.2.1.1
  have hl : lv_has ls 1 [(0, .int v0)] := hl
  unfold f_X7_isPlace at hf
  refine lv_iload_n hx hb dX7_isPlace_0 rfl (lv_at hl 0 rfl) ?_
  refine lv_i2l (v := (Int32.toInt64 v0)) hx hb dX7_isPlace_1 rfl ?_
  refine lv_lconst (v := 0) hx hb dX7_isPlace_2 (by decide) ?_
  refine lv_ldc2 (v := 9) hx hb hown (hts (.constantLong RX7 117 (9)) (by decide +kernel)) dX7_isPlace_3 ?_
  obtain ⟨r_1, hr_1, hf⟩ := bnd hf
  refine q_callSZ hB hW (As := [.long (Int32.toInt64 v0), .long (0 : Int64), .long (9 : Int64)]) (rest := []) (ws' := []) (c_X7_in l D cI cZ (Int32.toInt64 v0) (0 : Int64) (9 : Int64) r_1 hr_1) (va_cwS 3 hts gX7_isPlace_X7_in rfl rfl rfl (by decide +kernel) ⟨Nat.le_of_ble_eq_true rfl, Nat.le_of_ble_eq_true rfl⟩) [] rfl rfl rfl rfl rfl hl.1 rfl (Nat.le_of_ble_eq_true rfl) ⟨Nat.le_of_ble_eq_true rfl, Nat.le_of_ble_eq_true rfl⟩ dX7_isPlace_6 (fun hzr_1 H locs hW => ?_)
  exact hE _ _ _ _ _ r_1 (sm hf) hW rfl hzr_1 dX7_isPlace_9
def f_X7_far (v0 : Int32) (v1 : Int32) : Option (Int32) := if v0 ≤ v1 then some (v1 - v0) else some (v0 - v1)
set_option maxHeartbeats 4000000 in
set_option maxRecDepth 100000 in
theorem c_X7_far (l : Launch) (D : va_G) (cI cZ : ClassId) (v0 : Int32) (v1 : Int32) (q : Int32) (hf : f_X7_far v0 v1 = some q) : CtI l D cI cZ yX7_far wsX7_far 0 0 [.int v0, .int v1] [] (fun q => []) (fun q => q) q := by
  refine CtI.of (cc := cX7_far) (maxL := 2) (plainFor_of_name (by decide)) rfl (Nat.le_of_ble_eq_true rfl) ?_
  intro p e s m args below meth c A Q H ls hB hE hW hl
  have hx := hB.1
  have hb := hB.2.1
  have hml := hB.2.2.2.1
  have hown : s.vm.findClass RX7 = some m.cls := hB.2.2.2.2.1
  have hts := hB.2.2.2.2.2.1
  have hK := hB.2.2.2.2.2.2.2.1.1
  have hl : lv_has ls 2 [(0, .int v0), (1, .int v1)] := hl
  unfold f_X7_far at hf
  refine lv_iload_n hx hb dX7_far_0 rfl (lv_at hl 0 rfl) ?_
  refine lv_iload_n hx hb dX7_far_1 rfl (lv_at hl 1 rfl) ?_
  refine lv_icmp_le (tgt := 11) hx hb dX7_far_2 (by decide) (fun c_1 => ?_) (fun c_1 => ?_)
  · have hf := it_t c_1 hf
    refine lv_iload_n hx hb dX7_far_11 rfl (lv_at hl 1 rfl) ?_
    refine lv_iload_n hx hb dX7_far_12 rfl (lv_at hl 0 rfl) ?_
    refine lv_isub hx hb dX7_far_13 ?_
    exact hE _ _ _ _ _ (v1 - v0) (sm hf) hW rfl dX7_far_14
  · have hf := it_f c_1 hf
    refine lv_iload_n hx hb dX7_far_5 rfl (lv_at hl 0 rfl) ?_
    refine lv_iload_n hx hb dX7_far_6 rfl (lv_at hl 1 rfl) ?_
    refine lv_isub hx hb dX7_far_7 ?_
    refine lv_goto (tgt := 14) hx hb dX7_far_8 (by decide) ?_
    exact hE _ _ _ _ _ (v0 - v1) (sm hf) hW rfl dX7_far_14
def f_X7_hears (v1 : Int32) (v2 : Int32) (v3 : Int32) (v4 : Int32) (p0_kind : Nat → Int32) (p0_now : Nat → Int32) : Option (Int32) := (ald p0_now 18 (((9 : Int32) * v1) + (5 : Int32))).bind fun r_1 => (f_X7_has r_1 v2).bind fun r_2 => if r_2 = (0 : Int32) then (ald p0_kind 5 v2).bind fun r_4 => if r_4 = (2 : Int32) then some (0 : Int32) else (ald p0_now 18 (((9 : Int32) * v1) + v2)).bind fun r_6 => (f_X7_far r_6 v3).bind fun r_7 => if v4 < r_7 then some (0 : Int32) else some (1 : Int32) else (some (v4 / (2 : Int32))).bind fun w_9 => (ald p0_kind 5 v2).bind fun r_10 => if r_10 = (2 : Int32) then some (0 : Int32) else (ald p0_now 18 (((9 : Int32) * v1) + v2)).bind fun r_12 => (f_X7_far r_12 v3).bind fun r_13 => if w_9 < r_13 then some (0 : Int32) else some (1 : Int32)
set_option maxHeartbeats 4000000 in
set_option maxRecDepth 100000 in
theorem c_X7_hears (l : Launch) (D : va_G) (cI cZ : ClassId) (a_p0 a_p0_kind a_p0_skyAt a_p0_skyLoud a_p0_one a_p0_other a_p0_worth a_p0_hangs a_p0_now a_p0_readPerson a_p0_readSky a_p0_readOath a_p0_text a_p0_row a_p0_toldAt a_p0_toldWool a_p0_toldHeard a_p0_isKept a_p0_kept : Nat) (p0_persons : Int32) (p0_skies : Int32) (p0_oaths : Int32) (p0_readPersons : Int32) (p0_readSkies : Int32) (p0_readOaths : Int32) (p0_length : Int32) (p0_at : Int32) (p0_faultAt : Int32) (p0_acts : Int32) (p0_next : Int32) (p0_told : Int32) (p0_seed : Int64) (p0_kind : Nat → Int32) (p0_now : Nat → Int32) (v1 : Int32) (v2 : Int32) (v3 : Int32) (v4 : Int32) (q : Int32) (hf : f_X7_hears v1 v2 v3 v4 p0_kind p0_now = some q) : CtZ l D cI cZ yX7_hears wsX7_hears 1 21 [.ref a_p0, .int v1, .int v2, .int v3, .int v4] [(a_p0, .inr (7, [.int p0_persons, .int p0_skies, .int p0_oaths, .ref a_p0_kind, .ref a_p0_skyAt, .ref a_p0_skyLoud, .ref a_p0_one, .ref a_p0_other, .ref a_p0_worth, .ref a_p0_hangs, .ref a_p0_now, .ref a_p0_readPerson, .ref a_p0_readSky, .ref a_p0_readOath, .int p0_readPersons, .int p0_readSkies, .int p0_readOaths, .ref a_p0_text, .int p0_length, .int p0_at, .int p0_faultAt, .int p0_acts, .int p0_next, .ref a_p0_row, .int p0_told, .ref a_p0_toldAt, .ref a_p0_toldWool, .ref a_p0_toldHeard, .long p0_seed, .ref a_p0_isKept, .ref a_p0_kept])), (a_p0_kind, .inl (cI, 5, .inl p0_kind)), (a_p0_now, .inl (cI, 18, .inl p0_now))] (fun q => [(a_p0, .inr (7, [.int p0_persons, .int p0_skies, .int p0_oaths, .ref a_p0_kind, .ref a_p0_skyAt, .ref a_p0_skyLoud, .ref a_p0_one, .ref a_p0_other, .ref a_p0_worth, .ref a_p0_hangs, .ref a_p0_now, .ref a_p0_readPerson, .ref a_p0_readSky, .ref a_p0_readOath, .int p0_readPersons, .int p0_readSkies, .int p0_readOaths, .ref a_p0_text, .int p0_length, .int p0_at, .int p0_faultAt, .int p0_acts, .int p0_next, .ref a_p0_row, .int p0_told, .ref a_p0_toldAt, .ref a_p0_toldWool, .ref a_p0_toldHeard, .long p0_seed, .ref a_p0_isKept, .ref a_p0_kept])), (a_p0_kind, .inl (cI, 5, .inl p0_kind)), (a_p0_now, .inl (cI, 18, .inl p0_now))]) (fun q => q) q := by
  refine CtZ.of (cc := cX7_hears) (maxL := 6) (plainFor_of_name (by decide)) rfl (Nat.le_of_ble_eq_true rfl) ?_
  intro p e s m args below meth c A Q H ls hB hE hW hl
  have hx := hB.1
  have hb := hB.2.1
  have hml := hB.2.2.2.1
  have hown : s.vm.findClass RX7 = some m.cls := hB.2.2.2.2.1
  have hts := hB.2.2.2.2.2.1
  have hK := hB.2.2.2.2.2.2.2.1.1
  have hl : lv_has ls 6 [(0, .ref a_p0), (1, .int v1), (2, .int v2), (3, .int v3), (4, .int v4)] := hl
  have in_X7 : ∀ w ∈ wsX70, w ∈ wsX7_hears := fun w h => List.mem_cons_of_mem _ (List.mem_append_right _ h)
  have fl_7 : (Cond.fieldLink RX7 7 (TX7 3).1 (TX7 3).2.1 (TX7 3).2.2.1).before args s = true := hts (.fieldLink RX7 7 "ClapOathsModel" "kind" "[I") (by decide +kernel)
  have fl_31 : (Cond.fieldLink RX7 31 (TX7 10).1 (TX7 10).2.1 (TX7 10).2.2.1).before args s = true := hts (.fieldLink RX7 31 "ClapOathsModel" "now" "[I") (by decide +kernel)
  unfold f_X7_hears at hf
  refine lv_aload_n hx hb dX7_hears_0 rfl (lv_at hl 0 rfl) ?_
  refine q_get hB hW 7 in_X7 0 rfl rfl 10 (by decide) fl_31 (v := .ref a_p0_now) rfl dX7_hears_1 ?_
  refine lv_bipush (v := 9) hx hb dX7_hears_4 (by decide) ?_
  refine lv_iload_n hx hb dX7_hears_6 rfl (lv_at hl 1 rfl) ?_
  refine lv_imul hx hb dX7_hears_7 ?_
  refine lv_iconst (v := 5) hx hb dX7_hears_8 (by decide) ?_
  refine lv_iadd hx hb dX7_hears_9 ?_
  obtain ⟨r_1, hr_1, hf⟩ := bnd hf
  refine q_iald hB hW 2 rfl hr_1 dX7_hears_10 ?_
  refine lv_iload_n hx hb dX7_hears_11 rfl (lv_at hl 2 rfl) ?_
  obtain ⟨r_2, hr_2, hf⟩ := bnd hf
  refine q_callSZ hB hW (As := [.int r_1, .int v2]) (rest := []) (ws' := [(a_p0, .inr (7, [.int p0_persons, .int p0_skies, .int p0_oaths, .ref a_p0_kind, .ref a_p0_skyAt, .ref a_p0_skyLoud, .ref a_p0_one, .ref a_p0_other, .ref a_p0_worth, .ref a_p0_hangs, .ref a_p0_now, .ref a_p0_readPerson, .ref a_p0_readSky, .ref a_p0_readOath, .int p0_readPersons, .int p0_readSkies, .int p0_readOaths, .ref a_p0_text, .int p0_length, .int p0_at, .int p0_faultAt, .int p0_acts, .int p0_next, .ref a_p0_row, .int p0_told, .ref a_p0_toldAt, .ref a_p0_toldWool, .ref a_p0_toldHeard, .long p0_seed, .ref a_p0_isKept, .ref a_p0_kept])), (a_p0_kind, .inl (cI, 5, .inl p0_kind)), (a_p0_now, .inl (cI, 18, .inl p0_now))]) (c_X7_has l D cI cZ r_1 v2 r_2 hr_2) (va_cwS 2 hts gX7_hears_X7_has rfl rfl rfl (by decide +kernel) ⟨Nat.le_of_ble_eq_true rfl, Nat.le_of_ble_eq_true rfl⟩) [] rfl rfl rfl rfl rfl hl.1 rfl (Nat.le_of_ble_eq_true rfl) ⟨Nat.le_of_ble_eq_true rfl, Nat.le_of_ble_eq_true rfl⟩ dX7_hears_12 (fun hzr_2 H locs hW => ?_)
  refine lv_if_eq (tgt := 25) hx hb dX7_hears_15 (by decide) (fun c_3 => ?_) (fun c_3 => ?_)
  · have hf := it_t c_3 hf
    refine lv_iload hx hb dX7_hears_25 (lv_at hl 4 rfl) ?_
    refine lv_istore (lv' := [(5, .int v4), (0, .ref a_p0), (1, .int v1), (2, .int v2), (3, .int v3), (4, .int v4)]) hx hb dX7_hears_27 hl (by decide) rfl (fun ls hl => ?_)
    refine lv_aload_n hx hb dX7_hears_29 rfl (lv_at hl 1 rfl) ?_
    refine q_get hB hW 7 in_X7 0 rfl rfl 3 (by decide) fl_7 (v := .ref a_p0_kind) rfl dX7_hears_30 ?_
    refine lv_iload_n hx hb dX7_hears_33 rfl (lv_at hl 3 rfl) ?_
    obtain ⟨r_4, hr_4, hf⟩ := bnd hf
    refine q_iald hB hW 1 rfl hr_4 dX7_hears_34 ?_
    refine lv_iconst (v := 2) hx hb dX7_hears_35 (by decide) ?_
    refine lv_icmp_eq (tgt := 63) hx hb dX7_hears_36 (by decide) (fun c_5 => ?_) (fun c_5 => ?_)
    · have hf := it_t c_5 hf
      refine lv_iconst (v := 0) hx hb dX7_hears_63 (by decide) ?_
      exact hE _ _ _ _ _ (0 : Int32) (sm hf) hW rfl nz_0 dX7_hears_64
    · have hf := it_f c_5 hf
      refine lv_aload_n hx hb dX7_hears_39 rfl (lv_at hl 1 rfl) ?_
      refine q_get hB hW 7 in_X7 0 rfl rfl 10 (by decide) fl_31 (v := .ref a_p0_now) rfl dX7_hears_40 ?_
      refine lv_bipush (v := 9) hx hb dX7_hears_43 (by decide) ?_
      refine lv_iload_n hx hb dX7_hears_45 rfl (lv_at hl 2 rfl) ?_
      refine lv_imul hx hb dX7_hears_46 ?_
      refine lv_iload_n hx hb dX7_hears_47 rfl (lv_at hl 3 rfl) ?_
      refine lv_iadd hx hb dX7_hears_48 ?_
      obtain ⟨r_6, hr_6, hf⟩ := bnd hf
      refine q_iald hB hW 2 rfl hr_6 dX7_hears_49 ?_
      refine lv_iload_n hx hb dX7_hears_50 rfl (lv_at hl 4 rfl) ?_
      obtain ⟨r_7, hr_7, hf⟩ := bnd hf
      refine q_callSI hB hW (As := [.int r_6, .int v3]) (rest := []) (ws' := [(a_p0, .inr (7, [.int p0_persons, .int p0_skies, .int p0_oaths, .ref a_p0_kind, .ref a_p0_skyAt, .ref a_p0_skyLoud, .ref a_p0_one, .ref a_p0_other, .ref a_p0_worth, .ref a_p0_hangs, .ref a_p0_now, .ref a_p0_readPerson, .ref a_p0_readSky, .ref a_p0_readOath, .int p0_readPersons, .int p0_readSkies, .int p0_readOaths, .ref a_p0_text, .int p0_length, .int p0_at, .int p0_faultAt, .int p0_acts, .int p0_next, .ref a_p0_row, .int p0_told, .ref a_p0_toldAt, .ref a_p0_toldWool, .ref a_p0_toldHeard, .long p0_seed, .ref a_p0_isKept, .ref a_p0_kept])), (a_p0_kind, .inl (cI, 5, .inl p0_kind)), (a_p0_now, .inl (cI, 18, .inl p0_now))]) (c_X7_far l D cI cZ r_6 v3 r_7 hr_7) (va_cwS 2 hts gX7_hears_X7_far rfl rfl rfl (by decide +kernel) ⟨Nat.le_of_ble_eq_true rfl, Nat.le_of_ble_eq_true rfl⟩) [] rfl rfl rfl rfl rfl hl.1 rfl (Nat.le_of_ble_eq_true rfl) ⟨Nat.le_of_ble_eq_true rfl, Nat.le_of_ble_eq_true rfl⟩ dX7_hears_51 (fun H locs hW => ?_)
      refine lv_iload hx hb dX7_hears_54 (lv_at hl 0 rfl) ?_
      refine lv_icmp_gt (tgt := 63) hx hb dX7_hears_56 (by decide) (fun c_8 => ?_) (fun c_8 => ?_)
      · have hf := it_t c_8 hf
        refine lv_iconst (v := 0) hx hb dX7_hears_63 (by decide) ?_
        exact hE _ _ _ _ _ (0 : Int32) (sm hf) hW rfl nz_0 dX7_hears_64
      · have hf := it_f c_8 hf
        refine lv_iconst (v := 1) hx hb dX7_hears_59 (by decide) ?_
        refine lv_goto (tgt := 64) hx hb dX7_hears_60 (by decide) ?_
        exact hE _ _ _ _ _ (1 : Int32) (sm hf) hW rfl nz_1 dX7_hears_64
  · have hf := it_f c_3 hf
    refine lv_iload hx hb dX7_hears_18 (lv_at hl 4 rfl) ?_
    refine lv_iconst (v := 2) hx hb dX7_hears_20 (by decide) ?_
    refine lv_idiv hx hb dX7_hears_21 (by decide) ?_
    refine lv_goto (tgt := 27) hx hb dX7_hears_22 (by decide) ?_
    obtain ⟨w_9, hw_9, hf⟩ := bnd hf
    refine q_nmI hw_9 ?_
    refine lv_istore (lv' := [(5, .int w_9), (0, .ref a_p0), (1, .int v1), (2, .int v2), (3, .int v3), (4, .int v4)]) hx hb dX7_hears_27 hl (by decide) rfl (fun ls hl => ?_)
    refine lv_aload_n hx hb dX7_hears_29 rfl (lv_at hl 1 rfl) ?_
    refine q_get hB hW 7 in_X7 0 rfl rfl 3 (by decide) fl_7 (v := .ref a_p0_kind) rfl dX7_hears_30 ?_
    refine lv_iload_n hx hb dX7_hears_33 rfl (lv_at hl 3 rfl) ?_
    obtain ⟨r_10, hr_10, hf⟩ := bnd hf
    refine q_iald hB hW 1 rfl hr_10 dX7_hears_34 ?_
    refine lv_iconst (v := 2) hx hb dX7_hears_35 (by decide) ?_
    refine lv_icmp_eq (tgt := 63) hx hb dX7_hears_36 (by decide) (fun c_11 => ?_) (fun c_11 => ?_)
    · have hf := it_t c_11 hf
      refine lv_iconst (v := 0) hx hb dX7_hears_63 (by decide) ?_
      exact hE _ _ _ _ _ (0 : Int32) (sm hf) hW rfl nz_0 dX7_hears_64
    · have hf := it_f c_11 hf
      refine lv_aload_n hx hb dX7_hears_39 rfl (lv_at hl 1 rfl) ?_
      refine q_get hB hW 7 in_X7 0 rfl rfl 10 (by decide) fl_31 (v := .ref a_p0_now) rfl dX7_hears_40 ?_
      refine lv_bipush (v := 9) hx hb dX7_hears_43 (by decide) ?_
      refine lv_iload_n hx hb dX7_hears_45 rfl (lv_at hl 2 rfl) ?_
      refine lv_imul hx hb dX7_hears_46 ?_
      refine lv_iload_n hx hb dX7_hears_47 rfl (lv_at hl 3 rfl) ?_
      refine lv_iadd hx hb dX7_hears_48 ?_
      obtain ⟨r_12, hr_12, hf⟩ := bnd hf
      refine q_iald hB hW 2 rfl hr_12 dX7_hears_49 ?_
      refine lv_iload_n hx hb dX7_hears_50 rfl (lv_at hl 4 rfl) ?_
      obtain ⟨r_13, hr_13, hf⟩ := bnd hf
      refine q_callSI hB hW (As := [.int r_12, .int v3]) (rest := []) (ws' := [(a_p0, .inr (7, [.int p0_persons, .int p0_skies, .int p0_oaths, .ref a_p0_kind, .ref a_p0_skyAt, .ref a_p0_skyLoud, .ref a_p0_one, .ref a_p0_other, .ref a_p0_worth, .ref a_p0_hangs, .ref a_p0_now, .ref a_p0_readPerson, .ref a_p0_readSky, .ref a_p0_readOath, .int p0_readPersons, .int p0_readSkies, .int p0_readOaths, .ref a_p0_text, .int p0_length, .int p0_at, .int p0_faultAt, .int p0_acts, .int p0_next, .ref a_p0_row, .int p0_told, .ref a_p0_toldAt, .ref a_p0_toldWool, .ref a_p0_toldHeard, .long p0_seed, .ref a_p0_isKept, .ref a_p0_kept])), (a_p0_kind, .inl (cI, 5, .inl p0_kind)), (a_p0_now, .inl (cI, 18, .inl p0_now))]) (c_X7_far l D cI cZ r_12 v3 r_13 hr_13) (va_cwS 2 hts gX7_hears_X7_far rfl rfl rfl (by decide +kernel) ⟨Nat.le_of_ble_eq_true rfl, Nat.le_of_ble_eq_true rfl⟩) [] rfl rfl rfl rfl rfl hl.1 rfl (Nat.le_of_ble_eq_true rfl) ⟨Nat.le_of_ble_eq_true rfl, Nat.le_of_ble_eq_true rfl⟩ dX7_hears_51 (fun H locs hW => ?_)
      refine lv_iload hx hb dX7_hears_54 (lv_at hl 0 rfl) ?_
      refine lv_icmp_gt (tgt := 63) hx hb dX7_hears_56 (by decide) (fun c_14 => ?_) (fun c_14 => ?_)
      · have hf := it_t c_14 hf
        refine lv_iconst (v := 0) hx hb dX7_hears_63 (by decide) ?_
        exact hE _ _ _ _ _ (0 : Int32) (sm hf) hW rfl nz_0 dX7_hears_64
      · have hf := it_f c_14 hf
        refine lv_iconst (v := 1) hx hb dX7_hears_59 (by decide) ?_
        refine lv_goto (tgt := 64) hx hb dX7_hears_60 (by decide) ?_
        exact hE _ _ _ _ _ (1 : Int32) (sm hf) hW rfl nz_1 dX7_hears_64
def b_X7_hearers_6 (v1 : Int32) (v2 : Int32) (v3 : Int32) (p0_persons : Int32) (p0_kind : Nat → Int32) (p0_now : Nat → Int32) (v4 : Int32) (v5 : Int32) : Option ((Int32 × Int32) ⊕ (Int32)) := if p0_persons ≤ v5 then some (.inr v4) else if v2 = (-9 : Int32) then some (.inr v4) else (f_X7_hears v1 v5 v2 v3 p0_kind p0_now).bind fun r_509 => if r_509 = (0 : Int32) then (some (v4 ||| (0 : Int32))).bind fun w_511 => some (.inl (w_511, (v5 + (1 : Int32)))) else (some (v4 ||| ((1 : Int32) <<< (v5 &&& 31)))).bind fun w_512 => some (.inl (w_512, (v5 + (1 : Int32))))
def f_X7_hearers (v1 : Int32) (v2 : Int32) (v3 : Int32) (p0_persons : Int32) (p0_kind : Nat → Int32) (p0_now : Nat → Int32) : Option (Int32) := (itr (fun s => b_X7_hearers_6 v1 v2 v3 p0_persons p0_kind p0_now s.1 s.2) FU ((0 : Int32), (0 : Int32))).bind fun x_6 => some x_6
set_option maxHeartbeats 4000000 in
set_option maxRecDepth 100000 in
theorem c_X7_hearers (l : Launch) (D : va_G) (cI cZ : ClassId) (a_p0 a_p0_kind a_p0_skyAt a_p0_skyLoud a_p0_one a_p0_other a_p0_worth a_p0_hangs a_p0_now a_p0_readPerson a_p0_readSky a_p0_readOath a_p0_text a_p0_row a_p0_toldAt a_p0_toldWool a_p0_toldHeard a_p0_isKept a_p0_kept : Nat) (p0_persons : Int32) (p0_skies : Int32) (p0_oaths : Int32) (p0_readPersons : Int32) (p0_readSkies : Int32) (p0_readOaths : Int32) (p0_length : Int32) (p0_at : Int32) (p0_faultAt : Int32) (p0_acts : Int32) (p0_next : Int32) (p0_told : Int32) (p0_seed : Int64) (p0_kind : Nat → Int32) (p0_now : Nat → Int32) (v1 : Int32) (v2 : Int32) (v3 : Int32) (q : Int32) (hf : f_X7_hearers v1 v2 v3 p0_persons p0_kind p0_now = some q) : CtI l D cI cZ yX7_hearers wsX7_hearers 2 46 [.ref a_p0, .int v1, .int v2, .int v3] [(a_p0, .inr (7, [.int p0_persons, .int p0_skies, .int p0_oaths, .ref a_p0_kind, .ref a_p0_skyAt, .ref a_p0_skyLoud, .ref a_p0_one, .ref a_p0_other, .ref a_p0_worth, .ref a_p0_hangs, .ref a_p0_now, .ref a_p0_readPerson, .ref a_p0_readSky, .ref a_p0_readOath, .int p0_readPersons, .int p0_readSkies, .int p0_readOaths, .ref a_p0_text, .int p0_length, .int p0_at, .int p0_faultAt, .int p0_acts, .int p0_next, .ref a_p0_row, .int p0_told, .ref a_p0_toldAt, .ref a_p0_toldWool, .ref a_p0_toldHeard, .long p0_seed, .ref a_p0_isKept, .ref a_p0_kept])), (a_p0_kind, .inl (cI, 5, .inl p0_kind)), (a_p0_now, .inl (cI, 18, .inl p0_now))] (fun q => [(a_p0, .inr (7, [.int p0_persons, .int p0_skies, .int p0_oaths, .ref a_p0_kind, .ref a_p0_skyAt, .ref a_p0_skyLoud, .ref a_p0_one, .ref a_p0_other, .ref a_p0_worth, .ref a_p0_hangs, .ref a_p0_now, .ref a_p0_readPerson, .ref a_p0_readSky, .ref a_p0_readOath, .int p0_readPersons, .int p0_readSkies, .int p0_readOaths, .ref a_p0_text, .int p0_length, .int p0_at, .int p0_faultAt, .int p0_acts, .int p0_next, .ref a_p0_row, .int p0_told, .ref a_p0_toldAt, .ref a_p0_toldWool, .ref a_p0_toldHeard, .long p0_seed, .ref a_p0_isKept, .ref a_p0_kept])), (a_p0_kind, .inl (cI, 5, .inl p0_kind)), (a_p0_now, .inl (cI, 18, .inl p0_now))]) (fun q => q) q := by
  refine CtI.of (cc := cX7_hearers) (maxL := 6) (plainFor_of_name (by decide)) rfl (Nat.le_of_ble_eq_true rfl) ?_
  intro p e s m args below meth c A Q H ls hB hE hW hl
  have hx := hB.1
  have hb := hB.2.1
  have hml := hB.2.2.2.1
  have hown : s.vm.findClass RX7 = some m.cls := hB.2.2.2.2.1
  have hts := hB.2.2.2.2.2.1
  have hK := hB.2.2.2.2.2.2.2.1.1
  have hl : lv_has ls 6 [(0, .ref a_p0), (1, .int v1), (2, .int v2), (3, .int v3)] := hl
  have in_X7 : ∀ w ∈ wsX70, w ∈ wsX7_hearers := fun w h => List.mem_cons_of_mem _ (List.mem_append_right _ h)
  have fl_105 : (Cond.fieldLink RX7 105 (TX7 0).1 (TX7 0).2.1 (TX7 0).2.2.1).before args s = true := hts (.fieldLink RX7 105 "ClapOathsModel" "persons" "I") (by decide +kernel)
  unfold f_X7_hearers at hf
  refine lv_iconst (v := 0) hx hb dX7_hearers_0 (by decide) ?_
  refine lv_istore (lv' := [(4, .int (0 : Int32)), (0, .ref a_p0), (1, .int v1), (2, .int v2), (3, .int v3)]) hx hb dX7_hearers_1 hl (by decide) rfl (fun ls hl => ?_)
  refine lv_iconst (v := 0) hx hb dX7_hearers_3 (by decide) ?_
  refine lv_istore (lv' := [(5, .int (0 : Int32)), (4, .int (0 : Int32)), (0, .ref a_p0), (1, .int v1), (2, .int v2), (3, .int v3)]) hx hb dX7_hearers_4 hl (by decide) rfl (fun ls hl => ?_)
  obtain ⟨e_6, hl_6, hk_6⟩ := bnd hf
  have K_6 : ∀ x_6 : Int32, x_6 = e_6 → ∀ (H : Heap) (locs : List Loc) (ls : Array Slot), Wl D A s.heap [(a_p0, .inr (7, [.int p0_persons, .int p0_skies, .int p0_oaths, .ref a_p0_kind, .ref a_p0_skyAt, .ref a_p0_skyLoud, .ref a_p0_one, .ref a_p0_other, .ref a_p0_worth, .ref a_p0_hangs, .ref a_p0_now, .ref a_p0_readPerson, .ref a_p0_readSky, .ref a_p0_readOath, .int p0_readPersons, .int p0_readSkies, .int p0_readOaths, .ref a_p0_text, .int p0_length, .int p0_at, .int p0_faultAt, .int p0_acts, .int p0_next, .ref a_p0_row, .int p0_told, .ref a_p0_toldAt, .ref a_p0_toldWool, .ref a_p0_toldHeard, .long p0_seed, .ref a_p0_isKept, .ref a_p0_kept])), (a_p0_kind, .inl (cI, 5, .inl p0_kind)), (a_p0_now, .inl (cI, 18, .inl p0_now))] H locs → lv_has ls 6 [(4, .int x_6)] → W p l e (Rm 2 46) s m args below meth c H locs 0 0 Q (F0 m 52 ls []) := by
    intro x_6 hx_6 H locs ls hW hl
    have hf := hk_6
    rw [← hx_6] at hf
    refine lv_iload hx hb dX7_hearers_52 (lv_at hl 0 rfl) ?_
    exact hE _ _ _ _ _ x_6 (sm hf) hW rfl dX7_hearers_54
  have L_6 : ∀ (n : Nat) (y6_4 : Int32) (y6_5 : Int32) (H : Heap) (locs : List Loc) (ls : Array Slot), itr (fun s => b_X7_hearers_6 v1 v2 v3 p0_persons p0_kind p0_now s.1 s.2) n (y6_4, y6_5) = some e_6 → Wl D A s.heap [(a_p0, .inr (7, [.int p0_persons, .int p0_skies, .int p0_oaths, .ref a_p0_kind, .ref a_p0_skyAt, .ref a_p0_skyLoud, .ref a_p0_one, .ref a_p0_other, .ref a_p0_worth, .ref a_p0_hangs, .ref a_p0_now, .ref a_p0_readPerson, .ref a_p0_readSky, .ref a_p0_readOath, .int p0_readPersons, .int p0_readSkies, .int p0_readOaths, .ref a_p0_text, .int p0_length, .int p0_at, .int p0_faultAt, .int p0_acts, .int p0_next, .ref a_p0_row, .int p0_told, .ref a_p0_toldAt, .ref a_p0_toldWool, .ref a_p0_toldHeard, .long p0_seed, .ref a_p0_isKept, .ref a_p0_kept])), (a_p0_kind, .inl (cI, 5, .inl p0_kind)), (a_p0_now, .inl (cI, 18, .inl p0_now))] H locs → lv_has ls 6 [(0, .ref a_p0), (1, .int v1), (2, .int v2), (3, .int v3), (4, .int y6_4), (5, .int y6_5)] → W p l e (Rm 2 46) s m args below meth c H locs 0 0 Q (F0 m 6 ls []) := by
    intro n
    induction n with
    | zero => intro y6_4 y6_5 H locs ls h9; exact itr_0 h9
    | succ n ih =>
      intro y6_4 y6_5 H locs ls hf hW hl
      obtain ⟨o_6, hf, ho_6⟩ := itr_inv hf
      have hf : b_X7_hearers_6 v1 v2 v3 p0_persons p0_kind p0_now y6_4 y6_5 = some o_6 := hf
      unfold b_X7_hearers_6 at hf
      refine lv_iload hx hb dX7_hearers_6 (lv_at hl 5 rfl) ?_
      refine lv_aload_n hx hb dX7_hearers_8 rfl (lv_at hl 0 rfl) ?_
      refine q_get hB hW 7 in_X7 0 rfl rfl 0 (by decide) fl_105 (v := .int p0_persons) rfl dX7_hearers_9 ?_
      refine lv_icmp_ge (tgt := 52) hx hb dX7_hearers_12 (by decide) (fun c_1 => ?_) (fun c_1 => ?_)
      · have hf := it_t c_1 hf
        have h9 := o_inr hf ho_6
        exact K_6 y6_4 h9 _ _ _ hW (lv_sub hl [4] rfl)
      · have hf := it_f c_1 hf
        refine lv_iload_n hx hb dX7_hearers_15 rfl (lv_at hl 2 rfl) ?_
        refine lv_bipush (v := -9) hx hb dX7_hearers_16 (by decide) ?_
        refine lv_icmp_eq (tgt := 52) hx hb dX7_hearers_18 (by decide) (fun c_2 => ?_) (fun c_2 => ?_)
        · have hf := it_t c_2 hf
          have h9 := o_inr hf ho_6
          exact K_6 y6_4 h9 _ _ _ hW (lv_sub hl [4] rfl)
        · have hf := it_f c_2 hf
          refine lv_iload hx hb dX7_hearers_21 (lv_at hl 4 rfl) ?_
          refine lv_aload_n hx hb dX7_hearers_23 rfl (lv_at hl 0 rfl) ?_
          refine lv_iload_n hx hb dX7_hearers_24 rfl (lv_at hl 1 rfl) ?_
          refine lv_iload hx hb dX7_hearers_25 (lv_at hl 5 rfl) ?_
          refine lv_iload_n hx hb dX7_hearers_27 rfl (lv_at hl 2 rfl) ?_
          refine lv_iload_n hx hb dX7_hearers_28 rfl (lv_at hl 3 rfl) ?_
          obtain ⟨r_3, hr_3, hf⟩ := bnd hf
          refine q_callVZ hB hW (ci := 7) (q0 := 0) rfl rfl rfl (As := [.int v1, .int y6_5, .int v2, .int v3]) (rest := [.int y6_4]) (ws' := [(a_p0, .inr (7, [.int p0_persons, .int p0_skies, .int p0_oaths, .ref a_p0_kind, .ref a_p0_skyAt, .ref a_p0_skyLoud, .ref a_p0_one, .ref a_p0_other, .ref a_p0_worth, .ref a_p0_hangs, .ref a_p0_now, .ref a_p0_readPerson, .ref a_p0_readSky, .ref a_p0_readOath, .int p0_readPersons, .int p0_readSkies, .int p0_readOaths, .ref a_p0_text, .int p0_length, .int p0_at, .int p0_faultAt, .int p0_acts, .int p0_next, .ref a_p0_row, .int p0_told, .ref a_p0_toldAt, .ref a_p0_toldWool, .ref a_p0_toldHeard, .long p0_seed, .ref a_p0_isKept, .ref a_p0_kept])), (a_p0_kind, .inl (cI, 5, .inl p0_kind)), (a_p0_now, .inl (cI, 18, .inl p0_now))]) (c_X7_hears l D cI cZ a_p0 a_p0_kind a_p0_skyAt a_p0_skyLoud a_p0_one a_p0_other a_p0_worth a_p0_hangs a_p0_now a_p0_readPerson a_p0_readSky a_p0_readOath a_p0_text a_p0_row a_p0_toldAt a_p0_toldWool a_p0_toldHeard a_p0_isKept a_p0_kept p0_persons p0_skies p0_oaths p0_readPersons p0_readSkies p0_readOaths p0_length p0_at p0_faultAt p0_acts p0_next p0_told p0_seed p0_kind p0_now v1 y6_5 v2 v3 r_3 hr_3) (cwV 4 hts gX7_hearers_X7_hears rfl rfl rfl (by decide +kernel) ⟨Nat.le_of_ble_eq_true rfl, Nat.le_of_ble_eq_true rfl⟩) [0, 1, 2] rfl rfl rfl rfl rfl hl.1 rfl (Nat.le_of_ble_eq_true rfl) ⟨Nat.le_of_ble_eq_true rfl, Nat.le_of_ble_eq_true rfl⟩ dX7_hearers_29 (fun hzr_3 H locs hW => ?_)
          refine lv_if_eq (tgt := 42) hx hb dX7_hearers_32 (by decide) (fun c_4 => ?_) (fun c_4 => ?_)
          · have hf := it_t c_4 hf
            refine lv_iconst (v := 0) hx hb dX7_hearers_42 (by decide) ?_
            refine lv_ior hx hb dX7_hearers_43 ?_
            obtain ⟨w_5, hw_5, hf⟩ := bnd hf
            refine q_nmI hw_5 ?_
            refine lv_istore (lv' := [(4, .int w_5), (0, .ref a_p0), (1, .int v1), (2, .int v2), (3, .int v3), (5, .int y6_5)]) hx hb dX7_hearers_44 hl (by decide) rfl (fun ls hl => ?_)
            refine lv_iinc (v := (y6_5 + (1 : Int32))) (lv' := [(5, .int (y6_5 + (1 : Int32))), (4, .int w_5), (0, .ref a_p0), (1, .int v1), (2, .int v2), (3, .int v3)]) hx hb dX7_hearers_46 hl (k := 5) rfl rfl (by decide) rfl (fun ls hl => ?_)
            refine lv_goto (tgt := 6) hx hb dX7_hearers_49 (by decide) ?_
            have h9 := o_inl hf ho_6
            exact ih w_5 (y6_5 + (1 : Int32)) _ _ _ h9 hW (lv_sub hl [2, 3, 4, 5, 1, 0] rfl)
          · have hf := it_f c_4 hf
            refine lv_iconst (v := 1) hx hb dX7_hearers_35 (by decide) ?_
            refine lv_iload hx hb dX7_hearers_36 (lv_at hl 5 rfl) ?_
            refine lv_ishl hx hb dX7_hearers_38 ?_
            refine lv_goto (tgt := 43) hx hb dX7_hearers_39 (by decide) ?_
            refine lv_ior hx hb dX7_hearers_43 ?_
            obtain ⟨w_6, hw_6, hf⟩ := bnd hf
            refine q_nmI hw_6 ?_
            refine lv_istore (lv' := [(4, .int w_6), (0, .ref a_p0), (1, .int v1), (2, .int v2), (3, .int v3), (5, .int y6_5)]) hx hb dX7_hearers_44 hl (by decide) rfl (fun ls hl => ?_)
            refine lv_iinc (v := (y6_5 + (1 : Int32))) (lv' := [(5, .int (y6_5 + (1 : Int32))), (4, .int w_6), (0, .ref a_p0), (1, .int v1), (2, .int v2), (3, .int v3)]) hx hb dX7_hearers_46 hl (k := 5) rfl rfl (by decide) rfl (fun ls hl => ?_)
            refine lv_goto (tgt := 6) hx hb dX7_hearers_49 (by decide) ?_
            have h9 := o_inl hf ho_6
            exact ih w_6 (y6_5 + (1 : Int32)) _ _ _ h9 hW (lv_sub hl [2, 3, 4, 5, 1, 0] rfl)
  exact L_6 FU (0 : Int32) (0 : Int32) _ _ _ hl_6 hW (lv_sub hl [2, 3, 4, 5, 1, 0] rfl)
def b_X7_fallOn_12 (v1 : Int32) (v2 : Int32) (p0_oaths : Int32) (p0_hangs : Nat → Int32) (v3 : Int32) (p0_now : Nat → Int32) : Option ((Int32 × (Nat → Int32)) ⊕ (Nat → Int32)) := if p0_oaths ≤ v3 then some (.inr p0_now) else (ald p0_hangs 5 v3).bind fun r_514 => if r_514 = (-9 : Int32) then some (.inl ((v3 + (1 : Int32)), p0_now)) else (ald p0_now 18 (((9 : Int32) * v1) + (6 : Int32))).bind fun r_516 => (ald p0_hangs 5 v3).bind fun r_517 => (f_X7_has r_516 r_517).bind fun r_518 => if r_518 = (0 : Int32) then (ald p0_now 18 (((9 : Int32) * v1) + (6 : Int32))).bind fun r_520 => (ast p0_now 18 (((9 : Int32) * v1) + (6 : Int32)) (r_520 &&& (((1 : Int32) <<< (v3 &&& 31)) ^^^ (-1 : Int32)))).bind fun r_521 => some (.inl ((v3 + (1 : Int32)), r_521)) else some (.inl ((v3 + (1 : Int32)), p0_now))
def b_X7_fallOn_2 (v1 : Int32) (p0_oaths : Int32) (p0_hangs : Nat → Int32) (v2 : Int32) (p0_now : Nat → Int32) : Option ((Int32 × (Nat → Int32)) ⊕ (Nat → Int32)) := if p0_oaths ≤ v2 then some (.inr p0_now) else (itr (fun s => b_X7_fallOn_12 v1 v2 p0_oaths p0_hangs s.1 s.2) FU ((0 : Int32), p0_now)).bind fun x_12 => some (.inl ((v2 + (1 : Int32)), x_12))
def f_X7_fallOn (v1 : Int32) (p0_oaths : Int32) (p0_hangs : Nat → Int32) (p0_now : Nat → Int32) : Option (Nat → Int32) := (itr (fun s => b_X7_fallOn_2 v1 p0_oaths p0_hangs s.1 s.2) FU ((0 : Int32), p0_now)).bind fun x_2 => some x_2
set_option maxHeartbeats 4000000 in
set_option maxRecDepth 100000 in
theorem c_X7_fallOn (l : Launch) (D : va_G) (cI cZ : ClassId) (a_p0 a_p0_kind a_p0_skyAt a_p0_skyLoud a_p0_one a_p0_other a_p0_worth a_p0_hangs a_p0_now a_p0_readPerson a_p0_readSky a_p0_readOath a_p0_text a_p0_row a_p0_toldAt a_p0_toldWool a_p0_toldHeard a_p0_isKept a_p0_kept : Nat) (p0_persons : Int32) (p0_skies : Int32) (p0_oaths : Int32) (p0_readPersons : Int32) (p0_readSkies : Int32) (p0_readOaths : Int32) (p0_length : Int32) (p0_at : Int32) (p0_faultAt : Int32) (p0_acts : Int32) (p0_next : Int32) (p0_told : Int32) (p0_seed : Int64) (p0_hangs : Nat → Int32) (p0_now : Nat → Int32) (v1 : Int32) (q : Nat → Int32) (hf : f_X7_fallOn v1 p0_oaths p0_hangs p0_now = some q) : CtV l D cI cZ yX7_fallOn wsX7_fallOn 1 21 [.ref a_p0, .int v1] [(a_p0, .inr (7, [.int p0_persons, .int p0_skies, .int p0_oaths, .ref a_p0_kind, .ref a_p0_skyAt, .ref a_p0_skyLoud, .ref a_p0_one, .ref a_p0_other, .ref a_p0_worth, .ref a_p0_hangs, .ref a_p0_now, .ref a_p0_readPerson, .ref a_p0_readSky, .ref a_p0_readOath, .int p0_readPersons, .int p0_readSkies, .int p0_readOaths, .ref a_p0_text, .int p0_length, .int p0_at, .int p0_faultAt, .int p0_acts, .int p0_next, .ref a_p0_row, .int p0_told, .ref a_p0_toldAt, .ref a_p0_toldWool, .ref a_p0_toldHeard, .long p0_seed, .ref a_p0_isKept, .ref a_p0_kept])), (a_p0_hangs, .inl (cI, 5, .inl p0_hangs)), (a_p0_now, .inl (cI, 18, .inl p0_now))] (fun q => [(a_p0, .inr (7, [.int p0_persons, .int p0_skies, .int p0_oaths, .ref a_p0_kind, .ref a_p0_skyAt, .ref a_p0_skyLoud, .ref a_p0_one, .ref a_p0_other, .ref a_p0_worth, .ref a_p0_hangs, .ref a_p0_now, .ref a_p0_readPerson, .ref a_p0_readSky, .ref a_p0_readOath, .int p0_readPersons, .int p0_readSkies, .int p0_readOaths, .ref a_p0_text, .int p0_length, .int p0_at, .int p0_faultAt, .int p0_acts, .int p0_next, .ref a_p0_row, .int p0_told, .ref a_p0_toldAt, .ref a_p0_toldWool, .ref a_p0_toldHeard, .long p0_seed, .ref a_p0_isKept, .ref a_p0_kept])), (a_p0_hangs, .inl (cI, 5, .inl p0_hangs)), (a_p0_now, .inl (cI, 18, .inl q))]) q := by
  refine CtV.of (cc := cX7_fallOn) (maxL := 4) (plainFor_of_name (by decide)) rfl (Nat.le_of_ble_eq_true rfl) ?_
  intro p e s m args below meth c A Q H ls hB hE hW hl
  have hx := hB.1
  have hb := hB.2.1
  have hml := hB.2.2.2.1
  have hown : s.vm.findClass RX7 = some m.cls := hB.2.2.2.2.1
  have hts := hB.2.2.2.2.2.1
  have hK := hB.2.2.2.2.2.2.2.1.1
  have hl : lv_has ls 4 [(0, .ref a_p0), (1, .int v1)] := hl
  have in_X7 : ∀ w ∈ wsX70, w ∈ wsX7_fallOn := fun w h => List.mem_cons_of_mem _ (List.mem_append_right _ h)
  have fl_28 : (Cond.fieldLink RX7 28 (TX7 9).1 (TX7 9).2.1 (TX7 9).2.2.1).before args s = true := hts (.fieldLink RX7 28 "ClapOathsModel" "hangs" "[I") (by decide +kernel)
  have fl_31 : (Cond.fieldLink RX7 31 (TX7 10).1 (TX7 10).2.1 (TX7 10).2.2.1).before args s = true := hts (.fieldLink RX7 31 "ClapOathsModel" "now" "[I") (by decide +kernel)
  have fl_111 : (Cond.fieldLink RX7 111 (TX7 2).1 (TX7 2).2.1 (TX7 2).2.2.1).before args s = true := hts (.fieldLink RX7 111 "ClapOathsModel" "oaths" "I") (by decide +kernel)
  unfold f_X7_fallOn at hf
  refine lv_iconst (v := 0) hx hb dX7_fallOn_0 (by decide) ?_
  refine lv_istore_n (lv' := [(2, .int (0 : Int32)), (0, .ref a_p0), (1, .int v1)]) hx hb dX7_fallOn_1 rfl hl (by decide) rfl (fun ls hl => ?_)
  obtain ⟨e_2, hl_2, hk_2⟩ := bnd hf
  have K_2 : ∀ x_2 : Nat → Int32, x_2 = e_2 → ∀ (H : Heap) (locs : List Loc) (ls : Array Slot), Wl D A s.heap [(a_p0, .inr (7, [.int p0_persons, .int p0_skies, .int p0_oaths, .ref a_p0_kind, .ref a_p0_skyAt, .ref a_p0_skyLoud, .ref a_p0_one, .ref a_p0_other, .ref a_p0_worth, .ref a_p0_hangs, .ref a_p0_now, .ref a_p0_readPerson, .ref a_p0_readSky, .ref a_p0_readOath, .int p0_readPersons, .int p0_readSkies, .int p0_readOaths, .ref a_p0_text, .int p0_length, .int p0_at, .int p0_faultAt, .int p0_acts, .int p0_next, .ref a_p0_row, .int p0_told, .ref a_p0_toldAt, .ref a_p0_toldWool, .ref a_p0_toldHeard, .long p0_seed, .ref a_p0_isKept, .ref a_p0_kept])), (a_p0_hangs, .inl (cI, 5, .inl p0_hangs)), (a_p0_now, .inl (cI, 18, .inl x_2))] H locs → lv_has ls 4 [] → W p l e (Rm 1 21) s m args below meth c H locs 0 0 Q (F0 m 87 ls []) := by
    intro x_2 hx_2 H locs ls hW hl
    have hf := hk_2
    rw [← hx_2] at hf
    exact hE _ _ _ _ x_2 (sm hf) hW dX7_fallOn_87
  have L_2 : ∀ (n : Nat) (y2_2 : Int32) (y2_p0_now : Nat → Int32) (H : Heap) (locs : List Loc) (ls : Array Slot), itr (fun s => b_X7_fallOn_2 v1 p0_oaths p0_hangs s.1 s.2) n (y2_2, y2_p0_now) = some e_2 → Wl D A s.heap [(a_p0, .inr (7, [.int p0_persons, .int p0_skies, .int p0_oaths, .ref a_p0_kind, .ref a_p0_skyAt, .ref a_p0_skyLoud, .ref a_p0_one, .ref a_p0_other, .ref a_p0_worth, .ref a_p0_hangs, .ref a_p0_now, .ref a_p0_readPerson, .ref a_p0_readSky, .ref a_p0_readOath, .int p0_readPersons, .int p0_readSkies, .int p0_readOaths, .ref a_p0_text, .int p0_length, .int p0_at, .int p0_faultAt, .int p0_acts, .int p0_next, .ref a_p0_row, .int p0_told, .ref a_p0_toldAt, .ref a_p0_toldWool, .ref a_p0_toldHeard, .long p0_seed, .ref a_p0_isKept, .ref a_p0_kept])), (a_p0_hangs, .inl (cI, 5, .inl p0_hangs)), (a_p0_now, .inl (cI, 18, .inl y2_p0_now))] H locs → lv_has ls 4 [(0, .ref a_p0), (1, .int v1), (2, .int y2_2)] → W p l e (Rm 1 21) s m args below meth c H locs 0 0 Q (F0 m 2 ls []) := by
    intro n
    induction n with
    | zero => intro y2_2 y2_p0_now H locs ls h9; exact itr_0 h9
    | succ n ih =>
      intro y2_2 y2_p0_now H locs ls hf hW hl
      obtain ⟨o_2, hf, ho_2⟩ := itr_inv hf
      have hf : b_X7_fallOn_2 v1 p0_oaths p0_hangs y2_2 y2_p0_now = some o_2 := hf
      unfold b_X7_fallOn_2 at hf
      refine lv_iload_n hx hb dX7_fallOn_2 rfl (lv_at hl 2 rfl) ?_
      refine lv_aload_n hx hb dX7_fallOn_3 rfl (lv_at hl 0 rfl) ?_
      refine q_get hB hW 7 in_X7 0 rfl rfl 2 (by decide) fl_111 (v := .int p0_oaths) rfl dX7_fallOn_4 ?_
      refine lv_icmp_ge (tgt := 87) hx hb dX7_fallOn_7 (by decide) (fun c_1 => ?_) (fun c_1 => ?_)
      · have hf := it_t c_1 hf
        have h9 := o_inr hf ho_2
        exact K_2 y2_p0_now h9 _ _ _ hW (lv_sub hl [] rfl)
      · have hf := it_f c_1 hf
        refine lv_iconst (v := 0) hx hb dX7_fallOn_10 (by decide) ?_
        refine lv_istore_n (lv' := [(3, .int (0 : Int32)), (0, .ref a_p0), (1, .int v1), (2, .int y2_2)]) hx hb dX7_fallOn_11 rfl hl (by decide) rfl (fun ls hl => ?_)
        obtain ⟨e_12, hl_12, hk_12⟩ := bnd hf
        have K_12 : ∀ x_12 : Nat → Int32, x_12 = e_12 → ∀ (H : Heap) (locs : List Loc) (ls : Array Slot), Wl D A s.heap [(a_p0, .inr (7, [.int p0_persons, .int p0_skies, .int p0_oaths, .ref a_p0_kind, .ref a_p0_skyAt, .ref a_p0_skyLoud, .ref a_p0_one, .ref a_p0_other, .ref a_p0_worth, .ref a_p0_hangs, .ref a_p0_now, .ref a_p0_readPerson, .ref a_p0_readSky, .ref a_p0_readOath, .int p0_readPersons, .int p0_readSkies, .int p0_readOaths, .ref a_p0_text, .int p0_length, .int p0_at, .int p0_faultAt, .int p0_acts, .int p0_next, .ref a_p0_row, .int p0_told, .ref a_p0_toldAt, .ref a_p0_toldWool, .ref a_p0_toldHeard, .long p0_seed, .ref a_p0_isKept, .ref a_p0_kept])), (a_p0_hangs, .inl (cI, 5, .inl p0_hangs)), (a_p0_now, .inl (cI, 18, .inl x_12))] H locs → lv_has ls 4 [(0, .ref a_p0), (1, .int v1), (2, .int y2_2)] → W p l e (Rm 1 21) s m args below meth c H locs 0 0 Q (F0 m 81 ls []) := by
          intro x_12 hx_12 H locs ls hW hl
          have hf := hk_12
          rw [← hx_12] at hf
          refine lv_iinc (v := (y2_2 + (1 : Int32))) (lv' := [(2, .int (y2_2 + (1 : Int32))), (0, .ref a_p0), (1, .int v1)]) hx hb dX7_fallOn_81 hl (k := 2) rfl rfl (by decide) rfl (fun ls hl => ?_)
          refine lv_goto (tgt := 2) hx hb dX7_fallOn_84 (by decide) ?_
          have h9 := o_inl hf ho_2
          exact ih (y2_2 + (1 : Int32)) x_12 _ _ _ h9 hW (lv_sub hl [1, 2, 0] rfl)
        have L_12 : ∀ (n : Nat) (y12_3 : Int32) (y12_p0_now : Nat → Int32) (H : Heap) (locs : List Loc) (ls : Array Slot), itr (fun s => b_X7_fallOn_12 v1 y2_2 p0_oaths p0_hangs s.1 s.2) n (y12_3, y12_p0_now) = some e_12 → Wl D A s.heap [(a_p0, .inr (7, [.int p0_persons, .int p0_skies, .int p0_oaths, .ref a_p0_kind, .ref a_p0_skyAt, .ref a_p0_skyLoud, .ref a_p0_one, .ref a_p0_other, .ref a_p0_worth, .ref a_p0_hangs, .ref a_p0_now, .ref a_p0_readPerson, .ref a_p0_readSky, .ref a_p0_readOath, .int p0_readPersons, .int p0_readSkies, .int p0_readOaths, .ref a_p0_text, .int p0_length, .int p0_at, .int p0_faultAt, .int p0_acts, .int p0_next, .ref a_p0_row, .int p0_told, .ref a_p0_toldAt, .ref a_p0_toldWool, .ref a_p0_toldHeard, .long p0_seed, .ref a_p0_isKept, .ref a_p0_kept])), (a_p0_hangs, .inl (cI, 5, .inl p0_hangs)), (a_p0_now, .inl (cI, 18, .inl y12_p0_now))] H locs → lv_has ls 4 [(0, .ref a_p0), (1, .int v1), (2, .int y2_2), (3, .int y12_3)] → W p l e (Rm 1 21) s m args below meth c H locs 0 0 Q (F0 m 12 ls []) := by
          intro n
          induction n with
          | zero => intro y12_3 y12_p0_now H locs ls h9; exact itr_0 h9
          | succ n ih =>
            intro y12_3 y12_p0_now H locs ls hf hW hl
            obtain ⟨o_12, hf, ho_12⟩ := itr_inv hf
            have hf : b_X7_fallOn_12 v1 y2_2 p0_oaths p0_hangs y12_3 y12_p0_now = some o_12 := hf
            unfold b_X7_fallOn_12 at hf
            refine lv_iload_n hx hb dX7_fallOn_12 rfl (lv_at hl 3 rfl) ?_
            refine lv_aload_n hx hb dX7_fallOn_13 rfl (lv_at hl 0 rfl) ?_
            refine q_get hB hW 7 in_X7 0 rfl rfl 2 (by decide) fl_111 (v := .int p0_oaths) rfl dX7_fallOn_14 ?_
            refine lv_icmp_ge (tgt := 81) hx hb dX7_fallOn_17 (by decide) (fun c_2 => ?_) (fun c_2 => ?_)
            · have hf := it_t c_2 hf
              have h9 := o_inr hf ho_12
              exact K_12 y12_p0_now h9 _ _ _ hW (lv_sub hl [0, 1, 2] rfl)
            · have hf := it_f c_2 hf
              refine lv_aload_n hx hb dX7_fallOn_20 rfl (lv_at hl 0 rfl) ?_
              refine q_get hB hW 7 in_X7 0 rfl rfl 9 (by decide) fl_28 (v := .ref a_p0_hangs) rfl dX7_fallOn_21 ?_
              refine lv_iload_n hx hb dX7_fallOn_24 rfl (lv_at hl 3 rfl) ?_
              obtain ⟨r_3, hr_3, hf⟩ := bnd hf
              refine q_iald hB hW 1 rfl hr_3 dX7_fallOn_25 ?_
              refine lv_bipush (v := -9) hx hb dX7_fallOn_26 (by decide) ?_
              refine lv_icmp_eq (tgt := 75) hx hb dX7_fallOn_28 (by decide) (fun c_4 => ?_) (fun c_4 => ?_)
              · have hf := it_t c_4 hf
                refine lv_iinc (v := (y12_3 + (1 : Int32))) (lv' := [(3, .int (y12_3 + (1 : Int32))), (0, .ref a_p0), (1, .int v1), (2, .int y2_2)]) hx hb dX7_fallOn_75 hl (k := 3) rfl rfl (by decide) rfl (fun ls hl => ?_)
                refine lv_goto (tgt := 12) hx hb dX7_fallOn_78 (by decide) ?_
                have h9 := o_inl hf ho_12
                exact ih (y12_3 + (1 : Int32)) y12_p0_now _ _ _ h9 hW (lv_sub hl [1, 2, 3, 0] rfl)
              · have hf := it_f c_4 hf
                refine lv_aload_n hx hb dX7_fallOn_31 rfl (lv_at hl 0 rfl) ?_
                refine q_get hB hW 7 in_X7 0 rfl rfl 10 (by decide) fl_31 (v := .ref a_p0_now) rfl dX7_fallOn_32 ?_
                refine lv_bipush (v := 9) hx hb dX7_fallOn_35 (by decide) ?_
                refine lv_iload_n hx hb dX7_fallOn_37 rfl (lv_at hl 1 rfl) ?_
                refine lv_imul hx hb dX7_fallOn_38 ?_
                refine lv_bipush (v := 6) hx hb dX7_fallOn_39 (by decide) ?_
                refine lv_iadd hx hb dX7_fallOn_41 ?_
                obtain ⟨r_5, hr_5, hf⟩ := bnd hf
                refine q_iald hB hW 2 rfl hr_5 dX7_fallOn_42 ?_
                refine lv_aload_n hx hb dX7_fallOn_43 rfl (lv_at hl 0 rfl) ?_
                refine q_get hB hW 7 in_X7 0 rfl rfl 9 (by decide) fl_28 (v := .ref a_p0_hangs) rfl dX7_fallOn_44 ?_
                refine lv_iload_n hx hb dX7_fallOn_47 rfl (lv_at hl 3 rfl) ?_
                obtain ⟨r_6, hr_6, hf⟩ := bnd hf
                refine q_iald hB hW 1 rfl hr_6 dX7_fallOn_48 ?_
                obtain ⟨r_7, hr_7, hf⟩ := bnd hf
                refine q_callSZ hB hW (As := [.int r_5, .int r_6]) (rest := []) (ws' := [(a_p0, .inr (7, [.int p0_persons, .int p0_skies, .int p0_oaths, .ref a_p0_kind, .ref a_p0_skyAt, .ref a_p0_skyLoud, .ref a_p0_one, .ref a_p0_other, .ref a_p0_worth, .ref a_p0_hangs, .ref a_p0_now, .ref a_p0_readPerson, .ref a_p0_readSky, .ref a_p0_readOath, .int p0_readPersons, .int p0_readSkies, .int p0_readOaths, .ref a_p0_text, .int p0_length, .int p0_at, .int p0_faultAt, .int p0_acts, .int p0_next, .ref a_p0_row, .int p0_told, .ref a_p0_toldAt, .ref a_p0_toldWool, .ref a_p0_toldHeard, .long p0_seed, .ref a_p0_isKept, .ref a_p0_kept])), (a_p0_hangs, .inl (cI, 5, .inl p0_hangs)), (a_p0_now, .inl (cI, 18, .inl y12_p0_now))]) (c_X7_has l D cI cZ r_5 r_6 r_7 hr_7) (va_cwS 2 hts gX7_fallOn_X7_has rfl rfl rfl (by decide +kernel) ⟨Nat.le_of_ble_eq_true rfl, Nat.le_of_ble_eq_true rfl⟩) [] rfl rfl rfl rfl rfl hl.1 rfl (Nat.le_of_ble_eq_true rfl) ⟨Nat.le_of_ble_eq_true rfl, Nat.le_of_ble_eq_true rfl⟩ dX7_fallOn_49 (fun hzr_7 H locs hW => ?_)
                refine lv_if_ne (tgt := 75) hx hb dX7_fallOn_52 (by decide) (fun c_8 => ?_) (fun c_8 => ?_)
                · have hf := it_f c_8 hf
                  refine lv_iinc (v := (y12_3 + (1 : Int32))) (lv' := [(3, .int (y12_3 + (1 : Int32))), (0, .ref a_p0), (1, .int v1), (2, .int y2_2)]) hx hb dX7_fallOn_75 hl (k := 3) rfl rfl (by decide) rfl (fun ls hl => ?_)
                  refine lv_goto (tgt := 12) hx hb dX7_fallOn_78 (by decide) ?_
                  have h9 := o_inl hf ho_12
                  exact ih (y12_3 + (1 : Int32)) y12_p0_now _ _ _ h9 hW (lv_sub hl [1, 2, 3, 0] rfl)
                · have hf := it_t c_8 hf
                  refine lv_aload_n hx hb dX7_fallOn_55 rfl (lv_at hl 0 rfl) ?_
                  refine q_get hB hW 7 in_X7 0 rfl rfl 10 (by decide) fl_31 (v := .ref a_p0_now) rfl dX7_fallOn_56 ?_
                  refine lv_bipush (v := 9) hx hb dX7_fallOn_59 (by decide) ?_
                  refine lv_iload_n hx hb dX7_fallOn_61 rfl (lv_at hl 1 rfl) ?_
                  refine lv_imul hx hb dX7_fallOn_62 ?_
                  refine lv_bipush (v := 6) hx hb dX7_fallOn_63 (by decide) ?_
                  refine lv_iadd hx hb dX7_fallOn_65 ?_
                  refine lv_dup2_11 hx hb dX7_fallOn_66 rfl rfl ?_
                  obtain ⟨r_9, hr_9, hf⟩ := bnd hf
                  refine q_iald hB hW 2 rfl hr_9 dX7_fallOn_67 ?_
                  refine lv_iconst (v := 1) hx hb dX7_fallOn_68 (by decide) ?_
                  refine lv_iload_n hx hb dX7_fallOn_69 rfl (lv_at hl 3 rfl) ?_
                  refine lv_ishl hx hb dX7_fallOn_70 ?_
                  refine lv_iconst (v := -1) hx hb dX7_fallOn_71 (by decide) ?_
                  refine lv_ixor hx hb dX7_fallOn_72 ?_
                  refine lv_iand hx hb dX7_fallOn_73 ?_
                  obtain ⟨r_10, hr_10, hf⟩ := bnd hf
                  refine q_iast hB hW 2 rfl hr_10 (ws' := [(a_p0, .inr (7, [.int p0_persons, .int p0_skies, .int p0_oaths, .ref a_p0_kind, .ref a_p0_skyAt, .ref a_p0_skyLoud, .ref a_p0_one, .ref a_p0_other, .ref a_p0_worth, .ref a_p0_hangs, .ref a_p0_now, .ref a_p0_readPerson, .ref a_p0_readSky, .ref a_p0_readOath, .int p0_readPersons, .int p0_readSkies, .int p0_readOaths, .ref a_p0_text, .int p0_length, .int p0_at, .int p0_faultAt, .int p0_acts, .int p0_next, .ref a_p0_row, .int p0_told, .ref a_p0_toldAt, .ref a_p0_toldWool, .ref a_p0_toldHeard, .long p0_seed, .ref a_p0_isKept, .ref a_p0_kept])), (a_p0_hangs, .inl (cI, 5, .inl p0_hangs)), (a_p0_now, .inl (cI, 18, .inl r_10))]) rfl dX7_fallOn_74 (fun H locs hW => ?_)
                  refine lv_iinc (v := (y12_3 + (1 : Int32))) (lv' := [(3, .int (y12_3 + (1 : Int32))), (0, .ref a_p0), (1, .int v1), (2, .int y2_2)]) hx hb dX7_fallOn_75 hl (k := 3) rfl rfl (by decide) rfl (fun ls hl => ?_)
                  refine lv_goto (tgt := 12) hx hb dX7_fallOn_78 (by decide) ?_
                  have h9 := o_inl hf ho_12
                  exact ih (y12_3 + (1 : Int32)) r_10 _ _ _ h9 hW (lv_sub hl [1, 2, 3, 0] rfl)
        exact L_12 FU (0 : Int32) y2_p0_now _ _ _ hl_12 hW (lv_sub hl [1, 2, 3, 0] rfl)
  exact L_2 FU (0 : Int32) p0_now _ _ _ hl_2 hW (lv_sub hl [1, 2, 0] rfl)
