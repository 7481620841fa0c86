def b_X7_years_23 (v1 : Int32) (p0_persons : Int32) (p0_skies : Int32) (p0_oaths : Int32) (p0_kind : Nat → Int32) (p0_skyAt : Nat → Int32) (p0_skyLoud : Nat → Int32) (p0_one : Nat → Int32) (p0_other : Nat → Int32) (p0_worth : Nat → Int32) (p0_hangs : Nat → Int32) (v2 : Int32) (v3 : Int32) (p0_seed : Int64) (p0_now : Nat → Int32) : Option ((Int32 × Int32 × Int64 × (Nat → Int32)) ⊕ (Int32 × Int64 × (Nat → Int32))) := if v1 ≤ v3 then some (.inr (v2, p0_seed, p0_now)) else (some ((p0_seed * (6364136223846793005 : Int64)) + (1442695040888963407 : Int64))).bind fun w_525 => (some (Int64.toInt32 (((w_525.toUInt64 >>> ((Int32.toInt64 (33 : Int32)).toUInt64 &&& Int64.toUInt64 63)).toInt64) - ((w_525.toUInt64 >>> ((Int32.toInt64 (33 : Int32)).toUInt64 &&& Int64.toUInt64 63)).toInt64) / (40 : Int64) * (40 : Int64)))).bind fun w_526 => if w_526 ≤ (29 : Int32) then if w_526 ≤ (24 : Int32) then if w_526 ≤ (19 : Int32) then if w_526 ≤ (9 : Int32) then (f_X7_clapOn (1 : Int32) w_526 (3 : Int32) p0_persons p0_oaths p0_kind p0_one p0_other p0_hangs p0_now).bind fun r_531 => (ald r_531.2 18 (15 : Int32)).bind fun r_532 => (f_X7_ones r_532).bind fun r_533 => (some (v2 + r_533)).bind fun w_534 => some (.inl (w_534, (v3 + (1 : Int32)), w_525, r_531.2)) else if (w_526 - w_526 / (2 : Int32) * (2 : Int32)) = (0 : Int32) then (f_X7_tryThing (4 : Int32) ((w_526 - (10 : Int32)) / (2 : Int32)) (0 : Int32) p0_persons p0_skies p0_oaths p0_kind p0_skyAt p0_skyLoud p0_one p0_other p0_worth p0_hangs p0_now).bind fun r_540 => (ald r_540.2 18 (15 : Int32)).bind fun r_541 => (f_X7_ones r_541).bind fun r_542 => (some (v2 + r_542)).bind fun w_543 => some (.inl (w_543, (v3 + (1 : Int32)), w_525, r_540.2)) else (f_X7_tryThing (4 : Int32) ((w_526 - (10 : Int32)) / (2 : Int32)) (9 : Int32) p0_persons p0_skies p0_oaths p0_kind p0_skyAt p0_skyLoud p0_one p0_other p0_worth p0_hangs p0_now).bind fun r_536 => (ald r_536.2 18 (15 : Int32)).bind fun r_537 => (f_X7_ones r_537).bind fun r_538 => (some (v2 + r_538)).bind fun w_539 => some (.inl (w_539, (v3 + (1 : Int32)), w_525, r_536.2)) else (f_X7_tryThing (2 : Int32) (0 : Int32) (w_526 - (20 : Int32)) p0_persons p0_skies p0_oaths p0_kind p0_skyAt p0_skyLoud p0_one p0_other p0_worth p0_hangs p0_now).bind fun r_544 => (ald r_544.2 18 (15 : Int32)).bind fun r_545 => (f_X7_ones r_545).bind fun r_546 => (some (v2 + r_546)).bind fun w_547 => some (.inl (w_547, (v3 + (1 : Int32)), w_525, r_544.2)) else (f_X7_tryThing (5 : Int32) (0 : Int32) (w_526 - (25 : Int32)) p0_persons p0_skies p0_oaths p0_kind p0_skyAt p0_skyLoud p0_one p0_other p0_worth p0_hangs p0_now).bind fun r_548 => (ald r_548.2 18 (15 : Int32)).bind fun r_549 => (f_X7_ones r_549).bind fun r_550 => (some (v2 + r_550)).bind fun w_551 => some (.inl (w_551, (v3 + (1 : Int32)), w_525, r_548.2)) else (f_X7_passOn (1 : Int32) (1 : Int32) p0_persons p0_skies p0_oaths p0_kind p0_skyAt p0_skyLoud p0_one p0_other p0_worth p0_hangs p0_now).bind fun r_552 => (ald r_552.2 18 (15 : Int32)).bind fun r_553 => (f_X7_ones r_553).bind fun r_554 => (some (v2 + r_554)).bind fun w_555 => some (.inl (w_555, (v3 + (1 : Int32)), w_525, r_552.2))
def f_X7_years (v1 : Int32) (p0_persons : Int32) (p0_skies : Int32) (p0_oaths : Int32) (p0_seed : Int64) (p0_kind : Nat → Int32) (p0_skyAt : Nat → Int32) (p0_skyLoud : Nat → Int32) (p0_one : Nat → Int32) (p0_other : Nat → Int32) (p0_worth : Nat → Int32) (p0_hangs : Nat → Int32) (p0_now : Nat → Int32) : Option (Int32 × Int64 × (Nat → Int32)) := (f_X7_in (Int32.toInt64 v1) (1 : Int64) (30 : Int64)).bind fun r_1 => if r_1 = (0 : Int32) then some ((-2 : Int32), p0_seed, p0_now) else (f_X7_layTrial p0_now).bind fun r_3 => (itr (fun s => b_X7_years_23 v1 p0_persons p0_skies p0_oaths p0_kind p0_skyAt p0_skyLoud p0_one p0_other p0_worth p0_hangs s.1 s.2.1 s.2.2.1 s.2.2.2) FU ((0 : Int32), (0 : Int32), p0_seed, r_3)).bind fun x_23 => some (x_23.1, x_23.2.1, x_23.2.2)
set_option maxHeartbeats 4000000 in
set_option maxRecDepth 100000 in
theorem c_X7_years (l : Launch) (D : va_G) (cI cZ : ClassId) (a_p0 a_p0_kind a_p0_skyAt a_p0_skyLoud a_p0_one a_p0_other a_p0_worth a_p0_hangs a_p0_now a_p0_readPerson a_p0_readSky a_p0_readOath a_p0_text a_p0_row a_p0_toldAt a_p0_toldWool a_p0_toldHeard a_p0_isKept a_p0_kept : Nat) (p0_persons : Int32) (p0_skies : Int32) (p0_oaths : Int32) (p0_readPersons : Int32) (p0_readSkies : Int32) (p0_readOaths : Int32) (p0_length : Int32) (p0_at : Int32) (p0_faultAt : Int32) (p0_acts : Int32) (p0_next : Int32) (p0_told : Int32) (p0_seed : Int64) (p0_kind : Nat → Int32) (p0_skyAt : Nat → Int32) (p0_skyLoud : Nat → Int32) (p0_one : Nat → Int32) (p0_other : Nat → Int32) (p0_worth : Nat → Int32) (p0_hangs : Nat → Int32) (p0_now : Nat → Int32) (v1 : Int32) (q : Int32 × Int64 × (Nat → Int32)) (hf : f_X7_years v1 p0_persons p0_skies p0_oaths p0_seed p0_kind p0_skyAt p0_skyLoud p0_one p0_other p0_worth p0_hangs p0_now = some q) : CtI l D cI cZ yX7_years wsX7_years 6 153 [.ref a_p0, .int v1] [(a_p0, .inr (7, [.int p0_persons, .int p0_skies, .int p0_oaths, .ref a_p0_kind, .ref a_p0_skyAt, .ref a_p0_skyLoud, .ref a_p0_one, .ref a_p0_other, .ref a_p0_worth, .ref a_p0_hangs, .ref a_p0_now, .ref a_p0_readPerson, .ref a_p0_readSky, .ref a_p0_readOath, .int p0_readPersons, .int p0_readSkies, .int p0_readOaths, .ref a_p0_text, .int p0_length, .int p0_at, .int p0_faultAt, .int p0_acts, .int p0_next, .ref a_p0_row, .int p0_told, .ref a_p0_toldAt, .ref a_p0_toldWool, .ref a_p0_toldHeard, .long p0_seed, .ref a_p0_isKept, .ref a_p0_kept])), (a_p0_kind, .inl (cI, 5, .inl p0_kind)), (a_p0_skyAt, .inl (cI, 5, .inl p0_skyAt)), (a_p0_skyLoud, .inl (cI, 5, .inl p0_skyLoud)), (a_p0_one, .inl (cI, 5, .inl p0_one)), (a_p0_other, .inl (cI, 5, .inl p0_other)), (a_p0_worth, .inl (cI, 5, .inl p0_worth)), (a_p0_hangs, .inl (cI, 5, .inl p0_hangs)), (a_p0_now, .inl (cI, 18, .inl p0_now))] (fun q => [(a_p0, .inr (7, [.int p0_persons, .int p0_skies, .int p0_oaths, .ref a_p0_kind, .ref a_p0_skyAt, .ref a_p0_skyLoud, .ref a_p0_one, .ref a_p0_other, .ref a_p0_worth, .ref a_p0_hangs, .ref a_p0_now, .ref a_p0_readPerson, .ref a_p0_readSky, .ref a_p0_readOath, .int p0_readPersons, .int p0_readSkies, .int p0_readOaths, .ref a_p0_text, .int p0_length, .int p0_at, .int p0_faultAt, .int p0_acts, .int p0_next, .ref a_p0_row, .int p0_told, .ref a_p0_toldAt, .ref a_p0_toldWool, .ref a_p0_toldHeard, .long q.2.1, .ref a_p0_isKept, .ref a_p0_kept])), (a_p0_kind, .inl (cI, 5, .inl p0_kind)), (a_p0_skyAt, .inl (cI, 5, .inl p0_skyAt)), (a_p0_skyLoud, .inl (cI, 5, .inl p0_skyLoud)), (a_p0_one, .inl (cI, 5, .inl p0_one)), (a_p0_other, .inl (cI, 5, .inl p0_other)), (a_p0_worth, .inl (cI, 5, .inl p0_worth)), (a_p0_hangs, .inl (cI, 5, .inl p0_hangs)), (a_p0_now, .inl (cI, 18, .inl q.2.2))]) (fun q => q.1) q := by
  refine CtI.of (cc := cX7_years) (maxL := 5) (plainFor_of_name (by decide)) rfl (Nat.le_of_ble_eq_true rfl) ?_
  intro p e s m args below meth c A Q H ls hB hE hW hl
  have hx := hB.1
  have hb := hB.2.1
  have hml := hB.2.2.2.1
  have hown : s.vm.findClass RX7 = some m.cls := hB.2.2.2.2.1
  have hts := hB.2.2.2.2.2.1
  have hK := hB.2.2.2.2.2.2.2.1.1
  have hl : lv_has ls 5 [(0, .ref a_p0), (1, .int v1)] := hl
  have in_X7 : ∀ w ∈ wsX70, w ∈ wsX7_years := fun w h => List.mem_cons_of_mem _ (List.mem_append_right _ h)
  have fl_31 : (Cond.fieldLink RX7 31 (TX7 10).1 (TX7 10).2.1 (TX7 10).2.2.1).before args s = true := hts (.fieldLink RX7 31 "ClapOathsModel" "now" "[I") (by decide +kernel)
  have fl_235 : (Cond.fieldLink RX7 235 (TX7 28).1 (TX7 28).2.1 (TX7 28).2.2.1).before args s = true := hts (.fieldLink RX7 235 "ClapOathsModel" "seed" "J") (by decide +kernel)
  unfold f_X7_years at hf
  refine lv_iload_n hx hb dX7_years_0 rfl (lv_at hl 1 rfl) ?_
  refine lv_i2l (v := (Int32.toInt64 v1)) hx hb dX7_years_1 rfl ?_
  refine lv_lconst (v := 1) hx hb dX7_years_2 (by decide) ?_
  refine lv_ldc2 (v := 30) hx hb hown (hts (.constantLong RX7 188 (30)) (by decide +kernel)) dX7_years_3 ?_
  obtain ⟨r_1, hr_1, hf⟩ := bnd hf
  refine q_callSZ hB hW (As := [.long (Int32.toInt64 v1), .long (1 : Int64), .long (30 : Int64)]) (rest := []) (ws' := [(a_p0, .inr (7, [.int p0_persons, .int p0_skies, .int p0_oaths, .ref a_p0_kind, .ref a_p0_skyAt, .ref a_p0_skyLoud, .ref a_p0_one, .ref a_p0_other, .ref a_p0_worth, .ref a_p0_hangs, .ref a_p0_now, .ref a_p0_readPerson, .ref a_p0_readSky, .ref a_p0_readOath, .int p0_readPersons, .int p0_readSkies, .int p0_readOaths, .ref a_p0_text, .int p0_length, .int p0_at, .int p0_faultAt, .int p0_acts, .int p0_next, .ref a_p0_row, .int p0_told, .ref a_p0_toldAt, .ref a_p0_toldWool, .ref a_p0_toldHeard, .long p0_seed, .ref a_p0_isKept, .ref a_p0_kept])), (a_p0_kind, .inl (cI, 5, .inl p0_kind)), (a_p0_skyAt, .inl (cI, 5, .inl p0_skyAt)), (a_p0_skyLoud, .inl (cI, 5, .inl p0_skyLoud)), (a_p0_one, .inl (cI, 5, .inl p0_one)), (a_p0_other, .inl (cI, 5, .inl p0_other)), (a_p0_worth, .inl (cI, 5, .inl p0_worth)), (a_p0_hangs, .inl (cI, 5, .inl p0_hangs)), (a_p0_now, .inl (cI, 18, .inl p0_now))]) (c_X7_in l D cI cZ (Int32.toInt64 v1) (1 : Int64) (30 : Int64) r_1 hr_1) (va_cwS 3 hts gX7_years_X7_in rfl rfl rfl (by decide +kernel) ⟨Nat.le_of_ble_eq_true rfl, Nat.le_of_ble_eq_true rfl⟩) [] rfl rfl rfl rfl rfl hl.1 rfl (Nat.le_of_ble_eq_true rfl) ⟨Nat.le_of_ble_eq_true rfl, Nat.le_of_ble_eq_true rfl⟩ dX7_years_6 (fun hzr_1 H locs hW => ?_)
  refine lv_if_ne (tgt := 15) hx hb dX7_years_9 (by decide) (fun c_2 => ?_) (fun c_2 => ?_)
  · have hf := it_f c_2 hf
    refine lv_aload_n hx hb dX7_years_15 rfl (lv_at hl 0 rfl) ?_
    obtain ⟨r_3, hr_3, hf⟩ := bnd hf
    refine q_callVV hB hW (ci := 7) (q0 := 0) rfl rfl rfl (As := []) (rest := []) (ws' := [(a_p0, .inr (7, [.int p0_persons, .int p0_skies, .int p0_oaths, .ref a_p0_kind, .ref a_p0_skyAt, .ref a_p0_skyLoud, .ref a_p0_one, .ref a_p0_other, .ref a_p0_worth, .ref a_p0_hangs, .ref a_p0_now, .ref a_p0_readPerson, .ref a_p0_readSky, .ref a_p0_readOath, .int p0_readPersons, .int p0_readSkies, .int p0_readOaths, .ref a_p0_text, .int p0_length, .int p0_at, .int p0_faultAt, .int p0_acts, .int p0_next, .ref a_p0_row, .int p0_told, .ref a_p0_toldAt, .ref a_p0_toldWool, .ref a_p0_toldHeard, .long p0_seed, .ref a_p0_isKept, .ref a_p0_kept])), (a_p0_kind, .inl (cI, 5, .inl p0_kind)), (a_p0_skyAt, .inl (cI, 5, .inl p0_skyAt)), (a_p0_skyLoud, .inl (cI, 5, .inl p0_skyLoud)), (a_p0_one, .inl (cI, 5, .inl p0_one)), (a_p0_other, .inl (cI, 5, .inl p0_other)), (a_p0_worth, .inl (cI, 5, .inl p0_worth)), (a_p0_hangs, .inl (cI, 5, .inl p0_hangs)), (a_p0_now, .inl (cI, 18, .inl r_3))]) (c_X7_layTrial l D cI cZ a_p0 a_p0_kind a_p0_skyAt a_p0_skyLoud a_p0_one a_p0_other a_p0_worth a_p0_hangs a_p0_now a_p0_readPerson a_p0_readSky a_p0_readOath a_p0_text a_p0_row a_p0_toldAt a_p0_toldWool a_p0_toldHeard a_p0_isKept a_p0_kept p0_persons p0_skies p0_oaths p0_readPersons p0_readSkies p0_readOaths p0_length p0_at p0_faultAt p0_acts p0_next p0_told p0_seed p0_now r_3 hr_3) (cwV 0 hts gX7_years_X7_layTrial rfl rfl rfl (by decide +kernel) ⟨Nat.le_of_ble_eq_true rfl, Nat.le_of_ble_eq_true rfl⟩) [0, 8] rfl rfl rfl rfl rfl hl.1 rfl (Nat.le_of_ble_eq_true rfl) ⟨Nat.le_of_ble_eq_true rfl, Nat.le_of_ble_eq_true rfl⟩ dX7_years_16 (fun H locs hW => ?_)
    refine lv_iconst (v := 0) hx hb dX7_years_19 (by decide) ?_
    refine lv_istore_n (lv' := [(2, .int (0 : Int32)), (0, .ref a_p0), (1, .int v1)]) hx hb dX7_years_20 rfl hl (by decide) rfl (fun ls hl => ?_)
    refine lv_iconst (v := 0) hx hb dX7_years_21 (by decide) ?_
    refine lv_istore_n (lv' := [(3, .int (0 : Int32)), (2, .int (0 : Int32)), (0, .ref a_p0), (1, .int v1)]) hx hb dX7_years_22 rfl hl (by decide) rfl (fun ls hl => ?_)
    obtain ⟨e_23, hl_23, hk_23⟩ := bnd hf
    have K_23 : ∀ x_23 : Int32 × Int64 × (Nat → Int32), x_23 = e_23 → ∀ (H : Heap) (locs : List Loc) (ls : Array Slot), Wl D A s.heap [(a_p0, .inr (7, [.int p0_persons, .int p0_skies, .int p0_oaths, .ref a_p0_kind, .ref a_p0_skyAt, .ref a_p0_skyLoud, .ref a_p0_one, .ref a_p0_other, .ref a_p0_worth, .ref a_p0_hangs, .ref a_p0_now, .ref a_p0_readPerson, .ref a_p0_readSky, .ref a_p0_readOath, .int p0_readPersons, .int p0_readSkies, .int p0_readOaths, .ref a_p0_text, .int p0_length, .int p0_at, .int p0_faultAt, .int p0_acts, .int p0_next, .ref a_p0_row, .int p0_told, .ref a_p0_toldAt, .ref a_p0_toldWool, .ref a_p0_toldHeard, .long x_23.2.1, .ref a_p0_isKept, .ref a_p0_kept])), (a_p0_kind, .inl (cI, 5, .inl p0_kind)), (a_p0_skyAt, .inl (cI, 5, .inl p0_skyAt)), (a_p0_skyLoud, .inl (cI, 5, .inl p0_skyLoud)), (a_p0_one, .inl (cI, 5, .inl p0_one)), (a_p0_other, .inl (cI, 5, .inl p0_other)), (a_p0_worth, .inl (cI, 5, .inl p0_worth)), (a_p0_hangs, .inl (cI, 5, .inl p0_hangs)), (a_p0_now, .inl (cI, 18, .inl x_23.2.2))] H locs → lv_has ls 5 [(2, .int x_23.1)] → W p l e (Rm 6 153) s m args below meth c H locs 0 0 Q (F0 m 183 ls []) := by
      intro x_23 hx_23 H locs ls hW hl
      have hf := hk_23
      rw [← hx_23] at hf
      refine lv_iload_n hx hb dX7_years_183 rfl (lv_at hl 0 rfl) ?_
      exact hE _ _ _ _ _ (x_23.1, x_23.2.1, x_23.2.2) (sm hf) hW rfl dX7_years_184
    have L_23 : ∀ (n : Nat) (y23_2 : Int32) (y23_3 : Int32) (y23_p0_seed : Int64) (y23_p0_now : Nat → Int32) (H : Heap) (locs : List Loc) (ls : Array Slot), itr (fun s => b_X7_years_23 v1 p0_persons p0_skies p0_oaths p0_kind p0_skyAt p0_skyLoud p0_one p0_other p0_worth p0_hangs s.1 s.2.1 s.2.2.1 s.2.2.2) n (y23_2, y23_3, y23_p0_seed, y23_p0_now) = some e_23 → Wl D A s.heap [(a_p0, .inr (7, [.int p0_persons, .int p0_skies, .int p0_oaths, .ref a_p0_kind, .ref a_p0_skyAt, .ref a_p0_skyLoud, .ref a_p0_one, .ref a_p0_other, .ref a_p0_worth, .ref a_p0_hangs, .ref a_p0_now, .ref a_p0_readPerson, .ref a_p0_readSky, .ref a_p0_readOath, .int p0_readPersons, .int p0_readSkies, .int p0_readOaths, .ref a_p0_text, .int p0_length, .int p0_at, .int p0_faultAt, .int p0_acts, .int p0_next, .ref a_p0_row, .int p0_told, .ref a_p0_toldAt, .ref a_p0_toldWool, .ref a_p0_toldHeard, .long y23_p0_seed, .ref a_p0_isKept, .ref a_p0_kept])), (a_p0_kind, .inl (cI, 5, .inl p0_kind)), (a_p0_skyAt, .inl (cI, 5, .inl p0_skyAt)), (a_p0_skyLoud, .inl (cI, 5, .inl p0_skyLoud)), (a_p0_one, .inl (cI, 5, .inl p0_one)), (a_p0_other, .inl (cI, 5, .inl p0_other)), (a_p0_worth, .inl (cI, 5, .inl p0_worth)), (a_p0_hangs, .inl (cI, 5, .inl p0_hangs)), (a_p0_now, .inl (cI, 18, .inl y23_p0_now))] H locs → lv_has ls 5 [(0, .ref a_p0), (1, .int v1), (2, .int y23_2), (3, .int y23_3)] → W p l e (Rm 6 153) s m args below meth c H locs 0 0 Q (F0 m 23 ls []) := by
      intro n
      induction n with
      | zero => intro y23_2 y23_3 y23_p0_seed y23_p0_now H locs ls h9; exact itr_0 h9
      | succ n ih =>
        intro y23_2 y23_3 y23_p0_seed y23_p0_now H locs ls hf hW hl
        obtain ⟨o_23, hf, ho_23⟩ := itr_inv hf
        have hf : b_X7_years_23 v1 p0_persons p0_skies p0_oaths p0_kind p0_skyAt p0_skyLoud p0_one p0_other p0_worth p0_hangs y23_2 y23_3 y23_p0_seed y23_p0_now = some o_23 := hf
        unfold b_X7_years_23 at hf
        refine lv_iload_n hx hb dX7_years_23 rfl (lv_at hl 3 rfl) ?_
        refine lv_iload_n hx hb dX7_years_24 rfl (lv_at hl 1 rfl) ?_
        refine lv_icmp_ge (tgt := 183) hx hb dX7_years_25 (by decide) (fun c_4 => ?_) (fun c_4 => ?_)
        · have hf := it_t c_4 hf
          have h9 := o_inr hf ho_23
          exact K_23 (y23_2, y23_p0_seed, y23_p0_now) h9 _ _ _ hW (lv_sub hl [2] rfl)
        · have hf := it_f c_4 hf
          refine lv_aload_n hx hb dX7_years_28 rfl (lv_at hl 0 rfl) ?_
          refine lv_aload_n hx hb dX7_years_29 rfl (lv_at hl 0 rfl) ?_
          refine q_get hB hW 7 in_X7 0 rfl rfl 28 (by decide) fl_235 (v := .long y23_p0_seed) rfl dX7_years_30 ?_
          refine lv_ldc2 (v := 6364136223846793005) hx hb hown (hts (.constantLong RX7 239 (6364136223846793005)) (by decide +kernel)) dX7_years_33 ?_
          refine lv_lmul hx hb dX7_years_36 ?_
          refine lv_ldc2 (v := 1442695040888963407) hx hb hown (hts (.constantLong RX7 241 (1442695040888963407)) (by decide +kernel)) dX7_years_37 ?_
          refine lv_ladd hx hb dX7_years_40 ?_
          obtain ⟨w_5, hw_5, hf⟩ := bnd hf
          refine q_nmL hw_5 ?_
          refine q_put hB hW 7 in_X7 tyX7 tyX7_ok nmX7 0 rfl rfl 28 (by decide) fl_235 rfl (by first | rfl | decide) (by first | rfl | decide) (Nat.le_of_ble_eq_true rfl) (ws' := [(a_p0, .inr (7, [.int p0_persons, .int p0_skies, .int p0_oaths, .ref a_p0_kind, .ref a_p0_skyAt, .ref a_p0_skyLoud, .ref a_p0_one, .ref a_p0_other, .ref a_p0_worth, .ref a_p0_hangs, .ref a_p0_now, .ref a_p0_readPerson, .ref a_p0_readSky, .ref a_p0_readOath, .int p0_readPersons, .int p0_readSkies, .int p0_readOaths, .ref a_p0_text, .int p0_length, .int p0_at, .int p0_faultAt, .int p0_acts, .int p0_next, .ref a_p0_row, .int p0_told, .ref a_p0_toldAt, .ref a_p0_toldWool, .ref a_p0_toldHeard, .long w_5, .ref a_p0_isKept, .ref a_p0_kept])), (a_p0_kind, .inl (cI, 5, .inl p0_kind)), (a_p0_skyAt, .inl (cI, 5, .inl p0_skyAt)), (a_p0_skyLoud, .inl (cI, 5, .inl p0_skyLoud)), (a_p0_one, .inl (cI, 5, .inl p0_one)), (a_p0_other, .inl (cI, 5, .inl p0_other)), (a_p0_worth, .inl (cI, 5, .inl p0_worth)), (a_p0_hangs, .inl (cI, 5, .inl p0_hangs)), (a_p0_now, .inl (cI, 18, .inl y23_p0_now))]) rfl dX7_years_41 (fun H locs hW => ?_)
          refine lv_aload_n hx hb dX7_years_44 rfl (lv_at hl 0 rfl) ?_
          refine q_get hB hW 7 in_X7 0 rfl rfl 28 (by decide) fl_235 (v := .long w_5) rfl dX7_years_45 ?_
          refine lv_bipush (v := 33) hx hb dX7_years_48 (by decide) ?_
          refine lv_lushr (v := (w_5.toUInt64 >>> ((Int32.toInt64 (33 : Int32)).toUInt64 &&& Int64.toUInt64 63)).toInt64) hx hb dX7_years_50 rfl ?_
          refine lv_ldc2 (v := 40) hx hb hown (hts (.constantLong RX7 243 (40)) (by decide +kernel)) dX7_years_51 ?_
          refine lv_lrem hx hb dX7_years_54 (by decide) ?_
          refine lv_l2i (v := (Int64.toInt32 (((w_5.toUInt64 >>> ((Int32.toInt64 (33 : Int32)).toUInt64 &&& Int64.toUInt64 63)).toInt64) - ((w_5.toUInt64 >>> ((Int32.toInt64 (33 : Int32)).toUInt64 &&& Int64.toUInt64 63)).toInt64) / (40 : Int64) * (40 : Int64)))) hx hb dX7_years_55 rfl ?_
          obtain ⟨w_6, hw_6, hf⟩ := bnd hf
          refine q_nmI hw_6 ?_
          refine lv_istore (lv' := [(4, .int w_6), (0, .ref a_p0), (1, .int v1), (2, .int y23_2), (3, .int y23_3)]) hx hb dX7_years_56 hl (by decide) rfl (fun ls hl => ?_)
          refine lv_iload hx hb dX7_years_58 (lv_at hl 0 rfl) ?_
          refine lv_bipush (v := 29) hx hb dX7_years_60 (by decide) ?_
          refine lv_icmp_le (tgt := 75) hx hb dX7_years_62 (by decide) (fun c_7 => ?_) (fun c_7 => ?_)
          · have hf := it_t c_7 hf
            refine lv_iload hx hb dX7_years_75 (lv_at hl 0 rfl) ?_
            refine lv_bipush (v := 24) hx hb dX7_years_77 (by decide) ?_
            refine lv_icmp_le (tgt := 97) hx hb dX7_years_79 (by decide) (fun c_8 => ?_) (fun c_8 => ?_)
            · have hf := it_t c_8 hf
              refine lv_iload hx hb dX7_years_97 (lv_at hl 0 rfl) ?_
              refine lv_bipush (v := 19) hx hb dX7_years_99 (by decide) ?_
              refine lv_icmp_le (tgt := 119) hx hb dX7_years_101 (by decide) (fun c_9 => ?_) (fun c_9 => ?_)
              · have hf := it_t c_9 hf
                refine lv_iload hx hb dX7_years_119 (lv_at hl 0 rfl) ?_
                refine lv_bipush (v := 9) hx hb dX7_years_121 (by decide) ?_
                refine lv_icmp_le (tgt := 155) hx hb dX7_years_123 (by decide) (fun c_10 => ?_) (fun c_10 => ?_)
                · have hf := it_t c_10 hf
                  refine lv_aload_n hx hb dX7_years_155 rfl (lv_at hl 1 rfl) ?_
                  refine lv_iconst (v := 1) hx hb dX7_years_156 (by decide) ?_
                  refine lv_iload hx hb dX7_years_157 (lv_at hl 0 rfl) ?_
                  refine lv_iconst (v := 3) hx hb dX7_years_159 (by decide) ?_
                  obtain ⟨r_11, hr_11, hf⟩ := bnd hf
                  refine q_callVI hB hW (ci := 7) (q0 := 0) rfl rfl rfl (As := [.int (1 : Int32), .int w_6, .int (3 : Int32)]) (rest := []) (ws' := [(a_p0, .inr (7, [.int p0_persons, .int p0_skies, .int p0_oaths, .ref a_p0_kind, .ref a_p0_skyAt, .ref a_p0_skyLoud, .ref a_p0_one, .ref a_p0_other, .ref a_p0_worth, .ref a_p0_hangs, .ref a_p0_now, .ref a_p0_readPerson, .ref a_p0_readSky, .ref a_p0_readOath, .int p0_readPersons, .int p0_readSkies, .int p0_readOaths, .ref a_p0_text, .int p0_length, .int p0_at, .int p0_faultAt, .int p0_acts, .int p0_next, .ref a_p0_row, .int p0_told, .ref a_p0_toldAt, .ref a_p0_toldWool, .ref a_p0_toldHeard, .long w_5, .ref a_p0_isKept, .ref a_p0_kept])), (a_p0_kind, .inl (cI, 5, .inl p0_kind)), (a_p0_skyAt, .inl (cI, 5, .inl p0_skyAt)), (a_p0_skyLoud, .inl (cI, 5, .inl p0_skyLoud)), (a_p0_one, .inl (cI, 5, .inl p0_one)), (a_p0_other, .inl (cI, 5, .inl p0_other)), (a_p0_worth, .inl (cI, 5, .inl p0_worth)), (a_p0_hangs, .inl (cI, 5, .inl p0_hangs)), (a_p0_now, .inl (cI, 18, .inl r_11.2))]) (c_X7_clapOn l D cI cZ a_p0 a_p0_kind a_p0_skyAt a_p0_skyLoud a_p0_one a_p0_other a_p0_worth a_p0_hangs a_p0_now a_p0_readPerson a_p0_readSky a_p0_readOath a_p0_text a_p0_row a_p0_toldAt a_p0_toldWool a_p0_toldHeard a_p0_isKept a_p0_kept p0_persons p0_skies p0_oaths p0_readPersons p0_readSkies p0_readOaths p0_length p0_at p0_faultAt p0_acts p0_next p0_told w_5 p0_kind p0_one p0_other p0_hangs y23_p0_now (1 : Int32) w_6 (3 : Int32) r_11 hr_11) (cwV 3 hts gX7_years_X7_clapOn rfl rfl rfl (by decide +kernel) ⟨Nat.le_of_ble_eq_true rfl, Nat.le_of_ble_eq_true rfl⟩) [0, 1, 4, 5, 7, 8] rfl rfl rfl rfl rfl hl.1 rfl (Nat.le_of_ble_eq_true rfl) ⟨Nat.le_of_ble_eq_true rfl, Nat.le_of_ble_eq_true rfl⟩ dX7_years_160 (fun H locs hW => ?_)
                  refine lv_pop hx hb dX7_years_163 rfl ?_
                  refine lv_iload_n hx hb dX7_years_164 rfl (lv_at hl 3 rfl) ?_
                  refine lv_aload_n hx hb dX7_years_165 rfl (lv_at hl 1 rfl) ?_
                  refine q_get hB hW 7 in_X7 0 rfl rfl 10 (by decide) fl_31 (v := .ref a_p0_now) rfl dX7_years_166 ?_
                  refine lv_bipush (v := 15) hx hb dX7_years_169 (by decide) ?_
                  obtain ⟨r_12, hr_12, hf⟩ := bnd hf
                  refine q_iald hB hW 8 rfl hr_12 dX7_years_171 ?_
                  obtain ⟨r_13, hr_13, hf⟩ := bnd hf
                  refine q_callSI hB hW (As := [.int r_12]) (rest := [.int y23_2]) (ws' := [(a_p0, .inr (7, [.int p0_persons, .int p0_skies, .int p0_oaths, .ref a_p0_kind, .ref a_p0_skyAt, .ref a_p0_skyLoud, .ref a_p0_one, .ref a_p0_other, .ref a_p0_worth, .ref a_p0_hangs, .ref a_p0_now, .ref a_p0_readPerson, .ref a_p0_readSky, .ref a_p0_readOath, .int p0_readPersons, .int p0_readSkies, .int p0_readOaths, .ref a_p0_text, .int p0_length, .int p0_at, .int p0_faultAt, .int p0_acts, .int p0_next, .ref a_p0_row, .int p0_told, .ref a_p0_toldAt, .ref a_p0_toldWool, .ref a_p0_toldHeard, .long w_5, .ref a_p0_isKept, .ref a_p0_kept])), (a_p0_kind, .inl (cI, 5, .inl p0_kind)), (a_p0_skyAt, .inl (cI, 5, .inl p0_skyAt)), (a_p0_skyLoud, .inl (cI, 5, .inl p0_skyLoud)), (a_p0_one, .inl (cI, 5, .inl p0_one)), (a_p0_other, .inl (cI, 5, .inl p0_other)), (a_p0_worth, .inl (cI, 5, .inl p0_worth)), (a_p0_hangs, .inl (cI, 5, .inl p0_hangs)), (a_p0_now, .inl (cI, 18, .inl r_11.2))]) (c_X7_ones l D cI cZ r_12 r_13 hr_13) (va_cwS 1 hts gX7_years_X7_ones rfl rfl rfl (by decide +kernel) ⟨Nat.le_of_ble_eq_true rfl, Nat.le_of_ble_eq_true rfl⟩) [] rfl rfl rfl rfl rfl hl.1 rfl (Nat.le_of_ble_eq_true rfl) ⟨Nat.le_of_ble_eq_true rfl, Nat.le_of_ble_eq_true rfl⟩ dX7_years_172 (fun H locs hW => ?_)
                  refine lv_iadd hx hb dX7_years_175 ?_
                  obtain ⟨w_14, hw_14, hf⟩ := bnd hf
                  refine q_nmI hw_14 ?_
                  refine lv_istore_n (lv' := [(2, .int w_14), (4, .int w_6), (0, .ref a_p0), (1, .int v1), (3, .int y23_3)]) hx hb dX7_years_176 rfl hl (by decide) rfl (fun ls hl => ?_)
                  refine lv_iinc (v := (y23_3 + (1 : Int32))) (lv' := [(3, .int (y23_3 + (1 : Int32))), (2, .int w_14), (4, .int w_6), (0, .ref a_p0), (1, .int v1)]) hx hb dX7_years_177 hl (k := 4) rfl rfl (by decide) rfl (fun ls hl => ?_)
                  refine lv_goto (tgt := 23) hx hb dX7_years_180 (by decide) ?_
                  have h9 := o_inl hf ho_23
                  exact ih w_14 (y23_3 + (1 : Int32)) w_5 r_11.2 _ _ _ h9 hW (lv_sub hl [3, 4, 1, 0] rfl)
                · have hf := it_f c_10 hf
                  refine lv_aload_n hx hb dX7_years_126 rfl (lv_at hl 1 rfl) ?_
                  refine lv_iconst (v := 4) hx hb dX7_years_127 (by decide) ?_
                  refine lv_iload hx hb dX7_years_128 (lv_at hl 0 rfl) ?_
                  refine lv_bipush (v := 10) hx hb dX7_years_130 (by decide) ?_
                  refine lv_isub hx hb dX7_years_132 ?_
                  refine lv_iconst (v := 2) hx hb dX7_years_133 (by decide) ?_
                  refine lv_idiv hx hb dX7_years_134 (by decide) ?_
                  refine lv_iload hx hb dX7_years_135 (lv_at hl 0 rfl) ?_
                  refine lv_iconst (v := 2) hx hb dX7_years_137 (by decide) ?_
                  refine lv_irem hx hb dX7_years_138 (by decide) ?_
                  refine lv_if_ne (tgt := 146) hx hb dX7_years_139 (by decide) (fun c_15 => ?_) (fun c_15 => ?_)
                  · have hf := it_f c_15 hf
                    refine lv_bipush (v := 9) hx hb dX7_years_146 (by decide) ?_
                    obtain ⟨r_16, hr_16, hf⟩ := bnd hf
                    refine q_callVZ hB hW (ci := 7) (q0 := 0) rfl rfl rfl (As := [.int (4 : Int32), .int ((w_6 - (10 : Int32)) / (2 : Int32)), .int (9 : Int32)]) (rest := []) (ws' := [(a_p0, .inr (7, [.int p0_persons, .int p0_skies, .int p0_oaths, .ref a_p0_kind, .ref a_p0_skyAt, .ref a_p0_skyLoud, .ref a_p0_one, .ref a_p0_other, .ref a_p0_worth, .ref a_p0_hangs, .ref a_p0_now, .ref a_p0_readPerson, .ref a_p0_readSky, .ref a_p0_readOath, .int p0_readPersons, .int p0_readSkies, .int p0_readOaths, .ref a_p0_text, .int p0_length, .int p0_at, .int p0_faultAt, .int p0_acts, .int p0_next, .ref a_p0_row, .int p0_told, .ref a_p0_toldAt, .ref a_p0_toldWool, .ref a_p0_toldHeard, .long w_5, .ref a_p0_isKept, .ref a_p0_kept])), (a_p0_kind, .inl (cI, 5, .inl p0_kind)), (a_p0_skyAt, .inl (cI, 5, .inl p0_skyAt)), (a_p0_skyLoud, .inl (cI, 5, .inl p0_skyLoud)), (a_p0_one, .inl (cI, 5, .inl p0_one)), (a_p0_other, .inl (cI, 5, .inl p0_other)), (a_p0_worth, .inl (cI, 5, .inl p0_worth)), (a_p0_hangs, .inl (cI, 5, .inl p0_hangs)), (a_p0_now, .inl (cI, 18, .inl r_16.2))]) (c_X7_tryThing l D cI cZ a_p0 a_p0_kind a_p0_skyAt a_p0_skyLoud a_p0_one a_p0_other a_p0_worth a_p0_hangs a_p0_now a_p0_readPerson a_p0_readSky a_p0_readOath a_p0_text a_p0_row a_p0_toldAt a_p0_toldWool a_p0_toldHeard a_p0_isKept a_p0_kept p0_persons p0_skies p0_oaths p0_readPersons p0_readSkies p0_readOaths p0_length p0_at p0_faultAt p0_acts p0_next p0_told w_5 p0_kind p0_skyAt p0_skyLoud p0_one p0_other p0_worth p0_hangs y23_p0_now (4 : Int32) ((w_6 - (10 : Int32)) / (2 : Int32)) (9 : Int32) r_16 hr_16) (cwV 3 hts gX7_years_X7_tryThing rfl rfl rfl (by decide +kernel) ⟨Nat.le_of_ble_eq_true rfl, Nat.le_of_ble_eq_true rfl⟩) [0, 1, 2, 3, 4, 5, 6, 7, 8] rfl rfl rfl rfl rfl hl.1 rfl (Nat.le_of_ble_eq_true rfl) ⟨Nat.le_of_ble_eq_true rfl, Nat.le_of_ble_eq_true rfl⟩ dX7_years_148 (fun hzr_16 H locs hW => ?_)
                    refine lv_pop hx hb dX7_years_151 rfl ?_
                    refine lv_goto (tgt := 164) hx hb dX7_years_152 (by decide) ?_
                    refine lv_iload_n hx hb dX7_years_164 rfl (lv_at hl 3 rfl) ?_
                    refine lv_aload_n hx hb dX7_years_165 rfl (lv_at hl 1 rfl) ?_
                    refine q_get hB hW 7 in_X7 0 rfl rfl 10 (by decide) fl_31 (v := .ref a_p0_now) rfl dX7_years_166 ?_
                    refine lv_bipush (v := 15) hx hb dX7_years_169 (by decide) ?_
                    obtain ⟨r_17, hr_17, hf⟩ := bnd hf
                    refine q_iald hB hW 8 rfl hr_17 dX7_years_171 ?_
                    obtain ⟨r_18, hr_18, hf⟩ := bnd hf
                    refine q_callSI hB hW (As := [.int r_17]) (rest := [.int y23_2]) (ws' := [(a_p0, .inr (7, [.int p0_persons, .int p0_skies, .int p0_oaths, .ref a_p0_kind, .ref a_p0_skyAt, .ref a_p0_skyLoud, .ref a_p0_one, .ref a_p0_other, .ref a_p0_worth, .ref a_p0_hangs, .ref a_p0_now, .ref a_p0_readPerson, .ref a_p0_readSky, .ref a_p0_readOath, .int p0_readPersons, .int p0_readSkies, .int p0_readOaths, .ref a_p0_text, .int p0_length, .int p0_at, .int p0_faultAt, .int p0_acts, .int p0_next, .ref a_p0_row, .int p0_told, .ref a_p0_toldAt, .ref a_p0_toldWool, .ref a_p0_toldHeard, .long w_5, .ref a_p0_isKept, .ref a_p0_kept])), (a_p0_kind, .inl (cI, 5, .inl p0_kind)), (a_p0_skyAt, .inl (cI, 5, .inl p0_skyAt)), (a_p0_skyLoud, .inl (cI, 5, .inl p0_skyLoud)), (a_p0_one, .inl (cI, 5, .inl p0_one)), (a_p0_other, .inl (cI, 5, .inl p0_other)), (a_p0_worth, .inl (cI, 5, .inl p0_worth)), (a_p0_hangs, .inl (cI, 5, .inl p0_hangs)), (a_p0_now, .inl (cI, 18, .inl r_16.2))]) (c_X7_ones l D cI cZ r_17 r_18 hr_18) (va_cwS 1 hts gX7_years_X7_ones rfl rfl rfl (by decide +kernel) ⟨Nat.le_of_ble_eq_true rfl, Nat.le_of_ble_eq_true rfl⟩) [] rfl rfl rfl rfl rfl hl.1 rfl (Nat.le_of_ble_eq_true rfl) ⟨Nat.le_of_ble_eq_true rfl, Nat.le_of_ble_eq_true rfl⟩ dX7_years_172 (fun H locs hW => ?_)
                    refine lv_iadd hx hb dX7_years_175 ?_
                    obtain ⟨w_19, hw_19, hf⟩ := bnd hf
                    refine q_nmI hw_19 ?_
                    refine lv_istore_n (lv' := [(2, .int w_19), (4, .int w_6), (0, .ref a_p0), (1, .int v1), (3, .int y23_3)]) hx hb dX7_years_176 rfl hl (by decide) rfl (fun ls hl => ?_)
                    refine lv_iinc (v := (y23_3 + (1 : Int32))) (lv' := [(3, .int (y23_3 + (1 : Int32))), (2, .int w_19), (4, .int w_6), (0, .ref a_p0), (1, .int v1)]) hx hb dX7_years_177 hl (k := 4) rfl rfl (by decide) rfl (fun ls hl => ?_)
                    refine lv_goto (tgt := 23) hx hb dX7_years_180 (by decide) ?_
                    have h9 := o_inl hf ho_23
                    exact ih w_19 (y23_3 + (1 : Int32)) w_5 r_16.2 _ _ _ h9 hW (lv_sub hl [3, 4, 1, 0] rfl)
                  · have hf := it_t c_15 hf
                    refine lv_iconst (v := 0) hx hb dX7_years_142 (by decide) ?_
                    refine lv_goto (tgt := 148) hx hb dX7_years_143 (by decide) ?_
                    obtain ⟨r_20, hr_20, hf⟩ := bnd hf
                    refine q_callVZ hB hW (ci := 7) (q0 := 0) rfl rfl rfl (As := [.int (4 : Int32), .int ((w_6 - (10 : Int32)) / (2 : Int32)), .int (0 : Int32)]) (rest := []) (ws' := [(a_p0, .inr (7, [.int p0_persons, .int p0_skies, .int p0_oaths, .ref a_p0_kind, .ref a_p0_skyAt, .ref a_p0_skyLoud, .ref a_p0_one, .ref a_p0_other, .ref a_p0_worth, .ref a_p0_hangs, .ref a_p0_now, .ref a_p0_readPerson, .ref a_p0_readSky, .ref a_p0_readOath, .int p0_readPersons, .int p0_readSkies, .int p0_readOaths, .ref a_p0_text, .int p0_length, .int p0_at, .int p0_faultAt, .int p0_acts, .int p0_next, .ref a_p0_row, .int p0_told, .ref a_p0_toldAt, .ref a_p0_toldWool, .ref a_p0_toldHeard, .long w_5, .ref a_p0_isKept, .ref a_p0_kept])), (a_p0_kind, .inl (cI, 5, .inl p0_kind)), (a_p0_skyAt, .inl (cI, 5, .inl p0_skyAt)), (a_p0_skyLoud, .inl (cI, 5, .inl p0_skyLoud)), (a_p0_one, .inl (cI, 5, .inl p0_one)), (a_p0_other, .inl (cI, 5, .inl p0_other)), (a_p0_worth, .inl (cI, 5, .inl p0_worth)), (a_p0_hangs, .inl (cI, 5, .inl p0_hangs)), (a_p0_now, .inl (cI, 18, .inl r_20.2))]) (c_X7_tryThing l D cI cZ a_p0 a_p0_kind a_p0_skyAt a_p0_skyLoud a_p0_one a_p0_other a_p0_worth a_p0_hangs a_p0_now a_p0_readPerson a_p0_readSky a_p0_readOath a_p0_text a_p0_row a_p0_toldAt a_p0_toldWool a_p0_toldHeard a_p0_isKept a_p0_kept p0_persons p0_skies p0_oaths p0_readPersons p0_readSkies p0_readOaths p0_length p0_at p0_faultAt p0_acts p0_next p0_told w_5 p0_kind p0_skyAt p0_skyLoud p0_one p0_other p0_worth p0_hangs y23_p0_now (4 : Int32) ((w_6 - (10 : Int32)) / (2 : Int32)) (0 : Int32) r_20 hr_20) (cwV 3 hts gX7_years_X7_tryThing rfl rfl rfl (by decide +kernel) ⟨Nat.le_of_ble_eq_true rfl, Nat.le_of_ble_eq_true rfl⟩) [0, 1, 2, 3, 4, 5, 6, 7, 8] rfl rfl rfl rfl rfl hl.1 rfl (Nat.le_of_ble_eq_true rfl) ⟨Nat.le_of_ble_eq_true rfl, Nat.le_of_ble_eq_true rfl⟩ dX7_years_148 (fun hzr_20 H locs hW => ?_)
                    refine lv_pop hx hb dX7_years_151 rfl ?_
                    refine lv_goto (tgt := 164) hx hb dX7_years_152 (by decide) ?_
                    refine lv_iload_n hx hb dX7_years_164 rfl (lv_at hl 3 rfl) ?_
                    refine lv_aload_n hx hb dX7_years_165 rfl (lv_at hl 1 rfl) ?_
                    refine q_get hB hW 7 in_X7 0 rfl rfl 10 (by decide) fl_31 (v := .ref a_p0_now) rfl dX7_years_166 ?_
                    refine lv_bipush (v := 15) hx hb dX7_years_169 (by decide) ?_
                    obtain ⟨r_21, hr_21, hf⟩ := bnd hf
                    refine q_iald hB hW 8 rfl hr_21 dX7_years_171 ?_
                    obtain ⟨r_22, hr_22, hf⟩ := bnd hf
                    refine q_callSI hB hW (As := [.int r_21]) (rest := [.int y23_2]) (ws' := [(a_p0, .inr (7, [.int p0_persons, .int p0_skies, .int p0_oaths, .ref a_p0_kind, .ref a_p0_skyAt, .ref a_p0_skyLoud, .ref a_p0_one, .ref a_p0_other, .ref a_p0_worth, .ref a_p0_hangs, .ref a_p0_now, .ref a_p0_readPerson, .ref a_p0_readSky, .ref a_p0_readOath, .int p0_readPersons, .int p0_readSkies, .int p0_readOaths, .ref a_p0_text, .int p0_length, .int p0_at, .int p0_faultAt, .int p0_acts, .int p0_next, .ref a_p0_row, .int p0_told, .ref a_p0_toldAt, .ref a_p0_toldWool, .ref a_p0_toldHeard, .long w_5, .ref a_p0_isKept, .ref a_p0_kept])), (a_p0_kind, .inl (cI, 5, .inl p0_kind)), (a_p0_skyAt, .inl (cI, 5, .inl p0_skyAt)), (a_p0_skyLoud, .inl (cI, 5, .inl p0_skyLoud)), (a_p0_one, .inl (cI, 5, .inl p0_one)), (a_p0_other, .inl (cI, 5, .inl p0_other)), (a_p0_worth, .inl (cI, 5, .inl p0_worth)), (a_p0_hangs, .inl (cI, 5, .inl p0_hangs)), (a_p0_now, .inl (cI, 18, .inl r_20.2))]) (c_X7_ones l D cI cZ r_21 r_22 hr_22) (va_cwS 1 hts gX7_years_X7_ones rfl rfl rfl (by decide +kernel) ⟨Nat.le_of_ble_eq_true rfl, Nat.le_of_ble_eq_true rfl⟩) [] rfl rfl rfl rfl rfl hl.1 rfl (Nat.le_of_ble_eq_true rfl) ⟨Nat.le_of_ble_eq_true rfl, Nat.le_of_ble_eq_true rfl⟩ dX7_years_172 (fun H locs hW => ?_)
                    refine lv_iadd hx hb dX7_years_175 ?_
                    obtain ⟨w_23, hw_23, hf⟩ := bnd hf
                    refine q_nmI hw_23 ?_
                    refine lv_istore_n (lv' := [(2, .int w_23), (4, .int w_6), (0, .ref a_p0), (1, .int v1), (3, .int y23_3)]) hx hb dX7_years_176 rfl hl (by decide) rfl (fun ls hl => ?_)
                    refine lv_iinc (v := (y23_3 + (1 : Int32))) (lv' := [(3, .int (y23_3 + (1 : Int32))), (2, .int w_23), (4, .int w_6), (0, .ref a_p0), (1, .int v1)]) hx hb dX7_years_177 hl (k := 4) rfl rfl (by decide) rfl (fun ls hl => ?_)
                    refine lv_goto (tgt := 23) hx hb dX7_years_180 (by decide) ?_
                    have h9 := o_inl hf ho_23
                    exact ih w_23 (y23_3 + (1 : Int32)) w_5 r_20.2 _ _ _ h9 hW (lv_sub hl [3, 4, 1, 0] rfl)
              · have hf := it_f c_9 hf
                refine lv_aload_n hx hb dX7_years_104 rfl (lv_at hl 1 rfl) ?_
                refine lv_iconst (v := 2) hx hb dX7_years_105 (by decide) ?_
                refine lv_iconst (v := 0) hx hb dX7_years_106 (by decide) ?_
                refine lv_iload hx hb dX7_years_107 (lv_at hl 0 rfl) ?_
                refine lv_bipush (v := 20) hx hb dX7_years_109 (by decide) ?_
                refine lv_isub hx hb dX7_years_111 ?_
                obtain ⟨r_24, hr_24, hf⟩ := bnd hf
                refine q_callVZ hB hW (ci := 7) (q0 := 0) rfl rfl rfl (As := [.int (2 : Int32), .int (0 : Int32), .int (w_6 - (20 : Int32))]) (rest := []) (ws' := [(a_p0, .inr (7, [.int p0_persons, .int p0_skies, .int p0_oaths, .ref a_p0_kind, .ref a_p0_skyAt, .ref a_p0_skyLoud, .ref a_p0_one, .ref a_p0_other, .ref a_p0_worth, .ref a_p0_hangs, .ref a_p0_now, .ref a_p0_readPerson, .ref a_p0_readSky, .ref a_p0_readOath, .int p0_readPersons, .int p0_readSkies, .int p0_readOaths, .ref a_p0_text, .int p0_length, .int p0_at, .int p0_faultAt, .int p0_acts, .int p0_next, .ref a_p0_row, .int p0_told, .ref a_p0_toldAt, .ref a_p0_toldWool, .ref a_p0_toldHeard, .long w_5, .ref a_p0_isKept, .ref a_p0_kept])), (a_p0_kind, .inl (cI, 5, .inl p0_kind)), (a_p0_skyAt, .inl (cI, 5, .inl p0_skyAt)), (a_p0_skyLoud, .inl (cI, 5, .inl p0_skyLoud)), (a_p0_one, .inl (cI, 5, .inl p0_one)), (a_p0_other, .inl (cI, 5, .inl p0_other)), (a_p0_worth, .inl (cI, 5, .inl p0_worth)), (a_p0_hangs, .inl (cI, 5, .inl p0_hangs)), (a_p0_now, .inl (cI, 18, .inl r_24.2))]) (c_X7_tryThing l D cI cZ a_p0 a_p0_kind a_p0_skyAt a_p0_skyLoud a_p0_one a_p0_other a_p0_worth a_p0_hangs a_p0_now a_p0_readPerson a_p0_readSky a_p0_readOath a_p0_text a_p0_row a_p0_toldAt a_p0_toldWool a_p0_toldHeard a_p0_isKept a_p0_kept p0_persons p0_skies p0_oaths p0_readPersons p0_readSkies p0_readOaths p0_length p0_at p0_faultAt p0_acts p0_next p0_told w_5 p0_kind p0_skyAt p0_skyLoud p0_one p0_other p0_worth p0_hangs y23_p0_now (2 : Int32) (0 : Int32) (w_6 - (20 : Int32)) r_24 hr_24) (cwV 3 hts gX7_years_X7_tryThing rfl rfl rfl (by decide +kernel) ⟨Nat.le_of_ble_eq_true rfl, Nat.le_of_ble_eq_true rfl⟩) [0, 1, 2, 3, 4, 5, 6, 7, 8] rfl rfl rfl rfl rfl hl.1 rfl (Nat.le_of_ble_eq_true rfl) ⟨Nat.le_of_ble_eq_true rfl, Nat.le_of_ble_eq_true rfl⟩ dX7_years_112 (fun hzr_24 H locs hW => ?_)
                refine lv_pop hx hb dX7_years_115 rfl ?_
                refine lv_goto (tgt := 164) hx hb dX7_years_116 (by decide) ?_
                refine lv_iload_n hx hb dX7_years_164 rfl (lv_at hl 3 rfl) ?_
                refine lv_aload_n hx hb dX7_years_165 rfl (lv_at hl 1 rfl) ?_
                refine q_get hB hW 7 in_X7 0 rfl rfl 10 (by decide) fl_31 (v := .ref a_p0_now) rfl dX7_years_166 ?_
                refine lv_bipush (v := 15) hx hb dX7_years_169 (by decide) ?_
                obtain ⟨r_25, hr_25, hf⟩ := bnd hf
                refine q_iald hB hW 8 rfl hr_25 dX7_years_171 ?_
                obtain ⟨r_26, hr_26, hf⟩ := bnd hf
                refine q_callSI hB hW (As := [.int r_25]) (rest := [.int y23_2]) (ws' := [(a_p0, .inr (7, [.int p0_persons, .int p0_skies, .int p0_oaths, .ref a_p0_kind, .ref a_p0_skyAt, .ref a_p0_skyLoud, .ref a_p0_one, .ref a_p0_other, .ref a_p0_worth, .ref a_p0_hangs, .ref a_p0_now, .ref a_p0_readPerson, .ref a_p0_readSky, .ref a_p0_readOath, .int p0_readPersons, .int p0_readSkies, .int p0_readOaths, .ref a_p0_text, .int p0_length, .int p0_at, .int p0_faultAt, .int p0_acts, .int p0_next, .ref a_p0_row, .int p0_told, .ref a_p0_toldAt, .ref a_p0_toldWool, .ref a_p0_toldHeard, .long w_5, .ref a_p0_isKept, .ref a_p0_kept])), (a_p0_kind, .inl (cI, 5, .inl p0_kind)), (a_p0_skyAt, .inl (cI, 5, .inl p0_skyAt)), (a_p0_skyLoud, .inl (cI, 5, .inl p0_skyLoud)), (a_p0_one, .inl (cI, 5, .inl p0_one)), (a_p0_other, .inl (cI, 5, .inl p0_other)), (a_p0_worth, .inl (cI, 5, .inl p0_worth)), (a_p0_hangs, .inl (cI, 5, .inl p0_hangs)), (a_p0_now, .inl (cI, 18, .inl r_24.2))]) (c_X7_ones l D cI cZ r_25 r_26 hr_26) (va_cwS 1 hts gX7_years_X7_ones rfl rfl rfl (by decide +kernel) ⟨Nat.le_of_ble_eq_true rfl, Nat.le_of_ble_eq_true rfl⟩) [] rfl rfl rfl rfl rfl hl.1 rfl (Nat.le_of_ble_eq_true rfl) ⟨Nat.le_of_ble_eq_true rfl, Nat.le_of_ble_eq_true rfl⟩ dX7_years_172 (fun H locs hW => ?_)
                refine lv_iadd hx hb dX7_years_175 ?_
                obtain ⟨w_27, hw_27, hf⟩ := bnd hf
                refine q_nmI hw_27 ?_
                refine lv_istore_n (lv' := [(2, .int w_27), (4, .int w_6), (0, .ref a_p0), (1, .int v1), (3, .int y23_3)]) hx hb dX7_years_176 rfl hl (by decide) rfl (fun ls hl => ?_)
                refine lv_iinc (v := (y23_3 + (1 : Int32))) (lv' := [(3, .int (y23_3 + (1 : Int32))), (2, .int w_27), (4, .int w_6), (0, .ref a_p0), (1, .int v1)]) hx hb dX7_years_177 hl (k := 4) rfl rfl (by decide) rfl (fun ls hl => ?_)
                refine lv_goto (tgt := 23) hx hb dX7_years_180 (by decide) ?_
                have h9 := o_inl hf ho_23
                exact ih w_27 (y23_3 + (1 : Int32)) w_5 r_24.2 _ _ _ h9 hW (lv_sub hl [3, 4, 1, 0] rfl)
            · have hf := it_f c_8 hf
              refine lv_aload_n hx hb dX7_years_82 rfl (lv_at hl 1 rfl) ?_
              refine lv_iconst (v := 5) hx hb dX7_years_83 (by decide) ?_
              refine lv_iconst (v := 0) hx hb dX7_years_84 (by decide) ?_
              refine lv_iload hx hb dX7_years_85 (lv_at hl 0 rfl) ?_
              refine lv_bipush (v := 25) hx hb dX7_years_87 (by decide) ?_
              refine lv_isub hx hb dX7_years_89 ?_
              obtain ⟨r_28, hr_28, hf⟩ := bnd hf
              refine q_callVZ hB hW (ci := 7) (q0 := 0) rfl rfl rfl (As := [.int (5 : Int32), .int (0 : Int32), .int (w_6 - (25 : Int32))]) (rest := []) (ws' := [(a_p0, .inr (7, [.int p0_persons, .int p0_skies, .int p0_oaths, .ref a_p0_kind, .ref a_p0_skyAt, .ref a_p0_skyLoud, .ref a_p0_one, .ref a_p0_other, .ref a_p0_worth, .ref a_p0_hangs, .ref a_p0_now, .ref a_p0_readPerson, .ref a_p0_readSky, .ref a_p0_readOath, .int p0_readPersons, .int p0_readSkies, .int p0_readOaths, .ref a_p0_text, .int p0_length, .int p0_at, .int p0_faultAt, .int p0_acts, .int p0_next, .ref a_p0_row, .int p0_told, .ref a_p0_toldAt, .ref a_p0_toldWool, .ref a_p0_toldHeard, .long w_5, .ref a_p0_isKept, .ref a_p0_kept])), (a_p0_kind, .inl (cI, 5, .inl p0_kind)), (a_p0_skyAt, .inl (cI, 5, .inl p0_skyAt)), (a_p0_skyLoud, .inl (cI, 5, .inl p0_skyLoud)), (a_p0_one, .inl (cI, 5, .inl p0_one)), (a_p0_other, .inl (cI, 5, .inl p0_other)), (a_p0_worth, .inl (cI, 5, .inl p0_worth)), (a_p0_hangs, .inl (cI, 5, .inl p0_hangs)), (a_p0_now, .inl (cI, 18, .inl r_28.2))]) (c_X7_tryThing l D cI cZ a_p0 a_p0_kind a_p0_skyAt a_p0_skyLoud a_p0_one a_p0_other a_p0_worth a_p0_hangs a_p0_now a_p0_readPerson a_p0_readSky a_p0_readOath a_p0_text a_p0_row a_p0_toldAt a_p0_toldWool a_p0_toldHeard a_p0_isKept a_p0_kept p0_persons p0_skies p0_oaths p0_readPersons p0_readSkies p0_readOaths p0_length p0_at p0_faultAt p0_acts p0_next p0_told w_5 p0_kind p0_skyAt p0_skyLoud p0_one p0_other p0_worth p0_hangs y23_p0_now (5 : Int32) (0 : Int32) (w_6 - (25 : Int32)) r_28 hr_28) (cwV 3 hts gX7_years_X7_tryThing rfl rfl rfl (by decide +kernel) ⟨Nat.le_of_ble_eq_true rfl, Nat.le_of_ble_eq_true rfl⟩) [0, 1, 2, 3, 4, 5, 6, 7, 8] rfl rfl rfl rfl rfl hl.1 rfl (Nat.le_of_ble_eq_true rfl) ⟨Nat.le_of_ble_eq_true rfl, Nat.le_of_ble_eq_true rfl⟩ dX7_years_90 (fun hzr_28 H locs hW => ?_)
              refine lv_pop hx hb dX7_years_93 rfl ?_
              refine lv_goto (tgt := 164) hx hb dX7_years_94 (by decide) ?_
              refine lv_iload_n hx hb dX7_years_164 rfl (lv_at hl 3 rfl) ?_
              refine lv_aload_n hx hb dX7_years_165 rfl (lv_at hl 1 rfl) ?_
              refine q_get hB hW 7 in_X7 0 rfl rfl 10 (by decide) fl_31 (v := .ref a_p0_now) rfl dX7_years_166 ?_
              refine lv_bipush (v := 15) hx hb dX7_years_169 (by decide) ?_
              obtain ⟨r_29, hr_29, hf⟩ := bnd hf
              refine q_iald hB hW 8 rfl hr_29 dX7_years_171 ?_
              obtain ⟨r_30, hr_30, hf⟩ := bnd hf
              refine q_callSI hB hW (As := [.int r_29]) (rest := [.int y23_2]) (ws' := [(a_p0, .inr (7, [.int p0_persons, .int p0_skies, .int p0_oaths, .ref a_p0_kind, .ref a_p0_skyAt, .ref a_p0_skyLoud, .ref a_p0_one, .ref a_p0_other, .ref a_p0_worth, .ref a_p0_hangs, .ref a_p0_now, .ref a_p0_readPerson, .ref a_p0_readSky, .ref a_p0_readOath, .int p0_readPersons, .int p0_readSkies, .int p0_readOaths, .ref a_p0_text, .int p0_length, .int p0_at, .int p0_faultAt, .int p0_acts, .int p0_next, .ref a_p0_row, .int p0_told, .ref a_p0_toldAt, .ref a_p0_toldWool, .ref a_p0_toldHeard, .long w_5, .ref a_p0_isKept, .ref a_p0_kept])), (a_p0_kind, .inl (cI, 5, .inl p0_kind)), (a_p0_skyAt, .inl (cI, 5, .inl p0_skyAt)), (a_p0_skyLoud, .inl (cI, 5, .inl p0_skyLoud)), (a_p0_one, .inl (cI, 5, .inl p0_one)), (a_p0_other, .inl (cI, 5, .inl p0_other)), (a_p0_worth, .inl (cI, 5, .inl p0_worth)), (a_p0_hangs, .inl (cI, 5, .inl p0_hangs)), (a_p0_now, .inl (cI, 18, .inl r_28.2))]) (c_X7_ones l D cI cZ r_29 r_30 hr_30) (va_cwS 1 hts gX7_years_X7_ones rfl rfl rfl (by decide +kernel) ⟨Nat.le_of_ble_eq_true rfl, Nat.le_of_ble_eq_true rfl⟩) [] rfl rfl rfl rfl rfl hl.1 rfl (Nat.le_of_ble_eq_true rfl) ⟨Nat.le_of_ble_eq_true rfl, Nat.le_of_ble_eq_true rfl⟩ dX7_years_172 (fun H locs hW => ?_)
              refine lv_iadd hx hb dX7_years_175 ?_
              obtain ⟨w_31, hw_31, hf⟩ := bnd hf
              refine q_nmI hw_31 ?_
              refine lv_istore_n (lv' := [(2, .int w_31), (4, .int w_6), (0, .ref a_p0), (1, .int v1), (3, .int y23_3)]) hx hb dX7_years_176 rfl hl (by decide) rfl (fun ls hl => ?_)
              refine lv_iinc (v := (y23_3 + (1 : Int32))) (lv' := [(3, .int (y23_3 + (1 : Int32))), (2, .int w_31), (4, .int w_6), (0, .ref a_p0), (1, .int v1)]) hx hb dX7_years_177 hl (k := 4) rfl rfl (by decide) rfl (fun ls hl => ?_)
              refine lv_goto (tgt := 23) hx hb dX7_years_180 (by decide) ?_
              have h9 := o_inl hf ho_23
              exact ih w_31 (y23_3 + (1 : Int32)) w_5 r_28.2 _ _ _ h9 hW (lv_sub hl [3, 4, 1, 0] rfl)
          · have hf := it_f c_7 hf
            refine lv_aload_n hx hb dX7_years_65 rfl (lv_at hl 1 rfl) ?_
            refine lv_iconst (v := 1) hx hb dX7_years_66 (by decide) ?_
            refine lv_iconst (v := 1) hx hb dX7_years_67 (by decide) ?_
            obtain ⟨r_32, hr_32, hf⟩ := bnd hf
            refine q_callVI hB hW (ci := 7) (q0 := 0) rfl rfl rfl (As := [.int (1 : Int32), .int (1 : Int32)]) (rest := []) (ws' := [(a_p0, .inr (7, [.int p0_persons, .int p0_skies, .int p0_oaths, .ref a_p0_kind, .ref a_p0_skyAt, .ref a_p0_skyLoud, .ref a_p0_one, .ref a_p0_other, .ref a_p0_worth, .ref a_p0_hangs, .ref a_p0_now, .ref a_p0_readPerson, .ref a_p0_readSky, .ref a_p0_readOath, .int p0_readPersons, .int p0_readSkies, .int p0_readOaths, .ref a_p0_text, .int p0_length, .int p0_at, .int p0_faultAt, .int p0_acts, .int p0_next, .ref a_p0_row, .int p0_told, .ref a_p0_toldAt, .ref a_p0_toldWool, .ref a_p0_toldHeard, .long w_5, .ref a_p0_isKept, .ref a_p0_kept])), (a_p0_kind, .inl (cI, 5, .inl p0_kind)), (a_p0_skyAt, .inl (cI, 5, .inl p0_skyAt)), (a_p0_skyLoud, .inl (cI, 5, .inl p0_skyLoud)), (a_p0_one, .inl (cI, 5, .inl p0_one)), (a_p0_other, .inl (cI, 5, .inl p0_other)), (a_p0_worth, .inl (cI, 5, .inl p0_worth)), (a_p0_hangs, .inl (cI, 5, .inl p0_hangs)), (a_p0_now, .inl (cI, 18, .inl r_32.2))]) (c_X7_passOn l D cI cZ a_p0 a_p0_kind a_p0_skyAt a_p0_skyLoud a_p0_one a_p0_other a_p0_worth a_p0_hangs a_p0_now a_p0_readPerson a_p0_readSky a_p0_readOath a_p0_text a_p0_row a_p0_toldAt a_p0_toldWool a_p0_toldHeard a_p0_isKept a_p0_kept p0_persons p0_skies p0_oaths p0_readPersons p0_readSkies p0_readOaths p0_length p0_at p0_faultAt p0_acts p0_next p0_told w_5 p0_kind p0_skyAt p0_skyLoud p0_one p0_other p0_worth p0_hangs y23_p0_now (1 : Int32) (1 : Int32) r_32 hr_32) (cwV 2 hts gX7_years_X7_passOn rfl rfl rfl (by decide +kernel) ⟨Nat.le_of_ble_eq_true rfl, Nat.le_of_ble_eq_true rfl⟩) [0, 1, 2, 3, 4, 5, 6, 7, 8] rfl rfl rfl rfl rfl hl.1 rfl (Nat.le_of_ble_eq_true rfl) ⟨Nat.le_of_ble_eq_true rfl, Nat.le_of_ble_eq_true rfl⟩ dX7_years_68 (fun H locs hW => ?_)
            refine lv_pop hx hb dX7_years_71 rfl ?_
            refine lv_goto (tgt := 164) hx hb dX7_years_72 (by decide) ?_
            refine lv_iload_n hx hb dX7_years_164 rfl (lv_at hl 3 rfl) ?_
            refine lv_aload_n hx hb dX7_years_165 rfl (lv_at hl 1 rfl) ?_
            refine q_get hB hW 7 in_X7 0 rfl rfl 10 (by decide) fl_31 (v := .ref a_p0_now) rfl dX7_years_166 ?_
            refine lv_bipush (v := 15) hx hb dX7_years_169 (by decide) ?_
            obtain ⟨r_33, hr_33, hf⟩ := bnd hf
            refine q_iald hB hW 8 rfl hr_33 dX7_years_171 ?_
            obtain ⟨r_34, hr_34, hf⟩ := bnd hf
            refine q_callSI hB hW (As := [.int r_33]) (rest := [.int y23_2]) (ws' := [(a_p0, .inr (7, [.int p0_persons, .int p0_skies, .int p0_oaths, .ref a_p0_kind, .ref a_p0_skyAt, .ref a_p0_skyLoud, .ref a_p0_one, .ref a_p0_other, .ref a_p0_worth, .ref a_p0_hangs, .ref a_p0_now, .ref a_p0_readPerson, .ref a_p0_readSky, .ref a_p0_readOath, .int p0_readPersons, .int p0_readSkies, .int p0_readOaths, .ref a_p0_text, .int p0_length, .int p0_at, .int p0_faultAt, .int p0_acts, .int p0_next, .ref a_p0_row, .int p0_told, .ref a_p0_toldAt, .ref a_p0_toldWool, .ref a_p0_toldHeard, .long w_5, .ref a_p0_isKept, .ref a_p0_kept])), (a_p0_kind, .inl (cI, 5, .inl p0_kind)), (a_p0_skyAt, .inl (cI, 5, .inl p0_skyAt)), (a_p0_skyLoud, .inl (cI, 5, .inl p0_skyLoud)), (a_p0_one, .inl (cI, 5, .inl p0_one)), (a_p0_other, .inl (cI, 5, .inl p0_other)), (a_p0_worth, .inl (cI, 5, .inl p0_worth)), (a_p0_hangs, .inl (cI, 5, .inl p0_hangs)), (a_p0_now, .inl (cI, 18, .inl r_32.2))]) (c_X7_ones l D cI cZ r_33 r_34 hr_34) (va_cwS 1 hts gX7_years_X7_ones rfl rfl rfl (by decide +kernel) ⟨Nat.le_of_ble_eq_true rfl, Nat.le_of_ble_eq_true rfl⟩) [] rfl rfl rfl rfl rfl hl.1 rfl (Nat.le_of_ble_eq_true rfl) ⟨Nat.le_of_ble_eq_true rfl, Nat.le_of_ble_eq_true rfl⟩ dX7_years_172 (fun H locs hW => ?_)
            refine lv_iadd hx hb dX7_years_175 ?_
            obtain ⟨w_35, hw_35, hf⟩ := bnd hf
            refine q_nmI hw_35 ?_
            refine lv_istore_n (lv' := [(2, .int w_35), (4, .int w_6), (0, .ref a_p0), (1, .int v1), (3, .int y23_3)]) hx hb dX7_years_176 rfl hl (by decide) rfl (fun ls hl => ?_)
            refine lv_iinc (v := (y23_3 + (1 : Int32))) (lv' := [(3, .int (y23_3 + (1 : Int32))), (2, .int w_35), (4, .int w_6), (0, .ref a_p0), (1, .int v1)]) hx hb dX7_years_177 hl (k := 4) rfl rfl (by decide) rfl (fun ls hl => ?_)
            refine lv_goto (tgt := 23) hx hb dX7_years_180 (by decide) ?_
            have h9 := o_inl hf ho_23
            exact ih w_35 (y23_3 + (1 : Int32)) w_5 r_32.2 _ _ _ h9 hW (lv_sub hl [3, 4, 1, 0] rfl)
    exact L_23 FU (0 : Int32) (0 : Int32) p0_seed r_3 _ _ _ hl_23 hW (lv_sub hl [2, 3, 1, 0] rfl)
  · have hf := it_t c_2 hf
    refine lv_bipush (v := -2) hx hb dX7_years_12 (by decide) ?_
    exact hE _ _ _ _ _ ((-2 : Int32), p0_seed, p0_now) (sm hf) hW rfl dX7_years_14
def b_X7_keep_21 (v1 : Int32) (p0_now : Nat → Int32) (v2 : Int32) (p0_kept : Nat → Int32) : Option ((Int32 × (Nat → Int32)) ⊕ (Nat → Int32)) := if (9 : Int32) ≤ v2 then some (.inr p0_kept) else (ald p0_now 18 v2).bind fun r_523 => (ast p0_kept 18 (((9 : Int32) * v1) + v2) r_523).bind fun r_524 => some (.inl ((v2 + (1 : Int32)), r_524))
def f_X7_keep (v1 : Int32) (p0_now : Nat → Int32) (p0_isKept : Nat → Int32) (p0_kept : Nat → Int32) : Option (Int32 × (Nat → Int32) × (Nat → Int32)) := (f_X7_in (Int32.toInt64 v1) (0 : Int64) (1 : Int64)).bind fun r_1 => if r_1 = (0 : Int32) then some ((-1 : Int32), p0_isKept, p0_kept) else (astZ p0_isKept 2 v1 (1 : Int32)).bind fun r_3 => (itr (fun s => b_X7_keep_21 v1 p0_now s.1 s.2) FU ((0 : Int32), p0_kept)).bind fun x_21 => (ald p0_now 18 (8 : Int32)).bind fun r_4 => some (r_4, r_3, x_21)
set_option maxHeartbeats 4000000 in
set_option maxRecDepth 100000 in
theorem c_X7_keep (l : Launch) (D : va_G) (cI cZ : ClassId) (a_p0 a_p0_kind a_p0_skyAt a_p0_skyLoud a_p0_one a_p0_other a_p0_worth a_p0_hangs a_p0_now a_p0_readPerson a_p0_readSky a_p0_readOath a_p0_text a_p0_row a_p0_toldAt a_p0_toldWool a_p0_toldHeard a_p0_isKept a_p0_kept : Nat) (p0_persons : Int32) (p0_skies : Int32) (p0_oaths : Int32) (p0_readPersons : Int32) (p0_readSkies : Int32) (p0_readOaths : Int32) (p0_length : Int32) (p0_at : Int32) (p0_faultAt : Int32) (p0_acts : Int32) (p0_next : Int32) (p0_told : Int32) (p0_seed : Int64) (p0_now : Nat → Int32) (p0_isKept : Nat → Int32) (p0_kept : Nat → Int32) (v1 : Int32) (q : Int32 × (Nat → Int32) × (Nat → Int32)) (hf : f_X7_keep v1 p0_now p0_isKept p0_kept = some q) : CtI l D cI cZ yX7_keep wsX7_keep 1 25 [.ref a_p0, .int v1] [(a_p0, .inr (7, [.int p0_persons, .int p0_skies, .int p0_oaths, .ref a_p0_kind, .ref a_p0_skyAt, .ref a_p0_skyLoud, .ref a_p0_one, .ref a_p0_other, .ref a_p0_worth, .ref a_p0_hangs, .ref a_p0_now, .ref a_p0_readPerson, .ref a_p0_readSky, .ref a_p0_readOath, .int p0_readPersons, .int p0_readSkies, .int p0_readOaths, .ref a_p0_text, .int p0_length, .int p0_at, .int p0_faultAt, .int p0_acts, .int p0_next, .ref a_p0_row, .int p0_told, .ref a_p0_toldAt, .ref a_p0_toldWool, .ref a_p0_toldHeard, .long p0_seed, .ref a_p0_isKept, .ref a_p0_kept])), (a_p0_now, .inl (cI, 18, .inl p0_now)), (a_p0_isKept, .inl (cZ, 2, .inl p0_isKept)), (a_p0_kept, .inl (cI, 18, .inl p0_kept))] (fun q => [(a_p0, .inr (7, [.int p0_persons, .int p0_skies, .int p0_oaths, .ref a_p0_kind, .ref a_p0_skyAt, .ref a_p0_skyLoud, .ref a_p0_one, .ref a_p0_other, .ref a_p0_worth, .ref a_p0_hangs, .ref a_p0_now, .ref a_p0_readPerson, .ref a_p0_readSky, .ref a_p0_readOath, .int p0_readPersons, .int p0_readSkies, .int p0_readOaths, .ref a_p0_text, .int p0_length, .int p0_at, .int p0_faultAt, .int p0_acts, .int p0_next, .ref a_p0_row, .int p0_told, .ref a_p0_toldAt, .ref a_p0_toldWool, .ref a_p0_toldHeard, .long p0_seed, .ref a_p0_isKept, .ref a_p0_kept])), (a_p0_now, .inl (cI, 18, .inl p0_now)), (a_p0_isKept, .inl (cZ, 2, .inl q.2.1)), (a_p0_kept, .inl (cI, 18, .inl q.2.2))]) (fun q => q.1) q := by
  refine CtI.of (cc := cX7_keep) (maxL := 3) (plainFor_of_name (by decide)) rfl (Nat.le_of_ble_eq_true rfl) ?_
  intro p e s m args below meth c A Q H ls hB hE hW hl
  have hx := hB.1
  have hb := hB.2.1
  have hml := hB.2.2.2.1
  have hown : s.vm.findClass RX7 = some m.cls := hB.2.2.2.2.1
  have hts := hB.2.2.2.2.2.1
  have hK := hB.2.2.2.2.2.2.2.1.1
  have hl : lv_has ls 3 [(0, .ref a_p0), (1, .int v1)] := hl
  have in_X7 : ∀ w ∈ wsX70, w ∈ wsX7_keep := fun w h => List.mem_cons_of_mem _ (List.mem_append_right _ h)
  have fl_31 : (Cond.fieldLink RX7 31 (TX7 10).1 (TX7 10).2.1 (TX7 10).2.2.1).before args s = true := hts (.fieldLink RX7 31 "ClapOathsModel" "now" "[I") (by decide +kernel)
  have fl_58 : (Cond.fieldLink RX7 58 (TX7 29).1 (TX7 29).2.1 (TX7 29).2.2.1).before args s = true := hts (.fieldLink RX7 58 "ClapOathsModel" "isKept" "[Z") (by decide +kernel)
  have fl_62 : (Cond.fieldLink RX7 62 (TX7 30).1 (TX7 30).2.1 (TX7 30).2.2.1).before args s = true := hts (.fieldLink RX7 62 "ClapOathsModel" "kept" "[I") (by decide +kernel)
  unfold f_X7_keep at hf
  refine lv_iload_n hx hb dX7_keep_0 rfl (lv_at hl 1 rfl) ?_
  refine lv_i2l (v := (Int32.toInt64 v1)) hx hb dX7_keep_1 rfl ?_
  refine lv_lconst (v := 0) hx hb dX7_keep_2 (by decide) ?_
  refine lv_lconst (v := 1) hx hb dX7_keep_3 (by decide) ?_
  obtain ⟨r_1, hr_1, hf⟩ := bnd hf
  refine q_callSZ hB hW (As := [.long (Int32.toInt64 v1), .long (0 : Int64), .long (1 : Int64)]) (rest := []) (ws' := [(a_p0, .inr (7, [.int p0_persons, .int p0_skies, .int p0_oaths, .ref a_p0_kind, .ref a_p0_skyAt, .ref a_p0_skyLoud, .ref a_p0_one, .ref a_p0_other, .ref a_p0_worth, .ref a_p0_hangs, .ref a_p0_now, .ref a_p0_readPerson, .ref a_p0_readSky, .ref a_p0_readOath, .int p0_readPersons, .int p0_readSkies, .int p0_readOaths, .ref a_p0_text, .int p0_length, .int p0_at, .int p0_faultAt, .int p0_acts, .int p0_next, .ref a_p0_row, .int p0_told, .ref a_p0_toldAt, .ref a_p0_toldWool, .ref a_p0_toldHeard, .long p0_seed, .ref a_p0_isKept, .ref a_p0_kept])), (a_p0_now, .inl (cI, 18, .inl p0_now)), (a_p0_isKept, .inl (cZ, 2, .inl p0_isKept)), (a_p0_kept, .inl (cI, 18, .inl p0_kept))]) (c_X7_in l D cI cZ (Int32.toInt64 v1) (0 : Int64) (1 : Int64) r_1 hr_1) (va_cwS 3 hts gX7_keep_X7_in rfl rfl rfl (by decide +kernel) ⟨Nat.le_of_ble_eq_true rfl, Nat.le_of_ble_eq_true rfl⟩) [] rfl rfl rfl rfl rfl hl.1 rfl (Nat.le_of_ble_eq_true rfl) ⟨Nat.le_of_ble_eq_true rfl, Nat.le_of_ble_eq_true rfl⟩ dX7_keep_4 (fun hzr_1 H locs hW => ?_)
  refine lv_if_ne (tgt := 12) hx hb dX7_keep_7 (by decide) (fun c_2 => ?_) (fun c_2 => ?_)
  · have hf := it_f c_2 hf
    refine lv_aload_n hx hb dX7_keep_12 rfl (lv_at hl 0 rfl) ?_
    refine q_get hB hW 7 in_X7 0 rfl rfl 29 (by decide) fl_58 (v := .ref a_p0_isKept) rfl dX7_keep_13 ?_
    refine lv_iload_n hx hb dX7_keep_16 rfl (lv_at hl 1 rfl) ?_
    refine lv_iconst (v := 1) hx hb dX7_keep_17 (by decide) ?_
    obtain ⟨r_3, hr_3, hf⟩ := bnd hf
    refine q_zast hB hW 2 rfl hr_3 (ws' := [(a_p0, .inr (7, [.int p0_persons, .int p0_skies, .int p0_oaths, .ref a_p0_kind, .ref a_p0_skyAt, .ref a_p0_skyLoud, .ref a_p0_one, .ref a_p0_other, .ref a_p0_worth, .ref a_p0_hangs, .ref a_p0_now, .ref a_p0_readPerson, .ref a_p0_readSky, .ref a_p0_readOath, .int p0_readPersons, .int p0_readSkies, .int p0_readOaths, .ref a_p0_text, .int p0_length, .int p0_at, .int p0_faultAt, .int p0_acts, .int p0_next, .ref a_p0_row, .int p0_told, .ref a_p0_toldAt, .ref a_p0_toldWool, .ref a_p0_toldHeard, .long p0_seed, .ref a_p0_isKept, .ref a_p0_kept])), (a_p0_now, .inl (cI, 18, .inl p0_now)), (a_p0_isKept, .inl (cZ, 2, .inl r_3)), (a_p0_kept, .inl (cI, 18, .inl p0_kept))]) rfl dX7_keep_18 (fun H locs hW => ?_)
    refine lv_iconst (v := 0) hx hb dX7_keep_19 (by decide) ?_
    refine lv_istore_n (lv' := [(2, .int (0 : Int32)), (0, .ref a_p0), (1, .int v1)]) hx hb dX7_keep_20 rfl hl (by decide) rfl (fun ls hl => ?_)
    obtain ⟨e_21, hl_21, hk_21⟩ := bnd hf
    have K_21 : ∀ x_21 : Nat → Int32, x_21 = e_21 → ∀ (H : Heap) (locs : List Loc) (ls : Array Slot), Wl D A s.heap [(a_p0, .inr (7, [.int p0_persons, .int p0_skies, .int p0_oaths, .ref a_p0_kind, .ref a_p0_skyAt, .ref a_p0_skyLoud, .ref a_p0_one, .ref a_p0_other, .ref a_p0_worth, .ref a_p0_hangs, .ref a_p0_now, .ref a_p0_readPerson, .ref a_p0_readSky, .ref a_p0_readOath, .int p0_readPersons, .int p0_readSkies, .int p0_readOaths, .ref a_p0_text, .int p0_length, .int p0_at, .int p0_faultAt, .int p0_acts, .int p0_next, .ref a_p0_row, .int p0_told, .ref a_p0_toldAt, .ref a_p0_toldWool, .ref a_p0_toldHeard, .long p0_seed, .ref a_p0_isKept, .ref a_p0_kept])), (a_p0_now, .inl (cI, 18, .inl p0_now)), (a_p0_isKept, .inl (cZ, 2, .inl r_3)), (a_p0_kept, .inl (cI, 18, .inl x_21))] H locs → lv_has ls 3 [(0, .ref a_p0)] → W p l e (Rm 1 25) s m args below meth c H locs 0 0 Q (F0 m 50 ls []) := by
      intro x_21 hx_21 H locs ls hW hl
      have hf := hk_21
      rw [← hx_21] at hf
      refine lv_aload_n hx hb dX7_keep_50 rfl (lv_at hl 0 rfl) ?_
      refine q_get hB hW 7 in_X7 0 rfl rfl 10 (by decide) fl_31 (v := .ref a_p0_now) rfl dX7_keep_51 ?_
      refine lv_bipush (v := 8) hx hb dX7_keep_54 (by decide) ?_
      obtain ⟨r_4, hr_4, hf⟩ := bnd hf
      refine q_iald hB hW 1 rfl hr_4 dX7_keep_56 ?_
      exact hE _ _ _ _ _ (r_4, r_3, x_21) (sm hf) hW rfl dX7_keep_57
    have L_21 : ∀ (n : Nat) (y21_2 : Int32) (y21_p0_kept : Nat → Int32) (H : Heap) (locs : List Loc) (ls : Array Slot), itr (fun s => b_X7_keep_21 v1 p0_now s.1 s.2) n (y21_2, y21_p0_kept) = some e_21 → Wl D A s.heap [(a_p0, .inr (7, [.int p0_persons, .int p0_skies, .int p0_oaths, .ref a_p0_kind, .ref a_p0_skyAt, .ref a_p0_skyLoud, .ref a_p0_one, .ref a_p0_other, .ref a_p0_worth, .ref a_p0_hangs, .ref a_p0_now, .ref a_p0_readPerson, .ref a_p0_readSky, .ref a_p0_readOath, .int p0_readPersons, .int p0_readSkies, .int p0_readOaths, .ref a_p0_text, .int p0_length, .int p0_at, .int p0_faultAt, .int p0_acts, .int p0_next, .ref a_p0_row, .int p0_told, .ref a_p0_toldAt, .ref a_p0_toldWool, .ref a_p0_toldHeard, .long p0_seed, .ref a_p0_isKept, .ref a_p0_kept])), (a_p0_now, .inl (cI, 18, .inl p0_now)), (a_p0_isKept, .inl (cZ, 2, .inl r_3)), (a_p0_kept, .inl (cI, 18, .inl y21_p0_kept))] H locs → lv_has ls 3 [(0, .ref a_p0), (1, .int v1), (2, .int y21_2)] → W p l e (Rm 1 25) s m args below meth c H locs 0 0 Q (F0 m 21 ls []) := by
      intro n
      induction n with
      | zero => intro y21_2 y21_p0_kept H locs ls h9; exact itr_0 h9
      | succ n ih =>
        intro y21_2 y21_p0_kept H locs ls hf hW hl
        obtain ⟨o_21, hf, ho_21⟩ := itr_inv hf
        have hf : b_X7_keep_21 v1 p0_now y21_2 y21_p0_kept = some o_21 := hf
        unfold b_X7_keep_21 at hf
        refine lv_iload_n hx hb dX7_keep_21 rfl (lv_at hl 2 rfl) ?_
        refine lv_bipush (v := 9) hx hb dX7_keep_22 (by decide) ?_
        refine lv_icmp_ge (tgt := 50) hx hb dX7_keep_24 (by decide) (fun c_5 => ?_) (fun c_5 => ?_)
        · have hf := it_t c_5 hf
          have h9 := o_inr hf ho_21
          exact K_21 y21_p0_kept h9 _ _ _ hW (lv_sub hl [0] rfl)
        · have hf := it_f c_5 hf
          refine lv_aload_n hx hb dX7_keep_27 rfl (lv_at hl 0 rfl) ?_
          refine q_get hB hW 7 in_X7 0 rfl rfl 30 (by decide) fl_62 (v := .ref a_p0_kept) rfl dX7_keep_28 ?_
          refine lv_bipush (v := 9) hx hb dX7_keep_31 (by decide) ?_
          refine lv_iload_n hx hb dX7_keep_33 rfl (lv_at hl 1 rfl) ?_
          refine lv_imul hx hb dX7_keep_34 ?_
          refine lv_iload_n hx hb dX7_keep_35 rfl (lv_at hl 2 rfl) ?_
          refine lv_iadd hx hb dX7_keep_36 ?_
          refine lv_aload_n hx hb dX7_keep_37 rfl (lv_at hl 0 rfl) ?_
          refine q_get hB hW 7 in_X7 0 rfl rfl 10 (by decide) fl_31 (v := .ref a_p0_now) rfl dX7_keep_38 ?_
          refine lv_iload_n hx hb dX7_keep_41 rfl (lv_at hl 2 rfl) ?_
          obtain ⟨r_6, hr_6, hf⟩ := bnd hf
          refine q_iald hB hW 1 rfl hr_6 dX7_keep_42 ?_
          obtain ⟨r_7, hr_7, hf⟩ := bnd hf
          refine q_iast hB hW 3 rfl hr_7 (ws' := [(a_p0, .inr (7, [.int p0_persons, .int p0_skies, .int p0_oaths, .ref a_p0_kind, .ref a_p0_skyAt, .ref a_p0_skyLoud, .ref a_p0_one, .ref a_p0_other, .ref a_p0_worth, .ref a_p0_hangs, .ref a_p0_now, .ref a_p0_readPerson, .ref a_p0_readSky, .ref a_p0_readOath, .int p0_readPersons, .int p0_readSkies, .int p0_readOaths, .ref a_p0_text, .int p0_length, .int p0_at, .int p0_faultAt, .int p0_acts, .int p0_next, .ref a_p0_row, .int p0_told, .ref a_p0_toldAt, .ref a_p0_toldWool, .ref a_p0_toldHeard, .long p0_seed, .ref a_p0_isKept, .ref a_p0_kept])), (a_p0_now, .inl (cI, 18, .inl p0_now)), (a_p0_isKept, .inl (cZ, 2, .inl r_3)), (a_p0_kept, .inl (cI, 18, .inl r_7))]) rfl dX7_keep_43 (fun H locs hW => ?_)
          refine lv_iinc (v := (y21_2 + (1 : Int32))) (lv' := [(2, .int (y21_2 + (1 : Int32))), (0, .ref a_p0), (1, .int v1)]) hx hb dX7_keep_44 hl (k := 2) rfl rfl (by decide) rfl (fun ls hl => ?_)
          refine lv_goto (tgt := 21) hx hb dX7_keep_47 (by decide) ?_
          have h9 := o_inl hf ho_21
          exact ih (y21_2 + (1 : Int32)) r_7 _ _ _ h9 hW (lv_sub hl [1, 2, 0] rfl)
    exact L_21 FU (0 : Int32) p0_kept _ _ _ hl_21 hW (lv_sub hl [1, 2, 0] rfl)
  · have hf := it_t c_2 hf
    refine lv_iconst (v := -1) hx hb dX7_keep_10 (by decide) ?_
    exact hE _ _ _ _ _ ((-1 : Int32), p0_isKept, p0_kept) (sm hf) hW rfl dX7_keep_11
def b_X7_again_26 (v1 : Int32) (p0_kept : Nat → Int32) (v2 : Int32) (p0_now : Nat → Int32) : Option ((Int32 × (Nat → Int32)) ⊕ (Nat → Int32)) := if (9 : Int32) ≤ v2 then some (.inr p0_now) else (ald p0_kept 18 (((9 : Int32) * v1) + v2)).bind fun r_528 => (ast p0_now 18 v2 r_528).bind fun r_529 => some (.inl ((v2 + (1 : Int32)), r_529))
def f_X7_again (v1 : Int32) (p0_acts : Int32) (p0_now : Nat → Int32) (p0_isKept : Nat → Int32) (p0_kept : Nat → Int32) : Option (Int32 × Int32 × (Nat → Int32)) := (f_X7_in (Int32.toInt64 v1) (0 : Int64) (1 : Int64)).bind fun r_1 => if r_1 = (0 : Int32) then some ((-1 : Int32), p0_acts, p0_now) else (ald p0_isKept 2 v1).bind fun r_3 => if r_3 = (0 : Int32) then some ((-3 : Int32), p0_acts, p0_now) else (itr (fun s => b_X7_again_26 v1 p0_kept s.1 s.2) FU ((0 : Int32), p0_now)).bind fun x_26 => (ald x_26 18 (8 : Int32)).bind fun r_5 => some (r_5, (0 : Int32), x_26)
set_option maxHeartbeats 4000000 in
set_option maxRecDepth 100000 in
theorem c_X7_again (l : Launch) (D : va_G) (cI cZ : ClassId) (a_p0 a_p0_kind a_p0_skyAt a_p0_skyLoud a_p0_one a_p0_other a_p0_worth a_p0_hangs a_p0_now a_p0_readPerson a_p0_readSky a_p0_readOath a_p0_text a_p0_row a_p0_toldAt a_p0_toldWool a_p0_toldHeard a_p0_isKept a_p0_kept : Nat) (p0_persons : Int32) (p0_skies : Int32) (p0_oaths : Int32) (p0_readPersons : Int32) (p0_readSkies : Int32) (p0_readOaths : Int32) (p0_length : Int32) (p0_at : Int32) (p0_faultAt : Int32) (p0_acts : Int32) (p0_next : Int32) (p0_told : Int32) (p0_seed : Int64) (p0_now : Nat → Int32) (p0_isKept : Nat → Int32) (p0_kept : Nat → Int32) (v1 : Int32) (q : Int32 × Int32 × (Nat → Int32)) (hf : f_X7_again v1 p0_acts p0_now p0_isKept p0_kept = some q) : CtI l D cI cZ yX7_again wsX7_again 1 25 [.ref a_p0, .int v1] [(a_p0, .inr (7, [.int p0_persons, .int p0_skies, .int p0_oaths, .ref a_p0_kind, .ref a_p0_skyAt, .ref a_p0_skyLoud, .ref a_p0_one, .ref a_p0_other, .ref a_p0_worth, .ref a_p0_hangs, .ref a_p0_now, .ref a_p0_readPerson, .ref a_p0_readSky, .ref a_p0_readOath, .int p0_readPersons, .int p0_readSkies, .int p0_readOaths, .ref a_p0_text, .int p0_length, .int p0_at, .int p0_faultAt, .int p0_acts, .int p0_next, .ref a_p0_row, .int p0_told, .ref a_p0_toldAt, .ref a_p0_toldWool, .ref a_p0_toldHeard, .long p0_seed, .ref a_p0_isKept, .ref a_p0_kept])), (a_p0_now, .inl (cI, 18, .inl p0_now)), (a_p0_isKept, .inl (cZ, 2, .inl p0_isKept)), (a_p0_kept, .inl (cI, 18, .inl p0_kept))] (fun q => [(a_p0, .inr (7, [.int p0_persons, .int p0_skies, .int p0_oaths, .ref a_p0_kind, .ref a_p0_skyAt, .ref a_p0_skyLoud, .ref a_p0_one, .ref a_p0_other, .ref a_p0_worth, .ref a_p0_hangs, .ref a_p0_now, .ref a_p0_readPerson, .ref a_p0_readSky, .ref a_p0_readOath, .int p0_readPersons, .int p0_readSkies, .int p0_readOaths, .ref a_p0_text, .int p0_length, .int p0_at, .int p0_faultAt, .int q.2.1, .int p0_next, .ref a_p0_row, .int p0_told, .ref a_p0_toldAt, .ref a_p0_toldWool, .ref a_p0_toldHeard, .long p0_seed, .ref a_p0_isKept, .ref a_p0_kept])), (a_p0_now, .inl (cI, 18, .inl q.2.2)), (a_p0_isKept, .inl (cZ, 2, .inl p0_isKept)), (a_p0_kept, .inl (cI, 18, .inl p0_kept))]) (fun q => q.1) q := by
  refine CtI.of (cc := cX7_again) (maxL := 3) (plainFor_of_name (by decide)) rfl (Nat.le_of_ble_eq_true rfl) ?_
  intro p e s m args below meth c A Q H ls hB hE hW hl
  have hx := hB.1
  have hb := hB.2.1
  have hml := hB.2.2.2.1
  have hown : s.vm.findClass RX7 = some m.cls := hB.2.2.2.2.1
  have hts := hB.2.2.2.2.2.1
  have hK := hB.2.2.2.2.2.2.2.1.1
  have hl : lv_has ls 3 [(0, .ref a_p0), (1, .int v1)] := hl
  have in_X7 : ∀ w ∈ wsX70, w ∈ wsX7_again := fun w h => List.mem_cons_of_mem _ (List.mem_append_right _ h)
  have fl_31 : (Cond.fieldLink RX7 31 (TX7 10).1 (TX7 10).2.1 (TX7 10).2.2.1).before args s = true := hts (.fieldLink RX7 31 "ClapOathsModel" "now" "[I") (by decide +kernel)
  have fl_58 : (Cond.fieldLink RX7 58 (TX7 29).1 (TX7 29).2.1 (TX7 29).2.2.1).before args s = true := hts (.fieldLink RX7 58 "ClapOathsModel" "isKept" "[Z") (by decide +kernel)
  have fl_62 : (Cond.fieldLink RX7 62 (TX7 30).1 (TX7 30).2.1 (TX7 30).2.2.1).before args s = true := hts (.fieldLink RX7 62 "ClapOathsModel" "kept" "[I") (by decide +kernel)
  have fl_114 : (Cond.fieldLink RX7 114 (TX7 21).1 (TX7 21).2.1 (TX7 21).2.2.1).before args s = true := hts (.fieldLink RX7 114 "ClapOathsModel" "acts" "I") (by decide +kernel)
  unfold f_X7_again at hf
  refine lv_iload_n hx hb dX7_again_0 rfl (lv_at hl 1 rfl) ?_
  refine lv_i2l (v := (Int32.toInt64 v1)) hx hb dX7_again_1 rfl ?_
  refine lv_lconst (v := 0) hx hb dX7_again_2 (by decide) ?_
  refine lv_lconst (v := 1) hx hb dX7_again_3 (by decide) ?_
  obtain ⟨r_1, hr_1, hf⟩ := bnd hf
  refine q_callSZ hB hW (As := [.long (Int32.toInt64 v1), .long (0 : Int64), .long (1 : Int64)]) (rest := []) (ws' := [(a_p0, .inr (7, [.int p0_persons, .int p0_skies, .int p0_oaths, .ref a_p0_kind, .ref a_p0_skyAt, .ref a_p0_skyLoud, .ref a_p0_one, .ref a_p0_other, .ref a_p0_worth, .ref a_p0_hangs, .ref a_p0_now, .ref a_p0_readPerson, .ref a_p0_readSky, .ref a_p0_readOath, .int p0_readPersons, .int p0_readSkies, .int p0_readOaths, .ref a_p0_text, .int p0_length, .int p0_at, .int p0_faultAt, .int p0_acts, .int p0_next, .ref a_p0_row, .int p0_told, .ref a_p0_toldAt, .ref a_p0_toldWool, .ref a_p0_toldHeard, .long p0_seed, .ref a_p0_isKept, .ref a_p0_kept])), (a_p0_now, .inl (cI, 18, .inl p0_now)), (a_p0_isKept, .inl (cZ, 2, .inl p0_isKept)), (a_p0_kept, .inl (cI, 18, .inl p0_kept))]) (c_X7_in l D cI cZ (Int32.toInt64 v1) (0 : Int64) (1 : Int64) r_1 hr_1) (va_cwS 3 hts gX7_again_X7_in rfl rfl rfl (by decide +kernel) ⟨Nat.le_of_ble_eq_true rfl, Nat.le_of_ble_eq_true rfl⟩) [] rfl rfl rfl rfl rfl hl.1 rfl (Nat.le_of_ble_eq_true rfl) ⟨Nat.le_of_ble_eq_true rfl, Nat.le_of_ble_eq_true rfl⟩ dX7_again_4 (fun hzr_1 H locs hW => ?_)
  refine lv_if_ne (tgt := 12) hx hb dX7_again_7 (by decide) (fun c_2 => ?_) (fun c_2 => ?_)
  · have hf := it_f c_2 hf
    refine lv_aload_n hx hb dX7_again_12 rfl (lv_at hl 0 rfl) ?_
    refine q_get hB hW 7 in_X7 0 rfl rfl 29 (by decide) fl_58 (v := .ref a_p0_isKept) rfl dX7_again_13 ?_
    refine lv_iload_n hx hb dX7_again_16 rfl (lv_at hl 1 rfl) ?_
    obtain ⟨r_3, hr_3, hf⟩ := bnd hf
    refine q_zald hB hW 2 rfl hr_3 dX7_again_17 ?_
    refine lv_if_ne (tgt := 24) hx hb dX7_again_18 (by decide) (fun c_4 => ?_) (fun c_4 => ?_)
    · have hf := it_f c_4 hf
      refine lv_iconst (v := 0) hx hb dX7_again_24 (by decide) ?_
      refine lv_istore_n (lv' := [(2, .int (0 : Int32)), (0, .ref a_p0), (1, .int v1)]) hx hb dX7_again_25 rfl hl (by decide) rfl (fun ls hl => ?_)
      obtain ⟨e_26, hl_26, hk_26⟩ := bnd hf
      have K_26 : ∀ x_26 : Nat → Int32, x_26 = e_26 → ∀ (H : Heap) (locs : List Loc) (ls : Array Slot), Wl D A s.heap [(a_p0, .inr (7, [.int p0_persons, .int p0_skies, .int p0_oaths, .ref a_p0_kind, .ref a_p0_skyAt, .ref a_p0_skyLoud, .ref a_p0_one, .ref a_p0_other, .ref a_p0_worth, .ref a_p0_hangs, .ref a_p0_now, .ref a_p0_readPerson, .ref a_p0_readSky, .ref a_p0_readOath, .int p0_readPersons, .int p0_readSkies, .int p0_readOaths, .ref a_p0_text, .int p0_length, .int p0_at, .int p0_faultAt, .int p0_acts, .int p0_next, .ref a_p0_row, .int p0_told, .ref a_p0_toldAt, .ref a_p0_toldWool, .ref a_p0_toldHeard, .long p0_seed, .ref a_p0_isKept, .ref a_p0_kept])), (a_p0_now, .inl (cI, 18, .inl x_26)), (a_p0_isKept, .inl (cZ, 2, .inl p0_isKept)), (a_p0_kept, .inl (cI, 18, .inl p0_kept))] H locs → lv_has ls 3 [(0, .ref a_p0)] → W p l e (Rm 1 25) s m args below meth c H locs 0 0 Q (F0 m 55 ls []) := by
        intro x_26 hx_26 H locs ls hW hl
        have hf := hk_26
        rw [← hx_26] at hf
        refine lv_aload_n hx hb dX7_again_55 rfl (lv_at hl 0 rfl) ?_
        refine lv_iconst (v := 0) hx hb dX7_again_56 (by decide) ?_
        refine q_put hB hW 7 in_X7 tyX7 tyX7_ok nmX7 0 rfl rfl 21 (by decide) fl_114 rfl (by first | rfl | decide) (by first | rfl | decide) (Nat.le_of_ble_eq_true rfl) (ws' := [(a_p0, .inr (7, [.int p0_persons, .int p0_skies, .int p0_oaths, .ref a_p0_kind, .ref a_p0_skyAt, .ref a_p0_skyLoud, .ref a_p0_one, .ref a_p0_other, .ref a_p0_worth, .ref a_p0_hangs, .ref a_p0_now, .ref a_p0_readPerson, .ref a_p0_readSky, .ref a_p0_readOath, .int p0_readPersons, .int p0_readSkies, .int p0_readOaths, .ref a_p0_text, .int p0_length, .int p0_at, .int p0_faultAt, .int (0 : Int32), .int p0_next, .ref a_p0_row, .int p0_told, .ref a_p0_toldAt, .ref a_p0_toldWool, .ref a_p0_toldHeard, .long p0_seed, .ref a_p0_isKept, .ref a_p0_kept])), (a_p0_now, .inl (cI, 18, .inl x_26)), (a_p0_isKept, .inl (cZ, 2, .inl p0_isKept)), (a_p0_kept, .inl (cI, 18, .inl p0_kept))]) rfl dX7_again_57 (fun H locs hW => ?_)
        refine lv_aload_n hx hb dX7_again_60 rfl (lv_at hl 0 rfl) ?_
        refine q_get hB hW 7 in_X7 0 rfl rfl 10 (by decide) fl_31 (v := .ref a_p0_now) rfl dX7_again_61 ?_
        refine lv_bipush (v := 8) hx hb dX7_again_64 (by decide) ?_
        obtain ⟨r_5, hr_5, hf⟩ := bnd hf
        refine q_iald hB hW 1 rfl hr_5 dX7_again_66 ?_
        exact hE _ _ _ _ _ (r_5, (0 : Int32), x_26) (sm hf) hW rfl dX7_again_67
      have L_26 : ∀ (n : Nat) (y26_2 : Int32) (y26_p0_now : Nat → Int32) (H : Heap) (locs : List Loc) (ls : Array Slot), itr (fun s => b_X7_again_26 v1 p0_kept s.1 s.2) n (y26_2, y26_p0_now) = some e_26 → Wl D A s.heap [(a_p0, .inr (7, [.int p0_persons, .int p0_skies, .int p0_oaths, .ref a_p0_kind, .ref a_p0_skyAt, .ref a_p0_skyLoud, .ref a_p0_one, .ref a_p0_other, .ref a_p0_worth, .ref a_p0_hangs, .ref a_p0_now, .ref a_p0_readPerson, .ref a_p0_readSky, .ref a_p0_readOath, .int p0_readPersons, .int p0_readSkies, .int p0_readOaths, .ref a_p0_text, .int p0_length, .int p0_at, .int p0_faultAt, .int p0_acts, .int p0_next, .ref a_p0_row, .int p0_told, .ref a_p0_toldAt, .ref a_p0_toldWool, .ref a_p0_toldHeard, .long p0_seed, .ref a_p0_isKept, .ref a_p0_kept])), (a_p0_now, .inl (cI, 18, .inl y26_p0_now)), (a_p0_isKept, .inl (cZ, 2, .inl p0_isKept)), (a_p0_kept, .inl (cI, 18, .inl p0_kept))] H locs → lv_has ls 3 [(0, .ref a_p0), (1, .int v1), (2, .int y26_2)] → W p l e (Rm 1 25) s m args below meth c H locs 0 0 Q (F0 m 26 ls []) := by
        intro n
        induction n with
        | zero => intro y26_2 y26_p0_now H locs ls h9; exact itr_0 h9
        | succ n ih =>
          intro y26_2 y26_p0_now H locs ls hf hW hl
          obtain ⟨o_26, hf, ho_26⟩ := itr_inv hf
          have hf : b_X7_again_26 v1 p0_kept y26_2 y26_p0_now = some o_26 := hf
          unfold b_X7_again_26 at hf
          refine lv_iload_n hx hb dX7_again_26 rfl (lv_at hl 2 rfl) ?_
          refine lv_bipush (v := 9) hx hb dX7_again_27 (by decide) ?_
          refine lv_icmp_ge (tgt := 55) hx hb dX7_again_29 (by decide) (fun c_6 => ?_) (fun c_6 => ?_)
          · have hf := it_t c_6 hf
            have h9 := o_inr hf ho_26
            exact K_26 y26_p0_now h9 _ _ _ hW (lv_sub hl [0] rfl)
          · have hf := it_f c_6 hf
            refine lv_aload_n hx hb dX7_again_32 rfl (lv_at hl 0 rfl) ?_
            refine q_get hB hW 7 in_X7 0 rfl rfl 10 (by decide) fl_31 (v := .ref a_p0_now) rfl dX7_again_33 ?_
            refine lv_iload_n hx hb dX7_again_36 rfl (lv_at hl 2 rfl) ?_
            refine lv_aload_n hx hb dX7_again_37 rfl (lv_at hl 0 rfl) ?_
            refine q_get hB hW 7 in_X7 0 rfl rfl 30 (by decide) fl_62 (v := .ref a_p0_kept) rfl dX7_again_38 ?_
            refine lv_bipush (v := 9) hx hb dX7_again_41 (by decide) ?_
            refine lv_iload_n hx hb dX7_again_43 rfl (lv_at hl 1 rfl) ?_
            refine lv_imul hx hb dX7_again_44 ?_
            refine lv_iload_n hx hb dX7_again_45 rfl (lv_at hl 2 rfl) ?_
            refine lv_iadd hx hb dX7_again_46 ?_
            obtain ⟨r_7, hr_7, hf⟩ := bnd hf
            refine q_iald hB hW 3 rfl hr_7 dX7_again_47 ?_
            obtain ⟨r_8, hr_8, hf⟩ := bnd hf
            refine q_iast hB hW 1 rfl hr_8 (ws' := [(a_p0, .inr (7, [.int p0_persons, .int p0_skies, .int p0_oaths, .ref a_p0_kind, .ref a_p0_skyAt, .ref a_p0_skyLoud, .ref a_p0_one, .ref a_p0_other, .ref a_p0_worth, .ref a_p0_hangs, .ref a_p0_now, .ref a_p0_readPerson, .ref a_p0_readSky, .ref a_p0_readOath, .int p0_readPersons, .int p0_readSkies, .int p0_readOaths, .ref a_p0_text, .int p0_length, .int p0_at, .int p0_faultAt, .int p0_acts, .int p0_next, .ref a_p0_row, .int p0_told, .ref a_p0_toldAt, .ref a_p0_toldWool, .ref a_p0_toldHeard, .long p0_seed, .ref a_p0_isKept, .ref a_p0_kept])), (a_p0_now, .inl (cI, 18, .inl r_8)), (a_p0_isKept, .inl (cZ, 2, .inl p0_isKept)), (a_p0_kept, .inl (cI, 18, .inl p0_kept))]) rfl dX7_again_48 (fun H locs hW => ?_)
            refine lv_iinc (v := (y26_2 + (1 : Int32))) (lv' := [(2, .int (y26_2 + (1 : Int32))), (0, .ref a_p0), (1, .int v1)]) hx hb dX7_again_49 hl (k := 2) rfl rfl (by decide) rfl (fun ls hl => ?_)
            refine lv_goto (tgt := 26) hx hb dX7_again_52 (by decide) ?_
            have h9 := o_inl hf ho_26
            exact ih (y26_2 + (1 : Int32)) r_8 _ _ _ h9 hW (lv_sub hl [1, 2, 0] rfl)
      exact L_26 FU (0 : Int32) p0_now _ _ _ hl_26 hW (lv_sub hl [1, 2, 0] rfl)
    · have hf := it_t c_4 hf
      refine lv_bipush (v := -3) hx hb dX7_again_21 (by decide) ?_
      exact hE _ _ _ _ _ ((-3 : Int32), p0_acts, p0_now) (sm hf) hW rfl dX7_again_23
  · have hf := it_t c_2 hf
    refine lv_iconst (v := -1) hx hb dX7_again_10 (by decide) ?_
    exact hE _ _ _ _ _ ((-1 : Int32), p0_acts, p0_now) (sm hf) hW rfl dX7_again_11
def f_X7_count (v1 : Int32) (p0_persons : Int32) (p0_skies : Int32) (p0_oaths : Int32) (p0_length : Int32) (p0_acts : Int32) (p0_told : Int32) (p0_kind : Nat → Int32) (p0_skyAt : Nat → Int32) (p0_skyLoud : Nat → Int32) (p0_now : Nat → Int32) : Option (Int32) := if v1 = (0 : Int32) then some p0_length else if v1 = (1 : Int32) then some p0_persons else if v1 = (2 : Int32) then some p0_skies else if v1 = (3 : Int32) then some p0_oaths else if v1 = (4 : Int32) then (ald p0_now 18 (8 : Int32)).bind fun r_6 => some r_6 else if v1 = (5 : Int32) then (ald p0_now 18 (6 : Int32)).bind fun r_8 => some r_8 else if v1 = (6 : Int32) then (ald p0_now 18 (7 : Int32)).bind fun r_10 => some r_10 else if v1 = (7 : Int32) then (ald p0_now 18 (5 : Int32)).bind fun r_12 => some r_12 else if v1 = (8 : Int32) then (f_X7_hearNow p0_persons p0_skies p0_kind p0_skyAt p0_skyLoud p0_now).bind fun r_14 => some r_14 else if v1 = (9 : Int32) then some p0_acts else if v1 = (10 : Int32) then some p0_told else some (-2 : Int32)
set_option maxHeartbeats 4000000 in
set_option maxRecDepth 100000 in
theorem c_X7_count (l : Launch) (D : va_G) (cI cZ : ClassId) (a_p0 a_p0_kind a_p0_skyAt a_p0_skyLoud a_p0_one a_p0_other a_p0_worth a_p0_hangs a_p0_now a_p0_readPerson a_p0_readSky a_p0_readOath a_p0_text a_p0_row a_p0_toldAt a_p0_toldWool a_p0_toldHeard a_p0_isKept a_p0_kept : Nat) (p0_persons : Int32) (p0_skies : Int32) (p0_oaths : Int32) (p0_readPersons : Int32) (p0_readSkies : Int32) (p0_readOaths : Int32) (p0_length : Int32) (p0_at : Int32) (p0_faultAt : Int32) (p0_acts : Int32) (p0_next : Int32) (p0_told : Int32) (p0_seed : Int64) (p0_kind : Nat → Int32) (p0_skyAt : Nat → Int32) (p0_skyLoud : Nat → Int32) (p0_now : Nat → Int32) (v1 : Int32) (q : Int32) (hf : f_X7_count v1 p0_persons p0_skies p0_oaths p0_length p0_acts p0_told p0_kind p0_skyAt p0_skyLoud p0_now = some q) : CtI l D cI cZ yX7_count wsX7_count 4 91 [.ref a_p0, .int v1] [(a_p0, .inr (7, [.int p0_persons, .int p0_skies, .int p0_oaths, .ref a_p0_kind, .ref a_p0_skyAt, .ref a_p0_skyLoud, .ref a_p0_one, .ref a_p0_other, .ref a_p0_worth, .ref a_p0_hangs, .ref a_p0_now, .ref a_p0_readPerson, .ref a_p0_readSky, .ref a_p0_readOath, .int p0_readPersons, .int p0_readSkies, .int p0_readOaths, .ref a_p0_text, .int p0_length, .int p0_at, .int p0_faultAt, .int p0_acts, .int p0_next, .ref a_p0_row, .int p0_told, .ref a_p0_toldAt, .ref a_p0_toldWool, .ref a_p0_toldHeard, .long p0_seed, .ref a_p0_isKept, .ref a_p0_kept])), (a_p0_kind, .inl (cI, 5, .inl p0_kind)), (a_p0_skyAt, .inl (cI, 5, .inl p0_skyAt)), (a_p0_skyLoud, .inl (cI, 5, .inl p0_skyLoud)), (a_p0_now, .inl (cI, 18, .inl p0_now))] (fun q => [(a_p0, .inr (7, [.int p0_persons, .int p0_skies, .int p0_oaths, .ref a_p0_kind, .ref a_p0_skyAt, .ref a_p0_skyLoud, .ref a_p0_one, .ref a_p0_other, .ref a_p0_worth, .ref a_p0_hangs, .ref a_p0_now, .ref a_p0_readPerson, .ref a_p0_readSky, .ref a_p0_readOath, .int p0_readPersons, .int p0_readSkies, .int p0_readOaths, .ref a_p0_text, .int p0_length, .int p0_at, .int p0_faultAt, .int p0_acts, .int p0_next, .ref a_p0_row, .int p0_told, .ref a_p0_toldAt, .ref a_p0_toldWool, .ref a_p0_toldHeard, .long p0_seed, .ref a_p0_isKept, .ref a_p0_kept])), (a_p0_kind, .inl (cI, 5, .inl p0_kind)), (a_p0_skyAt, .inl (cI, 5, .inl p0_skyAt)), (a_p0_skyLoud, .inl (cI, 5, .inl p0_skyLoud)), (a_p0_now, .inl (cI, 18, .inl p0_now))]) (fun q => q) q := by
  refine CtI.of (cc := cX7_count) (maxL := 2) (plainFor_of_name (by decide)) rfl (Nat.le_of_ble_eq_true rfl) ?_
  intro p e s m args below meth c A Q H ls hB hE hW hl
  have hx := hB.1
  have hb := hB.2.1
  have hml := hB.2.2.2.1
  have hown : s.vm.findClass RX7 = some m.cls := hB.2.2.2.2.1
  have hts := hB.2.2.2.2.2.1
  have hK := hB.2.2.2.2.2.2.2.1.1
  have hl : lv_has ls 2 [(0, .ref a_p0), (1, .int v1)] := hl
  have in_X7 : ∀ w ∈ wsX70, w ∈ wsX7_count := fun w h => List.mem_cons_of_mem _ (List.mem_append_right _ h)
  have fl_31 : (Cond.fieldLink RX7 31 (TX7 10).1 (TX7 10).2.1 (TX7 10).2.2.1).before args s = true := hts (.fieldLink RX7 31 "ClapOathsModel" "now" "[I") (by decide +kernel)
  have fl_71 : (Cond.fieldLink RX7 71 (TX7 18).1 (TX7 18).2.1 (TX7 18).2.2.1).before args s = true := hts (.fieldLink RX7 71 "ClapOathsModel" "length" "I") (by decide +kernel)
  have fl_105 : (Cond.fieldLink RX7 105 (TX7 0).1 (TX7 0).2.1 (TX7 0).2.2.1).before args s = true := hts (.fieldLink RX7 105 "ClapOathsModel" "persons" "I") (by decide +kernel)
  have fl_108 : (Cond.fieldLink RX7 108 (TX7 1).1 (TX7 1).2.1 (TX7 1).2.2.1).before args s = true := hts (.fieldLink RX7 108 "ClapOathsModel" "skies" "I") (by decide +kernel)
  have fl_111 : (Cond.fieldLink RX7 111 (TX7 2).1 (TX7 2).2.1 (TX7 2).2.2.1).before args s = true := hts (.fieldLink RX7 111 "ClapOathsModel" "oaths" "I") (by decide +kernel)
  have fl_114 : (Cond.fieldLink RX7 114 (TX7 21).1 (TX7 21).2.1 (TX7 21).2.2.1).before args s = true := hts (.fieldLink RX7 114 "ClapOathsModel" "acts" "I") (by decide +kernel)
  have fl_208 : (Cond.fieldLink RX7 208 (TX7 24).1 (TX7 24).2.1 (TX7 24).2.2.1).before args s = true := hts (.fieldLink RX7 208 "ClapOathsModel" "told" "I") (by decide +kernel)
  unfold f_X7_count at hf
  refine lv_iload_n hx hb dX7_count_0 rfl (lv_at hl 1 rfl) ?_
  by_cases c_1 : v1 = (0 : Int32)
  · have hf := it_t c_1 hf
    refine lv_tableIn (tgt := 60) (off := 59) hx hb dX7_count_1 (by rw [c_1]; decide) (by rw [c_1]; decide) (by rw [c_1]; rfl) (by decide) ?_
    refine lv_aload_n hx hb dX7_count_60 rfl (lv_at hl 0 rfl) ?_
    refine q_get hB hW 7 in_X7 0 rfl rfl 18 (by decide) fl_71 (v := .int p0_length) rfl dX7_count_61 ?_
    exact hE _ _ _ _ _ p0_length (sm hf) hW rfl dX7_count_64
  have hf := it_f c_1 hf
  by_cases c_2 : v1 = (1 : Int32)
  · have hf := it_t c_2 hf
    refine lv_tableIn (tgt := 65) (off := 64) hx hb dX7_count_1 (by rw [c_2]; decide) (by rw [c_2]; decide) (by rw [c_2]; rfl) (by decide) ?_
    refine lv_aload_n hx hb dX7_count_65 rfl (lv_at hl 0 rfl) ?_
    refine q_get hB hW 7 in_X7 0 rfl rfl 0 (by decide) fl_105 (v := .int p0_persons) rfl dX7_count_66 ?_
    exact hE _ _ _ _ _ p0_persons (sm hf) hW rfl dX7_count_69
  have hf := it_f c_2 hf
  by_cases c_3 : v1 = (2 : Int32)
  · have hf := it_t c_3 hf
    refine lv_tableIn (tgt := 70) (off := 69) hx hb dX7_count_1 (by rw [c_3]; decide) (by rw [c_3]; decide) (by rw [c_3]; rfl) (by decide) ?_
    refine lv_aload_n hx hb dX7_count_70 rfl (lv_at hl 0 rfl) ?_
    refine q_get hB hW 7 in_X7 0 rfl rfl 1 (by decide) fl_108 (v := .int p0_skies) rfl dX7_count_71 ?_
    exact hE _ _ _ _ _ p0_skies (sm hf) hW rfl dX7_count_74
  have hf := it_f c_3 hf
  by_cases c_4 : v1 = (3 : Int32)
  · have hf := it_t c_4 hf
    refine lv_tableIn (tgt := 75) (off := 74) hx hb dX7_count_1 (by rw [c_4]; decide) (by rw [c_4]; decide) (by rw [c_4]; rfl) (by decide) ?_
    refine lv_aload_n hx hb dX7_count_75 rfl (lv_at hl 0 rfl) ?_
    refine q_get hB hW 7 in_X7 0 rfl rfl 2 (by decide) fl_111 (v := .int p0_oaths) rfl dX7_count_76 ?_
    exact hE _ _ _ _ _ p0_oaths (sm hf) hW rfl dX7_count_79
  have hf := it_f c_4 hf
  by_cases c_5 : v1 = (4 : Int32)
  · have hf := it_t c_5 hf
    refine lv_tableIn (tgt := 80) (off := 79) hx hb dX7_count_1 (by rw [c_5]; decide) (by rw [c_5]; decide) (by rw [c_5]; rfl) (by decide) ?_
    refine lv_aload_n hx hb dX7_count_80 rfl (lv_at hl 0 rfl) ?_
    refine q_get hB hW 7 in_X7 0 rfl rfl 10 (by decide) fl_31 (v := .ref a_p0_now) rfl dX7_count_81 ?_
    refine lv_bipush (v := 8) hx hb dX7_count_84 (by decide) ?_
    obtain ⟨r_6, hr_6, hf⟩ := bnd hf
    refine q_iald hB hW 4 rfl hr_6 dX7_count_86 ?_
    exact hE _ _ _ _ _ r_6 (sm hf) hW rfl dX7_count_87
  have hf := it_f c_5 hf
  by_cases c_7 : v1 = (5 : Int32)
  · have hf := it_t c_7 hf
    refine lv_tableIn (tgt := 88) (off := 87) hx hb dX7_count_1 (by rw [c_7]; decide) (by rw [c_7]; decide) (by rw [c_7]; rfl) (by decide) ?_
    refine lv_aload_n hx hb dX7_count_88 rfl (lv_at hl 0 rfl) ?_
    refine q_get hB hW 7 in_X7 0 rfl rfl 10 (by decide) fl_31 (v := .ref a_p0_now) rfl dX7_count_89 ?_
    refine lv_bipush (v := 6) hx hb dX7_count_92 (by decide) ?_
    obtain ⟨r_8, hr_8, hf⟩ := bnd hf
    refine q_iald hB hW 4 rfl hr_8 dX7_count_94 ?_
    exact hE _ _ _ _ _ r_8 (sm hf) hW rfl dX7_count_95
  have hf := it_f c_7 hf
  by_cases c_9 : v1 = (6 : Int32)
  · have hf := it_t c_9 hf
    refine lv_tableIn (tgt := 96) (off := 95) hx hb dX7_count_1 (by rw [c_9]; decide) (by rw [c_9]; decide) (by rw [c_9]; rfl) (by decide) ?_
    refine lv_aload_n hx hb dX7_count_96 rfl (lv_at hl 0 rfl) ?_
    refine q_get hB hW 7 in_X7 0 rfl rfl 10 (by decide) fl_31 (v := .ref a_p0_now) rfl dX7_count_97 ?_
    refine lv_bipush (v := 7) hx hb dX7_count_100 (by decide) ?_
    obtain ⟨r_10, hr_10, hf⟩ := bnd hf
    refine q_iald hB hW 4 rfl hr_10 dX7_count_102 ?_
    exact hE _ _ _ _ _ r_10 (sm hf) hW rfl dX7_count_103
  have hf := it_f c_9 hf
  by_cases c_11 : v1 = (7 : Int32)
  · have hf := it_t c_11 hf
    refine lv_tableIn (tgt := 104) (off := 103) hx hb dX7_count_1 (by rw [c_11]; decide) (by rw [c_11]; decide) (by rw [c_11]; rfl) (by decide) ?_
    refine lv_aload_n hx hb dX7_count_104 rfl (lv_at hl 0 rfl) ?_
    refine q_get hB hW 7 in_X7 0 rfl rfl 10 (by decide) fl_31 (v := .ref a_p0_now) rfl dX7_count_105 ?_
    refine lv_iconst (v := 5) hx hb dX7_count_108 (by decide) ?_
    obtain ⟨r_12, hr_12, hf⟩ := bnd hf
    refine q_iald hB hW 4 rfl hr_12 dX7_count_109 ?_
    exact hE _ _ _ _ _ r_12 (sm hf) hW rfl dX7_count_110
  have hf := it_f c_11 hf
  by_cases c_13 : v1 = (8 : Int32)
  · have hf := it_t c_13 hf
    refine lv_tableIn (tgt := 111) (off := 110) hx hb dX7_count_1 (by rw [c_13]; decide) (by rw [c_13]; decide) (by rw [c_13]; rfl) (by decide) ?_
    refine lv_aload_n hx hb dX7_count_111 rfl (lv_at hl 0 rfl) ?_
    obtain ⟨r_14, hr_14, hf⟩ := bnd hf
    refine q_callVI hB hW (ci := 7) (q0 := 0) rfl rfl rfl (As := []) (rest := []) (ws' := [(a_p0, .inr (7, [.int p0_persons, .int p0_skies, .int p0_oaths, .ref a_p0_kind, .ref a_p0_skyAt, .ref a_p0_skyLoud, .ref a_p0_one, .ref a_p0_other, .ref a_p0_worth, .ref a_p0_hangs, .ref a_p0_now, .ref a_p0_readPerson, .ref a_p0_readSky, .ref a_p0_readOath, .int p0_readPersons, .int p0_readSkies, .int p0_readOaths, .ref a_p0_text, .int p0_length, .int p0_at, .int p0_faultAt, .int p0_acts, .int p0_next, .ref a_p0_row, .int p0_told, .ref a_p0_toldAt, .ref a_p0_toldWool, .ref a_p0_toldHeard, .long p0_seed, .ref a_p0_isKept, .ref a_p0_kept])), (a_p0_kind, .inl (cI, 5, .inl p0_kind)), (a_p0_skyAt, .inl (cI, 5, .inl p0_skyAt)), (a_p0_skyLoud, .inl (cI, 5, .inl p0_skyLoud)), (a_p0_now, .inl (cI, 18, .inl p0_now))]) (c_X7_hearNow l D cI cZ a_p0 a_p0_kind a_p0_skyAt a_p0_skyLoud a_p0_one a_p0_other a_p0_worth a_p0_hangs a_p0_now a_p0_readPerson a_p0_readSky a_p0_readOath a_p0_text a_p0_row a_p0_toldAt a_p0_toldWool a_p0_toldHeard a_p0_isKept a_p0_kept p0_persons p0_skies p0_oaths p0_readPersons p0_readSkies p0_readOaths p0_length p0_at p0_faultAt p0_acts p0_next p0_told p0_seed p0_kind p0_skyAt p0_skyLoud p0_now r_14 hr_14) (cwV 0 hts gX7_count_X7_hearNow rfl rfl rfl (by decide +kernel) ⟨Nat.le_of_ble_eq_true rfl, Nat.le_of_ble_eq_true rfl⟩) [0, 1, 2, 3, 4] rfl rfl rfl rfl rfl hl.1 rfl (Nat.le_of_ble_eq_true rfl) ⟨Nat.le_of_ble_eq_true rfl, Nat.le_of_ble_eq_true rfl⟩ dX7_count_112 (fun H locs hW => ?_)
    exact hE _ _ _ _ _ r_14 (sm hf) hW rfl dX7_count_115
  have hf := it_f c_13 hf
  by_cases c_15 : v1 = (9 : Int32)
  · have hf := it_t c_15 hf
    refine lv_tableIn (tgt := 116) (off := 115) hx hb dX7_count_1 (by rw [c_15]; decide) (by rw [c_15]; decide) (by rw [c_15]; rfl) (by decide) ?_
    refine lv_aload_n hx hb dX7_count_116 rfl (lv_at hl 0 rfl) ?_
    refine q_get hB hW 7 in_X7 0 rfl rfl 21 (by decide) fl_114 (v := .int p0_acts) rfl dX7_count_117 ?_
    exact hE _ _ _ _ _ p0_acts (sm hf) hW rfl dX7_count_120
  have hf := it_f c_15 hf
  by_cases c_16 : v1 = (10 : Int32)
  · have hf := it_t c_16 hf
    refine lv_tableIn (tgt := 121) (off := 120) hx hb dX7_count_1 (by rw [c_16]; decide) (by rw [c_16]; decide) (by rw [c_16]; rfl) (by decide) ?_
    refine lv_aload_n hx hb dX7_count_121 rfl (lv_at hl 0 rfl) ?_
    refine q_get hB hW 7 in_X7 0 rfl rfl 24 (by decide) fl_208 (v := .int p0_told) rfl dX7_count_122 ?_
    exact hE _ _ _ _ _ p0_told (sm hf) hW rfl dX7_count_125
  have hf := it_f c_16 hf
  refine lv_tableOut (tgt := 126) hx hb dX7_count_1 (sw_out 10 (by decide) (fun j hj => match j, hj with | 0, _ => c_1 | 1, _ => c_2 | 2, _ => c_3 | 3, _ => c_4 | 4, _ => c_5 | 5, _ => c_7 | 6, _ => c_9 | 7, _ => c_11 | 8, _ => c_13 | 9, _ => c_15 | 10, _ => c_16 | _ + 11, hj => absurd hj (by omega))) (by decide) ?_
  refine lv_bipush (v := -2) hx hb dX7_count_126 (by decide) ?_
  exact hE _ _ _ _ _ (-2 : Int32) (sm hf) hW rfl dX7_count_128
