def b_X7_share_15 (v1 : Int32) (v2 : Int32) (p0_persons : Int32) (p0_oaths : Int32) (p0_one : Nat → Int32) (p0_other : Nat → Int32) (p0_worth : Nat → Int32) (p0_now : Nat → Int32) (v3 : Int32) (v4 : Int32) : Option ((Int32 × Int32) ⊕ (Int32)) := if ((1 : Int32) <<< (p0_persons &&& 31)) ≤ v4 then some (.inr v3) else (f_X7_has v4 v1).bind fun r_517 => if r_517 = (0 : Int32) then (f_X7_ones v4).bind fun r_519 => (f_X7_factorial r_519).bind fun r_520 => (f_X7_ones v4).bind fun r_521 => (f_X7_factorial ((p0_persons - (1 : Int32)) - r_521)).bind fun r_522 => (some (r_520 * r_522)).bind fun w_523 => (f_X7_swornBy (v4 ||| ((1 : Int32) <<< (v1 &&& 31))) p0_oaths p0_one p0_other p0_worth p0_now).bind fun r_524 => (f_X7_swornBy v4 p0_oaths p0_one p0_other p0_worth p0_now).bind fun r_525 => (some (v3 + (w_523 * (r_524 - r_525)))).bind fun w_526 => some (.inl (w_526, (v4 + (1 : Int32)))) else some (.inl (v3, (v4 + (1 : Int32))))
def f_X7_share (v1 : Int32) (v2 : Int32) (p0_persons : Int32) (p0_oaths : Int32) (p0_one : Nat → Int32) (p0_other : Nat → Int32) (p0_worth : Nat → Int32) (p0_now : Nat → Int32) : Option (Int32) := (f_X7_isPerson v1 p0_persons).bind fun r_1 => if r_1 = (0 : Int32) then some (-1 : Int32) else (itr (fun s => b_X7_share_15 v1 v2 p0_persons p0_oaths p0_one p0_other p0_worth p0_now s.1 s.2) FU ((0 : Int32), (0 : Int32))).bind fun x_15 => (f_X7_factorial p0_persons).bind fun r_3 => (f_X7_common x_15 r_3).bind fun r_4 => if v2 = (0 : Int32) then (f_X7_factorial p0_persons).bind fun r_6 => (dvI r_6 r_4).bind fun r_7 => some r_7 else (dvI x_15 r_4).bind fun r_8 => some r_8
set_option maxHeartbeats 4000000 in
set_option maxRecDepth 100000 in
theorem c_X7_share (l : Launch) (D : va_G) (cI cZ : ClassId) (a_p0 a_p0_kind a_p0_skyAt a_p0_skyLoud a_p0_one a_p0_other a_p0_worth a_p0_hangs a_p0_now a_p0_readPerson a_p0_readSky a_p0_readOath a_p0_text a_p0_row a_p0_toldAt a_p0_toldWool a_p0_toldHeard a_p0_isKept a_p0_kept : Nat) (p0_persons : Int32) (p0_skies : Int32) (p0_oaths : Int32) (p0_readPersons : Int32) (p0_readSkies : Int32) (p0_readOaths : Int32) (p0_length : Int32) (p0_at : Int32) (p0_faultAt : Int32) (p0_acts : Int32) (p0_next : Int32) (p0_told : Int32) (p0_seed : Int64) (p0_one : Nat → Int32) (p0_other : Nat → Int32) (p0_worth : Nat → Int32) (p0_now : Nat → Int32) (v1 : Int32) (v2 : Int32) (q : Int32) (hf : f_X7_share v1 v2 p0_persons p0_oaths p0_one p0_other p0_worth p0_now = some q) : CtI l D cI cZ yX7_share wsX7_share 3 67 [.ref a_p0, .int v1, .int v2] [(a_p0, .inr (7, [.int p0_persons, .int p0_skies, .int p0_oaths, .ref a_p0_kind, .ref a_p0_skyAt, .ref a_p0_skyLoud, .ref a_p0_one, .ref a_p0_other, .ref a_p0_worth, .ref a_p0_hangs, .ref a_p0_now, .ref a_p0_readPerson, .ref a_p0_readSky, .ref a_p0_readOath, .int p0_readPersons, .int p0_readSkies, .int p0_readOaths, .ref a_p0_text, .int p0_length, .int p0_at, .int p0_faultAt, .int p0_acts, .int p0_next, .ref a_p0_row, .int p0_told, .ref a_p0_toldAt, .ref a_p0_toldWool, .ref a_p0_toldHeard, .long p0_seed, .ref a_p0_isKept, .ref a_p0_kept])), (a_p0_one, .inl (cI, 5, .inl p0_one)), (a_p0_other, .inl (cI, 5, .inl p0_other)), (a_p0_worth, .inl (cI, 5, .inl p0_worth)), (a_p0_now, .inl (cI, 18, .inl p0_now))] (fun q => [(a_p0, .inr (7, [.int p0_persons, .int p0_skies, .int p0_oaths, .ref a_p0_kind, .ref a_p0_skyAt, .ref a_p0_skyLoud, .ref a_p0_one, .ref a_p0_other, .ref a_p0_worth, .ref a_p0_hangs, .ref a_p0_now, .ref a_p0_readPerson, .ref a_p0_readSky, .ref a_p0_readOath, .int p0_readPersons, .int p0_readSkies, .int p0_readOaths, .ref a_p0_text, .int p0_length, .int p0_at, .int p0_faultAt, .int p0_acts, .int p0_next, .ref a_p0_row, .int p0_told, .ref a_p0_toldAt, .ref a_p0_toldWool, .ref a_p0_toldHeard, .long p0_seed, .ref a_p0_isKept, .ref a_p0_kept])), (a_p0_one, .inl (cI, 5, .inl p0_one)), (a_p0_other, .inl (cI, 5, .inl p0_other)), (a_p0_worth, .inl (cI, 5, .inl p0_worth)), (a_p0_now, .inl (cI, 18, .inl p0_now))]) (fun q => q) q := by
  refine CtI.of (cc := cX7_share) (maxL := 6) (plainFor_of_name (by decide)) rfl (Nat.le_of_ble_eq_true rfl) ?_
  intro p e s m args below meth c A Q H ls hB hE hW hl
  have hx := hB.1
  have hb := hB.2.1
  have hml := hB.2.2.2.1
  have hown : s.vm.findClass RX7 = some m.cls := hB.2.2.2.2.1
  have hts := hB.2.2.2.2.2.1
  have hK := hB.2.2.2.2.2.2.2.1.1
  have hl : lv_has ls 6 [(0, .ref a_p0), (1, .int v1), (2, .int v2)] := hl
  have in_X7 : ∀ w ∈ wsX70, w ∈ wsX7_share := fun w h => List.mem_cons_of_mem _ (List.mem_append_right _ h)
  have fl_105 : (Cond.fieldLink RX7 105 (TX7 0).1 (TX7 0).2.1 (TX7 0).2.2.1).before args s = true := hts (.fieldLink RX7 105 "ClapOathsModel" "persons" "I") (by decide +kernel)
  unfold f_X7_share at hf
  refine lv_aload_n hx hb dX7_share_0 rfl (lv_at hl 0 rfl) ?_
  refine lv_iload_n hx hb dX7_share_1 rfl (lv_at hl 1 rfl) ?_
  obtain ⟨r_1, hr_1, hf⟩ := bnd hf
  refine q_callVZ hB hW (ci := 7) (q0 := 0) rfl rfl rfl (As := [.int v1]) (rest := []) (ws' := [(a_p0, .inr (7, [.int p0_persons, .int p0_skies, .int p0_oaths, .ref a_p0_kind, .ref a_p0_skyAt, .ref a_p0_skyLoud, .ref a_p0_one, .ref a_p0_other, .ref a_p0_worth, .ref a_p0_hangs, .ref a_p0_now, .ref a_p0_readPerson, .ref a_p0_readSky, .ref a_p0_readOath, .int p0_readPersons, .int p0_readSkies, .int p0_readOaths, .ref a_p0_text, .int p0_length, .int p0_at, .int p0_faultAt, .int p0_acts, .int p0_next, .ref a_p0_row, .int p0_told, .ref a_p0_toldAt, .ref a_p0_toldWool, .ref a_p0_toldHeard, .long p0_seed, .ref a_p0_isKept, .ref a_p0_kept])), (a_p0_one, .inl (cI, 5, .inl p0_one)), (a_p0_other, .inl (cI, 5, .inl p0_other)), (a_p0_worth, .inl (cI, 5, .inl p0_worth)), (a_p0_now, .inl (cI, 18, .inl p0_now))]) (c_X7_isPerson l D cI cZ a_p0 a_p0_kind a_p0_skyAt a_p0_skyLoud a_p0_one a_p0_other a_p0_worth a_p0_hangs a_p0_now a_p0_readPerson a_p0_readSky a_p0_readOath a_p0_text a_p0_row a_p0_toldAt a_p0_toldWool a_p0_toldHeard a_p0_isKept a_p0_kept p0_persons p0_skies p0_oaths p0_readPersons p0_readSkies p0_readOaths p0_length p0_at p0_faultAt p0_acts p0_next p0_told p0_seed v1 r_1 hr_1) (cwV 1 hts gX7_share_X7_isPerson rfl rfl rfl (by decide +kernel) ⟨Nat.le_of_ble_eq_true rfl, Nat.le_of_ble_eq_true rfl⟩) [0] rfl rfl rfl rfl rfl hl.1 rfl (Nat.le_of_ble_eq_true rfl) ⟨Nat.le_of_ble_eq_true rfl, Nat.le_of_ble_eq_true rfl⟩ dX7_share_2 (fun hzr_1 H locs hW => ?_)
  refine lv_if_ne (tgt := 10) hx hb dX7_share_5 (by decide) (fun c_2 => ?_) (fun c_2 => ?_)
  · have hf := it_f c_2 hf
    refine lv_iconst (v := 0) hx hb dX7_share_10 (by decide) ?_
    refine lv_istore_n (lv' := [(3, .int (0 : Int32)), (0, .ref a_p0), (1, .int v1), (2, .int v2)]) hx hb dX7_share_11 rfl hl (by decide) rfl (fun ls hl => ?_)
    refine lv_iconst (v := 0) hx hb dX7_share_12 (by decide) ?_
    refine lv_istore (lv' := [(4, .int (0 : Int32)), (3, .int (0 : Int32)), (0, .ref a_p0), (1, .int v1), (2, .int v2)]) hx hb dX7_share_13 hl (by decide) rfl (fun ls hl => ?_)
    obtain ⟨e_15, hl_15, hk_15⟩ := bnd hf
    have K_15 : ∀ x_15 : Int32, x_15 = e_15 → ∀ (H : Heap) (locs : List Loc) (ls : Array Slot), Wl D A s.heap [(a_p0, .inr (7, [.int p0_persons, .int p0_skies, .int p0_oaths, .ref a_p0_kind, .ref a_p0_skyAt, .ref a_p0_skyLoud, .ref a_p0_one, .ref a_p0_other, .ref a_p0_worth, .ref a_p0_hangs, .ref a_p0_now, .ref a_p0_readPerson, .ref a_p0_readSky, .ref a_p0_readOath, .int p0_readPersons, .int p0_readSkies, .int p0_readOaths, .ref a_p0_text, .int p0_length, .int p0_at, .int p0_faultAt, .int p0_acts, .int p0_next, .ref a_p0_row, .int p0_told, .ref a_p0_toldAt, .ref a_p0_toldWool, .ref a_p0_toldHeard, .long p0_seed, .ref a_p0_isKept, .ref a_p0_kept])), (a_p0_one, .inl (cI, 5, .inl p0_one)), (a_p0_other, .inl (cI, 5, .inl p0_other)), (a_p0_worth, .inl (cI, 5, .inl p0_worth)), (a_p0_now, .inl (cI, 18, .inl p0_now))] H locs → lv_has ls 6 [(0, .ref a_p0), (2, .int v2), (3, .int x_15)] → W p l e (Rm 3 67) s m args below meth c H locs 0 0 Q (F0 m 90 ls []) := by
      intro x_15 hx_15 H locs ls hW hl
      have hf := hk_15
      rw [← hx_15] at hf
      refine lv_iload_n hx hb dX7_share_90 rfl (lv_at hl 2 rfl) ?_
      refine lv_aload_n hx hb dX7_share_91 rfl (lv_at hl 0 rfl) ?_
      refine q_get hB hW 7 in_X7 0 rfl rfl 0 (by decide) fl_105 (v := .int p0_persons) rfl dX7_share_92 ?_
      obtain ⟨r_3, hr_3, hf⟩ := bnd hf
      refine q_callSI hB hW (As := [.int p0_persons]) (rest := [.int x_15]) (ws' := [(a_p0, .inr (7, [.int p0_persons, .int p0_skies, .int p0_oaths, .ref a_p0_kind, .ref a_p0_skyAt, .ref a_p0_skyLoud, .ref a_p0_one, .ref a_p0_other, .ref a_p0_worth, .ref a_p0_hangs, .ref a_p0_now, .ref a_p0_readPerson, .ref a_p0_readSky, .ref a_p0_readOath, .int p0_readPersons, .int p0_readSkies, .int p0_readOaths, .ref a_p0_text, .int p0_length, .int p0_at, .int p0_faultAt, .int p0_acts, .int p0_next, .ref a_p0_row, .int p0_told, .ref a_p0_toldAt, .ref a_p0_toldWool, .ref a_p0_toldHeard, .long p0_seed, .ref a_p0_isKept, .ref a_p0_kept])), (a_p0_one, .inl (cI, 5, .inl p0_one)), (a_p0_other, .inl (cI, 5, .inl p0_other)), (a_p0_worth, .inl (cI, 5, .inl p0_worth)), (a_p0_now, .inl (cI, 18, .inl p0_now))]) (c_X7_factorial l D cI cZ p0_persons r_3 hr_3) (va_cwS 1 hts gX7_share_X7_factorial rfl rfl rfl (by decide +kernel) ⟨Nat.le_of_ble_eq_true rfl, Nat.le_of_ble_eq_true rfl⟩) [] rfl rfl rfl rfl rfl hl.1 rfl (Nat.le_of_ble_eq_true rfl) ⟨Nat.le_of_ble_eq_true rfl, Nat.le_of_ble_eq_true rfl⟩ dX7_share_95 (fun H locs hW => ?_)
      obtain ⟨r_4, hr_4, hf⟩ := bnd hf
      refine q_callSI hB hW (As := [.int x_15, .int r_3]) (rest := []) (ws' := [(a_p0, .inr (7, [.int p0_persons, .int p0_skies, .int p0_oaths, .ref a_p0_kind, .ref a_p0_skyAt, .ref a_p0_skyLoud, .ref a_p0_one, .ref a_p0_other, .ref a_p0_worth, .ref a_p0_hangs, .ref a_p0_now, .ref a_p0_readPerson, .ref a_p0_readSky, .ref a_p0_readOath, .int p0_readPersons, .int p0_readSkies, .int p0_readOaths, .ref a_p0_text, .int p0_length, .int p0_at, .int p0_faultAt, .int p0_acts, .int p0_next, .ref a_p0_row, .int p0_told, .ref a_p0_toldAt, .ref a_p0_toldWool, .ref a_p0_toldHeard, .long p0_seed, .ref a_p0_isKept, .ref a_p0_kept])), (a_p0_one, .inl (cI, 5, .inl p0_one)), (a_p0_other, .inl (cI, 5, .inl p0_other)), (a_p0_worth, .inl (cI, 5, .inl p0_worth)), (a_p0_now, .inl (cI, 18, .inl p0_now))]) (c_X7_common l D cI cZ x_15 r_3 r_4 hr_4) (va_cwS 2 hts gX7_share_X7_common rfl rfl rfl (by decide +kernel) ⟨Nat.le_of_ble_eq_true rfl, Nat.le_of_ble_eq_true rfl⟩) [] rfl rfl rfl rfl rfl hl.1 rfl (Nat.le_of_ble_eq_true rfl) ⟨Nat.le_of_ble_eq_true rfl, Nat.le_of_ble_eq_true rfl⟩ dX7_share_98 (fun H locs hW => ?_)
      refine lv_istore (lv' := [(4, .int r_4), (0, .ref a_p0), (2, .int v2), (3, .int x_15)]) hx hb dX7_share_101 hl (by decide) rfl (fun ls hl => ?_)
      refine lv_iload_n hx hb dX7_share_103 rfl (lv_at hl 2 rfl) ?_
      refine lv_if_eq (tgt := 114) hx hb dX7_share_104 (by decide) (fun c_5 => ?_) (fun c_5 => ?_)
      · have hf := it_t c_5 hf
        refine lv_aload_n hx hb dX7_share_114 rfl (lv_at hl 1 rfl) ?_
        refine q_get hB hW 7 in_X7 0 rfl rfl 0 (by decide) fl_105 (v := .int p0_persons) rfl dX7_share_115 ?_
        obtain ⟨r_6, hr_6, hf⟩ := bnd hf
        refine q_callSI hB hW (As := [.int p0_persons]) (rest := []) (ws' := [(a_p0, .inr (7, [.int p0_persons, .int p0_skies, .int p0_oaths, .ref a_p0_kind, .ref a_p0_skyAt, .ref a_p0_skyLoud, .ref a_p0_one, .ref a_p0_other, .ref a_p0_worth, .ref a_p0_hangs, .ref a_p0_now, .ref a_p0_readPerson, .ref a_p0_readSky, .ref a_p0_readOath, .int p0_readPersons, .int p0_readSkies, .int p0_readOaths, .ref a_p0_text, .int p0_length, .int p0_at, .int p0_faultAt, .int p0_acts, .int p0_next, .ref a_p0_row, .int p0_told, .ref a_p0_toldAt, .ref a_p0_toldWool, .ref a_p0_toldHeard, .long p0_seed, .ref a_p0_isKept, .ref a_p0_kept])), (a_p0_one, .inl (cI, 5, .inl p0_one)), (a_p0_other, .inl (cI, 5, .inl p0_other)), (a_p0_worth, .inl (cI, 5, .inl p0_worth)), (a_p0_now, .inl (cI, 18, .inl p0_now))]) (c_X7_factorial l D cI cZ p0_persons r_6 hr_6) (va_cwS 1 hts gX7_share_X7_factorial rfl rfl rfl (by decide +kernel) ⟨Nat.le_of_ble_eq_true rfl, Nat.le_of_ble_eq_true rfl⟩) [] rfl rfl rfl rfl rfl hl.1 rfl (Nat.le_of_ble_eq_true rfl) ⟨Nat.le_of_ble_eq_true rfl, Nat.le_of_ble_eq_true rfl⟩ dX7_share_118 (fun H locs hW => ?_)
        refine lv_iload hx hb dX7_share_121 (lv_at hl 0 rfl) ?_
        obtain ⟨r_7, hr_7, hf⟩ := bnd hf
        refine q_idiv hB hr_7 dX7_share_123 ?_
        exact hE _ _ _ _ _ r_7 (sm hf) hW rfl dX7_share_124
      · have hf := it_f c_5 hf
        refine lv_iload_n hx hb dX7_share_107 rfl (lv_at hl 3 rfl) ?_
        refine lv_iload hx hb dX7_share_108 (lv_at hl 0 rfl) ?_
        obtain ⟨r_8, hr_8, hf⟩ := bnd hf
        refine q_idiv hB hr_8 dX7_share_110 ?_
        refine lv_goto (tgt := 124) hx hb dX7_share_111 (by decide) ?_
        exact hE _ _ _ _ _ r_8 (sm hf) hW rfl dX7_share_124
    have L_15 : ∀ (n : Nat) (y15_3 : Int32) (y15_4 : Int32) (H : Heap) (locs : List Loc) (ls : Array Slot), itr (fun s => b_X7_share_15 v1 v2 p0_persons p0_oaths p0_one p0_other p0_worth p0_now s.1 s.2) n (y15_3, y15_4) = some e_15 → Wl D A s.heap [(a_p0, .inr (7, [.int p0_persons, .int p0_skies, .int p0_oaths, .ref a_p0_kind, .ref a_p0_skyAt, .ref a_p0_skyLoud, .ref a_p0_one, .ref a_p0_other, .ref a_p0_worth, .ref a_p0_hangs, .ref a_p0_now, .ref a_p0_readPerson, .ref a_p0_readSky, .ref a_p0_readOath, .int p0_readPersons, .int p0_readSkies, .int p0_readOaths, .ref a_p0_text, .int p0_length, .int p0_at, .int p0_faultAt, .int p0_acts, .int p0_next, .ref a_p0_row, .int p0_told, .ref a_p0_toldAt, .ref a_p0_toldWool, .ref a_p0_toldHeard, .long p0_seed, .ref a_p0_isKept, .ref a_p0_kept])), (a_p0_one, .inl (cI, 5, .inl p0_one)), (a_p0_other, .inl (cI, 5, .inl p0_other)), (a_p0_worth, .inl (cI, 5, .inl p0_worth)), (a_p0_now, .inl (cI, 18, .inl p0_now))] H locs → lv_has ls 6 [(0, .ref a_p0), (1, .int v1), (2, .int v2), (3, .int y15_3), (4, .int y15_4)] → W p l e (Rm 3 67) s m args below meth c H locs 0 0 Q (F0 m 15 ls []) := by
      intro n
      induction n with
      | zero => intro y15_3 y15_4 H locs ls h9; exact itr_0 h9
      | succ n ih =>
        intro y15_3 y15_4 H locs ls hf hW hl
        obtain ⟨o_15, hf, ho_15⟩ := itr_inv hf
        have hf : b_X7_share_15 v1 v2 p0_persons p0_oaths p0_one p0_other p0_worth p0_now y15_3 y15_4 = some o_15 := hf
        unfold b_X7_share_15 at hf
        refine lv_iload hx hb dX7_share_15 (lv_at hl 4 rfl) ?_
        refine lv_iconst (v := 1) hx hb dX7_share_17 (by decide) ?_
        refine lv_aload_n hx hb dX7_share_18 rfl (lv_at hl 0 rfl) ?_
        refine q_get hB hW 7 in_X7 0 rfl rfl 0 (by decide) fl_105 (v := .int p0_persons) rfl dX7_share_19 ?_
        refine lv_ishl hx hb dX7_share_22 ?_
        refine lv_icmp_ge (tgt := 90) hx hb dX7_share_23 (by decide) (fun c_9 => ?_) (fun c_9 => ?_)
        · have hf := it_t c_9 hf
          have h9 := o_inr hf ho_15
          exact K_15 y15_3 h9 _ _ _ hW (lv_sub hl [0, 2, 3] rfl)
        · have hf := it_f c_9 hf
          refine lv_iload hx hb dX7_share_26 (lv_at hl 4 rfl) ?_
          refine lv_iload_n hx hb dX7_share_28 rfl (lv_at hl 1 rfl) ?_
          obtain ⟨r_10, hr_10, hf⟩ := bnd hf
          refine q_callSZ hB hW (As := [.int y15_4, .int v1]) (rest := []) (ws' := [(a_p0, .inr (7, [.int p0_persons, .int p0_skies, .int p0_oaths, .ref a_p0_kind, .ref a_p0_skyAt, .ref a_p0_skyLoud, .ref a_p0_one, .ref a_p0_other, .ref a_p0_worth, .ref a_p0_hangs, .ref a_p0_now, .ref a_p0_readPerson, .ref a_p0_readSky, .ref a_p0_readOath, .int p0_readPersons, .int p0_readSkies, .int p0_readOaths, .ref a_p0_text, .int p0_length, .int p0_at, .int p0_faultAt, .int p0_acts, .int p0_next, .ref a_p0_row, .int p0_told, .ref a_p0_toldAt, .ref a_p0_toldWool, .ref a_p0_toldHeard, .long p0_seed, .ref a_p0_isKept, .ref a_p0_kept])), (a_p0_one, .inl (cI, 5, .inl p0_one)), (a_p0_other, .inl (cI, 5, .inl p0_other)), (a_p0_worth, .inl (cI, 5, .inl p0_worth)), (a_p0_now, .inl (cI, 18, .inl p0_now))]) (c_X7_has l D cI cZ y15_4 v1 r_10 hr_10) (va_cwS 2 hts gX7_share_X7_has rfl rfl rfl (by decide +kernel) ⟨Nat.le_of_ble_eq_true rfl, Nat.le_of_ble_eq_true rfl⟩) [] rfl rfl rfl rfl rfl hl.1 rfl (Nat.le_of_ble_eq_true rfl) ⟨Nat.le_of_ble_eq_true rfl, Nat.le_of_ble_eq_true rfl⟩ dX7_share_29 (fun hzr_10 H locs hW => ?_)
          refine lv_if_ne (tgt := 84) hx hb dX7_share_32 (by decide) (fun c_11 => ?_) (fun c_11 => ?_)
          · have hf := it_f c_11 hf
            refine lv_iinc (v := (y15_4 + (1 : Int32))) (lv' := [(4, .int (y15_4 + (1 : Int32))), (0, .ref a_p0), (1, .int v1), (2, .int v2), (3, .int y15_3)]) hx hb dX7_share_84 hl (k := 4) rfl rfl (by decide) rfl (fun ls hl => ?_)
            refine lv_goto (tgt := 15) hx hb dX7_share_87 (by decide) ?_
            have h9 := o_inl hf ho_15
            exact ih y15_3 (y15_4 + (1 : Int32)) _ _ _ h9 hW (lv_sub hl [1, 2, 3, 4, 0] rfl)
          · have hf := it_t c_11 hf
            refine lv_iload hx hb dX7_share_35 (lv_at hl 4 rfl) ?_
            obtain ⟨r_12, hr_12, hf⟩ := bnd hf
            refine q_callSI hB hW (As := [.int y15_4]) (rest := []) (ws' := [(a_p0, .inr (7, [.int p0_persons, .int p0_skies, .int p0_oaths, .ref a_p0_kind, .ref a_p0_skyAt, .ref a_p0_skyLoud, .ref a_p0_one, .ref a_p0_other, .ref a_p0_worth, .ref a_p0_hangs, .ref a_p0_now, .ref a_p0_readPerson, .ref a_p0_readSky, .ref a_p0_readOath, .int p0_readPersons, .int p0_readSkies, .int p0_readOaths, .ref a_p0_text, .int p0_length, .int p0_at, .int p0_faultAt, .int p0_acts, .int p0_next, .ref a_p0_row, .int p0_told, .ref a_p0_toldAt, .ref a_p0_toldWool, .ref a_p0_toldHeard, .long p0_seed, .ref a_p0_isKept, .ref a_p0_kept])), (a_p0_one, .inl (cI, 5, .inl p0_one)), (a_p0_other, .inl (cI, 5, .inl p0_other)), (a_p0_worth, .inl (cI, 5, .inl p0_worth)), (a_p0_now, .inl (cI, 18, .inl p0_now))]) (c_X7_ones l D cI cZ y15_4 r_12 hr_12) (va_cwS 1 hts gX7_share_X7_ones rfl rfl rfl (by decide +kernel) ⟨Nat.le_of_ble_eq_true rfl, Nat.le_of_ble_eq_true rfl⟩) [] rfl rfl rfl rfl rfl hl.1 rfl (Nat.le_of_ble_eq_true rfl) ⟨Nat.le_of_ble_eq_true rfl, Nat.le_of_ble_eq_true rfl⟩ dX7_share_37 (fun H locs hW => ?_)
            obtain ⟨r_13, hr_13, hf⟩ := bnd hf
            refine q_callSI hB hW (As := [.int r_12]) (rest := []) (ws' := [(a_p0, .inr (7, [.int p0_persons, .int p0_skies, .int p0_oaths, .ref a_p0_kind, .ref a_p0_skyAt, .ref a_p0_skyLoud, .ref a_p0_one, .ref a_p0_other, .ref a_p0_worth, .ref a_p0_hangs, .ref a_p0_now, .ref a_p0_readPerson, .ref a_p0_readSky, .ref a_p0_readOath, .int p0_readPersons, .int p0_readSkies, .int p0_readOaths, .ref a_p0_text, .int p0_length, .int p0_at, .int p0_faultAt, .int p0_acts, .int p0_next, .ref a_p0_row, .int p0_told, .ref a_p0_toldAt, .ref a_p0_toldWool, .ref a_p0_toldHeard, .long p0_seed, .ref a_p0_isKept, .ref a_p0_kept])), (a_p0_one, .inl (cI, 5, .inl p0_one)), (a_p0_other, .inl (cI, 5, .inl p0_other)), (a_p0_worth, .inl (cI, 5, .inl p0_worth)), (a_p0_now, .inl (cI, 18, .inl p0_now))]) (c_X7_factorial l D cI cZ r_12 r_13 hr_13) (va_cwS 1 hts gX7_share_X7_factorial rfl rfl rfl (by decide +kernel) ⟨Nat.le_of_ble_eq_true rfl, Nat.le_of_ble_eq_true rfl⟩) [] rfl rfl rfl rfl rfl hl.1 rfl (Nat.le_of_ble_eq_true rfl) ⟨Nat.le_of_ble_eq_true rfl, Nat.le_of_ble_eq_true rfl⟩ dX7_share_40 (fun H locs hW => ?_)
            refine lv_aload_n hx hb dX7_share_43 rfl (lv_at hl 0 rfl) ?_
            refine q_get hB hW 7 in_X7 0 rfl rfl 0 (by decide) fl_105 (v := .int p0_persons) rfl dX7_share_44 ?_
            refine lv_iconst (v := 1) hx hb dX7_share_47 (by decide) ?_
            refine lv_isub hx hb dX7_share_48 ?_
            refine lv_iload hx hb dX7_share_49 (lv_at hl 4 rfl) ?_
            obtain ⟨r_14, hr_14, hf⟩ := bnd hf
            refine q_callSI hB hW (As := [.int y15_4]) (rest := [.int (p0_persons - (1 : Int32)), .int r_13]) (ws' := [(a_p0, .inr (7, [.int p0_persons, .int p0_skies, .int p0_oaths, .ref a_p0_kind, .ref a_p0_skyAt, .ref a_p0_skyLoud, .ref a_p0_one, .ref a_p0_other, .ref a_p0_worth, .ref a_p0_hangs, .ref a_p0_now, .ref a_p0_readPerson, .ref a_p0_readSky, .ref a_p0_readOath, .int p0_readPersons, .int p0_readSkies, .int p0_readOaths, .ref a_p0_text, .int p0_length, .int p0_at, .int p0_faultAt, .int p0_acts, .int p0_next, .ref a_p0_row, .int p0_told, .ref a_p0_toldAt, .ref a_p0_toldWool, .ref a_p0_toldHeard, .long p0_seed, .ref a_p0_isKept, .ref a_p0_kept])), (a_p0_one, .inl (cI, 5, .inl p0_one)), (a_p0_other, .inl (cI, 5, .inl p0_other)), (a_p0_worth, .inl (cI, 5, .inl p0_worth)), (a_p0_now, .inl (cI, 18, .inl p0_now))]) (c_X7_ones l D cI cZ y15_4 r_14 hr_14) (va_cwS 1 hts gX7_share_X7_ones rfl rfl rfl (by decide +kernel) ⟨Nat.le_of_ble_eq_true rfl, Nat.le_of_ble_eq_true rfl⟩) [] rfl rfl rfl rfl rfl hl.1 rfl (Nat.le_of_ble_eq_true rfl) ⟨Nat.le_of_ble_eq_true rfl, Nat.le_of_ble_eq_true rfl⟩ dX7_share_51 (fun H locs hW => ?_)
            refine lv_isub hx hb dX7_share_54 ?_
            obtain ⟨r_15, hr_15, hf⟩ := bnd hf
            refine q_callSI hB hW (As := [.int ((p0_persons - (1 : Int32)) - r_14)]) (rest := [.int r_13]) (ws' := [(a_p0, .inr (7, [.int p0_persons, .int p0_skies, .int p0_oaths, .ref a_p0_kind, .ref a_p0_skyAt, .ref a_p0_skyLoud, .ref a_p0_one, .ref a_p0_other, .ref a_p0_worth, .ref a_p0_hangs, .ref a_p0_now, .ref a_p0_readPerson, .ref a_p0_readSky, .ref a_p0_readOath, .int p0_readPersons, .int p0_readSkies, .int p0_readOaths, .ref a_p0_text, .int p0_length, .int p0_at, .int p0_faultAt, .int p0_acts, .int p0_next, .ref a_p0_row, .int p0_told, .ref a_p0_toldAt, .ref a_p0_toldWool, .ref a_p0_toldHeard, .long p0_seed, .ref a_p0_isKept, .ref a_p0_kept])), (a_p0_one, .inl (cI, 5, .inl p0_one)), (a_p0_other, .inl (cI, 5, .inl p0_other)), (a_p0_worth, .inl (cI, 5, .inl p0_worth)), (a_p0_now, .inl (cI, 18, .inl p0_now))]) (c_X7_factorial l D cI cZ ((p0_persons - (1 : Int32)) - r_14) r_15 hr_15) (va_cwS 1 hts gX7_share_X7_factorial rfl rfl rfl (by decide +kernel) ⟨Nat.le_of_ble_eq_true rfl, Nat.le_of_ble_eq_true rfl⟩) [] rfl rfl rfl rfl rfl hl.1 rfl (Nat.le_of_ble_eq_true rfl) ⟨Nat.le_of_ble_eq_true rfl, Nat.le_of_ble_eq_true rfl⟩ dX7_share_55 (fun H locs hW => ?_)
            refine lv_imul hx hb dX7_share_58 ?_
            obtain ⟨w_16, hw_16, hf⟩ := bnd hf
            refine q_nmI hw_16 ?_
            refine lv_istore (lv' := [(5, .int w_16), (0, .ref a_p0), (1, .int v1), (2, .int v2), (3, .int y15_3), (4, .int y15_4)]) hx hb dX7_share_59 hl (by decide) rfl (fun ls hl => ?_)
            refine lv_iload_n hx hb dX7_share_61 rfl (lv_at hl 4 rfl) ?_
            refine lv_iload hx hb dX7_share_62 (lv_at hl 0 rfl) ?_
            refine lv_aload_n hx hb dX7_share_64 rfl (lv_at hl 1 rfl) ?_
            refine lv_iload hx hb dX7_share_65 (lv_at hl 5 rfl) ?_
            refine lv_iconst (v := 1) hx hb dX7_share_67 (by decide) ?_
            refine lv_iload_n hx hb dX7_share_68 rfl (lv_at hl 2 rfl) ?_
            refine lv_ishl hx hb dX7_share_69 ?_
            refine lv_ior hx hb dX7_share_70 ?_
            obtain ⟨r_17, hr_17, hf⟩ := bnd hf
            refine q_callVI hB hW (ci := 7) (q0 := 0) rfl rfl rfl (As := [.int (y15_4 ||| ((1 : Int32) <<< (v1 &&& 31)))]) (rest := [.int w_16, .int y15_3]) (ws' := [(a_p0, .inr (7, [.int p0_persons, .int p0_skies, .int p0_oaths, .ref a_p0_kind, .ref a_p0_skyAt, .ref a_p0_skyLoud, .ref a_p0_one, .ref a_p0_other, .ref a_p0_worth, .ref a_p0_hangs, .ref a_p0_now, .ref a_p0_readPerson, .ref a_p0_readSky, .ref a_p0_readOath, .int p0_readPersons, .int p0_readSkies, .int p0_readOaths, .ref a_p0_text, .int p0_length, .int p0_at, .int p0_faultAt, .int p0_acts, .int p0_next, .ref a_p0_row, .int p0_told, .ref a_p0_toldAt, .ref a_p0_toldWool, .ref a_p0_toldHeard, .long p0_seed, .ref a_p0_isKept, .ref a_p0_kept])), (a_p0_one, .inl (cI, 5, .inl p0_one)), (a_p0_other, .inl (cI, 5, .inl p0_other)), (a_p0_worth, .inl (cI, 5, .inl p0_worth)), (a_p0_now, .inl (cI, 18, .inl p0_now))]) (c_X7_swornBy l D cI cZ a_p0 a_p0_kind a_p0_skyAt a_p0_skyLoud a_p0_one a_p0_other a_p0_worth a_p0_hangs a_p0_now a_p0_readPerson a_p0_readSky a_p0_readOath a_p0_text a_p0_row a_p0_toldAt a_p0_toldWool a_p0_toldHeard a_p0_isKept a_p0_kept p0_persons p0_skies p0_oaths p0_readPersons p0_readSkies p0_readOaths p0_length p0_at p0_faultAt p0_acts p0_next p0_told p0_seed p0_one p0_other p0_worth p0_now (y15_4 ||| ((1 : Int32) <<< (v1 &&& 31))) r_17 hr_17) (cwV 1 hts gX7_share_X7_swornBy rfl rfl rfl (by decide +kernel) ⟨Nat.le_of_ble_eq_true rfl, Nat.le_of_ble_eq_true rfl⟩) [0, 1, 2, 3, 4] rfl rfl rfl rfl rfl hl.1 rfl (Nat.le_of_ble_eq_true rfl) ⟨Nat.le_of_ble_eq_true rfl, Nat.le_of_ble_eq_true rfl⟩ dX7_share_71 (fun H locs hW => ?_)
            refine lv_aload_n hx hb dX7_share_74 rfl (lv_at hl 1 rfl) ?_
            refine lv_iload hx hb dX7_share_75 (lv_at hl 5 rfl) ?_
            obtain ⟨r_18, hr_18, hf⟩ := bnd hf
            refine q_callVI hB hW (ci := 7) (q0 := 0) rfl rfl rfl (As := [.int y15_4]) (rest := [.int r_17, .int w_16, .int y15_3]) (ws' := [(a_p0, .inr (7, [.int p0_persons, .int p0_skies, .int p0_oaths, .ref a_p0_kind, .ref a_p0_skyAt, .ref a_p0_skyLoud, .ref a_p0_one, .ref a_p0_other, .ref a_p0_worth, .ref a_p0_hangs, .ref a_p0_now, .ref a_p0_readPerson, .ref a_p0_readSky, .ref a_p0_readOath, .int p0_readPersons, .int p0_readSkies, .int p0_readOaths, .ref a_p0_text, .int p0_length, .int p0_at, .int p0_faultAt, .int p0_acts, .int p0_next, .ref a_p0_row, .int p0_told, .ref a_p0_toldAt, .ref a_p0_toldWool, .ref a_p0_toldHeard, .long p0_seed, .ref a_p0_isKept, .ref a_p0_kept])), (a_p0_one, .inl (cI, 5, .inl p0_one)), (a_p0_other, .inl (cI, 5, .inl p0_other)), (a_p0_worth, .inl (cI, 5, .inl p0_worth)), (a_p0_now, .inl (cI, 18, .inl p0_now))]) (c_X7_swornBy l D cI cZ a_p0 a_p0_kind a_p0_skyAt a_p0_skyLoud a_p0_one a_p0_other a_p0_worth a_p0_hangs a_p0_now a_p0_readPerson a_p0_readSky a_p0_readOath a_p0_text a_p0_row a_p0_toldAt a_p0_toldWool a_p0_toldHeard a_p0_isKept a_p0_kept p0_persons p0_skies p0_oaths p0_readPersons p0_readSkies p0_readOaths p0_length p0_at p0_faultAt p0_acts p0_next p0_told p0_seed p0_one p0_other p0_worth p0_now y15_4 r_18 hr_18) (cwV 1 hts gX7_share_X7_swornBy rfl rfl rfl (by decide +kernel) ⟨Nat.le_of_ble_eq_true rfl, Nat.le_of_ble_eq_true rfl⟩) [0, 1, 2, 3, 4] rfl rfl rfl rfl rfl hl.1 rfl (Nat.le_of_ble_eq_true rfl) ⟨Nat.le_of_ble_eq_true rfl, Nat.le_of_ble_eq_true rfl⟩ dX7_share_77 (fun H locs hW => ?_)
            refine lv_isub hx hb dX7_share_80 ?_
            refine lv_imul hx hb dX7_share_81 ?_
            refine lv_iadd hx hb dX7_share_82 ?_
            obtain ⟨w_19, hw_19, hf⟩ := bnd hf
            refine q_nmI hw_19 ?_
            refine lv_istore_n (lv' := [(3, .int w_19), (5, .int w_16), (0, .ref a_p0), (1, .int v1), (2, .int v2), (4, .int y15_4)]) hx hb dX7_share_83 rfl hl (by decide) rfl (fun ls hl => ?_)
            refine lv_iinc (v := (y15_4 + (1 : Int32))) (lv' := [(4, .int (y15_4 + (1 : Int32))), (3, .int w_19), (5, .int w_16), (0, .ref a_p0), (1, .int v1), (2, .int v2)]) hx hb dX7_share_84 hl (k := 5) rfl rfl (by decide) rfl (fun ls hl => ?_)
            refine lv_goto (tgt := 15) hx hb dX7_share_87 (by decide) ?_
            have h9 := o_inl hf ho_15
            exact ih w_19 (y15_4 + (1 : Int32)) _ _ _ h9 hW (lv_sub hl [3, 4, 5, 1, 0] rfl)
    exact L_15 FU (0 : Int32) (0 : Int32) _ _ _ hl_15 hW (lv_sub hl [2, 3, 4, 1, 0] rfl)
  · have hf := it_t c_2 hf
    refine lv_iconst (v := -1) hx hb dX7_share_8 (by decide) ?_
    exact hE _ _ _ _ _ (-1 : Int32) (sm hf) hW rfl dX7_share_9
def f_X7_choose (v1 : Int32) (v2 : Int32) (p0_kind : Nat → Int32) (p0_now : Nat → Int32) : Option (Nat → Int32) := if v2 = (1 : Int32) then (ald p0_now 18 (14 : Int32)).bind fun r_2 => (ast p0_now 18 (14 : Int32) (r_2 ||| ((1 : Int32) <<< (v1 &&& 31)))).bind fun r_3 => some r_3 else (ald p0_kind 5 v1).bind fun r_4 => if r_4 = (1 : Int32) then (ald p0_now 18 (14 : Int32)).bind fun r_8 => (ast p0_now 18 (14 : Int32) (r_8 ||| ((1 : Int32) <<< (v1 &&& 31)))).bind fun r_9 => some r_9 else (ald p0_now 18 (14 : Int32)).bind fun r_6 => (ast p0_now 18 (14 : Int32) (r_6 &&& (((1 : Int32) <<< (v1 &&& 31)) ^^^ (-1 : Int32)))).bind fun r_7 => some r_7
set_option maxHeartbeats 4000000 in
set_option maxRecDepth 100000 in
theorem c_X7_choose (l : Launch) (D : va_G) (cI cZ : ClassId) (a_p0 a_p0_kind a_p0_skyAt a_p0_skyLoud a_p0_one a_p0_other a_p0_worth a_p0_hangs a_p0_now a_p0_readPerson a_p0_readSky a_p0_readOath a_p0_text a_p0_row a_p0_toldAt a_p0_toldWool a_p0_toldHeard a_p0_isKept a_p0_kept : Nat) (p0_persons : Int32) (p0_skies : Int32) (p0_oaths : Int32) (p0_readPersons : Int32) (p0_readSkies : Int32) (p0_readOaths : Int32) (p0_length : Int32) (p0_at : Int32) (p0_faultAt : Int32) (p0_acts : Int32) (p0_next : Int32) (p0_told : Int32) (p0_seed : Int64) (p0_kind : Nat → Int32) (p0_now : Nat → Int32) (v1 : Int32) (v2 : Int32) (q : Nat → Int32) (hf : f_X7_choose v1 v2 p0_kind p0_now = some q) : CtV l D cI cZ yX7_choose wsX7_choose 0 0 [.ref a_p0, .int v1, .int v2] [(a_p0, .inr (7, [.int p0_persons, .int p0_skies, .int p0_oaths, .ref a_p0_kind, .ref a_p0_skyAt, .ref a_p0_skyLoud, .ref a_p0_one, .ref a_p0_other, .ref a_p0_worth, .ref a_p0_hangs, .ref a_p0_now, .ref a_p0_readPerson, .ref a_p0_readSky, .ref a_p0_readOath, .int p0_readPersons, .int p0_readSkies, .int p0_readOaths, .ref a_p0_text, .int p0_length, .int p0_at, .int p0_faultAt, .int p0_acts, .int p0_next, .ref a_p0_row, .int p0_told, .ref a_p0_toldAt, .ref a_p0_toldWool, .ref a_p0_toldHeard, .long p0_seed, .ref a_p0_isKept, .ref a_p0_kept])), (a_p0_kind, .inl (cI, 5, .inl p0_kind)), (a_p0_now, .inl (cI, 18, .inl p0_now))] (fun q => [(a_p0, .inr (7, [.int p0_persons, .int p0_skies, .int p0_oaths, .ref a_p0_kind, .ref a_p0_skyAt, .ref a_p0_skyLoud, .ref a_p0_one, .ref a_p0_other, .ref a_p0_worth, .ref a_p0_hangs, .ref a_p0_now, .ref a_p0_readPerson, .ref a_p0_readSky, .ref a_p0_readOath, .int p0_readPersons, .int p0_readSkies, .int p0_readOaths, .ref a_p0_text, .int p0_length, .int p0_at, .int p0_faultAt, .int p0_acts, .int p0_next, .ref a_p0_row, .int p0_told, .ref a_p0_toldAt, .ref a_p0_toldWool, .ref a_p0_toldHeard, .long p0_seed, .ref a_p0_isKept, .ref a_p0_kept])), (a_p0_kind, .inl (cI, 5, .inl p0_kind)), (a_p0_now, .inl (cI, 18, .inl q))]) q := by
  refine CtV.of (cc := cX7_choose) (maxL := 4) (plainFor_of_name (by decide)) rfl (Nat.le_of_ble_eq_true rfl) ?_
  intro p e s m args below meth c A Q H ls hB hE hW hl
  have hx := hB.1
  have hb := hB.2.1
  have hml := hB.2.2.2.1
  have hown : s.vm.findClass RX7 = some m.cls := hB.2.2.2.2.1
  have hts := hB.2.2.2.2.2.1
  have hK := hB.2.2.2.2.2.2.2.1.1
  have hl : lv_has ls 4 [(0, .ref a_p0), (1, .int v1), (2, .int v2)] := hl
  have in_X7 : ∀ w ∈ wsX70, w ∈ wsX7_choose := fun w h => List.mem_cons_of_mem _ (List.mem_append_right _ h)
  have fl_7 : (Cond.fieldLink RX7 7 (TX7 3).1 (TX7 3).2.1 (TX7 3).2.2.1).before args s = true := hts (.fieldLink RX7 7 "ClapOathsModel" "kind" "[I") (by decide +kernel)
  have fl_31 : (Cond.fieldLink RX7 31 (TX7 10).1 (TX7 10).2.1 (TX7 10).2.2.1).before args s = true := hts (.fieldLink RX7 31 "ClapOathsModel" "now" "[I") (by decide +kernel)
  unfold f_X7_choose at hf
  refine lv_iload_n hx hb dX7_choose_0 rfl (lv_at hl 2 rfl) ?_
  refine lv_iconst (v := 1) hx hb dX7_choose_1 (by decide) ?_
  refine lv_icmp_eq (tgt := 15) hx hb dX7_choose_2 (by decide) (fun c_1 => ?_) (fun c_1 => ?_)
  · have hf := it_t c_1 hf
    refine lv_iconst (v := 1) hx hb dX7_choose_15 (by decide) ?_
    refine lv_goto (tgt := 20) hx hb dX7_choose_16 (by decide) ?_
    refine lv_istore_n (lv' := [(3, .int (1 : Int32)), (0, .ref a_p0), (1, .int v1), (2, .int v2)]) hx hb dX7_choose_20 rfl hl (by decide) rfl (fun ls hl => ?_)
    refine lv_aload_n hx hb dX7_choose_21 rfl (lv_at hl 1 rfl) ?_
    refine q_get hB hW 7 in_X7 0 rfl rfl 10 (by decide) fl_31 (v := .ref a_p0_now) rfl dX7_choose_22 ?_
    refine lv_bipush (v := 14) hx hb dX7_choose_25 (by decide) ?_
    refine lv_iload_n hx hb dX7_choose_27 rfl (lv_at hl 0 rfl) ?_
    refine lv_if_eq (tgt := 45) hx hb dX7_choose_28 (by decide) (fun c9 => absurd c9 (by decide)) (fun _ => ?_)
    refine lv_aload_n hx hb dX7_choose_31 rfl (lv_at hl 1 rfl) ?_
    refine q_get hB hW 7 in_X7 0 rfl rfl 10 (by decide) fl_31 (v := .ref a_p0_now) rfl dX7_choose_32 ?_
    refine lv_bipush (v := 14) hx hb dX7_choose_35 (by decide) ?_
    obtain ⟨r_2, hr_2, hf⟩ := bnd hf
    refine q_iald hB hW 2 rfl hr_2 dX7_choose_37 ?_
    refine lv_iconst (v := 1) hx hb dX7_choose_38 (by decide) ?_
    refine lv_iload_n hx hb dX7_choose_39 rfl (lv_at hl 2 rfl) ?_
    refine lv_ishl hx hb dX7_choose_40 ?_
    refine lv_ior hx hb dX7_choose_41 ?_
    refine lv_goto (tgt := 58) hx hb dX7_choose_42 (by decide) ?_
    obtain ⟨r_3, hr_3, hf⟩ := bnd hf
    refine q_iast hB hW 2 rfl hr_3 (ws' := [(a_p0, .inr (7, [.int p0_persons, .int p0_skies, .int p0_oaths, .ref a_p0_kind, .ref a_p0_skyAt, .ref a_p0_skyLoud, .ref a_p0_one, .ref a_p0_other, .ref a_p0_worth, .ref a_p0_hangs, .ref a_p0_now, .ref a_p0_readPerson, .ref a_p0_readSky, .ref a_p0_readOath, .int p0_readPersons, .int p0_readSkies, .int p0_readOaths, .ref a_p0_text, .int p0_length, .int p0_at, .int p0_faultAt, .int p0_acts, .int p0_next, .ref a_p0_row, .int p0_told, .ref a_p0_toldAt, .ref a_p0_toldWool, .ref a_p0_toldHeard, .long p0_seed, .ref a_p0_isKept, .ref a_p0_kept])), (a_p0_kind, .inl (cI, 5, .inl p0_kind)), (a_p0_now, .inl (cI, 18, .inl r_3))]) rfl dX7_choose_58 (fun H locs hW => ?_)
    exact hE _ _ _ _ r_3 (sm hf) hW dX7_choose_59
  · have hf := it_f c_1 hf
    refine lv_aload_n hx hb dX7_choose_5 rfl (lv_at hl 0 rfl) ?_
    refine q_get hB hW 7 in_X7 0 rfl rfl 3 (by decide) fl_7 (v := .ref a_p0_kind) rfl dX7_choose_6 ?_
    refine lv_iload_n hx hb dX7_choose_9 rfl (lv_at hl 1 rfl) ?_
    obtain ⟨r_4, hr_4, hf⟩ := bnd hf
    refine q_iald hB hW 1 rfl hr_4 dX7_choose_10 ?_
    refine lv_iconst (v := 1) hx hb dX7_choose_11 (by decide) ?_
    refine lv_icmp_ne (tgt := 19) hx hb dX7_choose_12 (by decide) (fun c_5 => ?_) (fun c_5 => ?_)
    · have hf := it_f c_5 hf
      refine lv_iconst (v := 0) hx hb dX7_choose_19 (by decide) ?_
      refine lv_istore_n (lv' := [(3, .int (0 : Int32)), (0, .ref a_p0), (1, .int v1), (2, .int v2)]) hx hb dX7_choose_20 rfl hl (by decide) rfl (fun ls hl => ?_)
      refine lv_aload_n hx hb dX7_choose_21 rfl (lv_at hl 1 rfl) ?_
      refine q_get hB hW 7 in_X7 0 rfl rfl 10 (by decide) fl_31 (v := .ref a_p0_now) rfl dX7_choose_22 ?_
      refine lv_bipush (v := 14) hx hb dX7_choose_25 (by decide) ?_
      refine lv_iload_n hx hb dX7_choose_27 rfl (lv_at hl 0 rfl) ?_
      refine lv_if_eq (tgt := 45) hx hb dX7_choose_28 (by decide) (fun _ => ?_) (fun c9 => absurd c9 (by decide))
      refine lv_aload_n hx hb dX7_choose_45 rfl (lv_at hl 1 rfl) ?_
      refine q_get hB hW 7 in_X7 0 rfl rfl 10 (by decide) fl_31 (v := .ref a_p0_now) rfl dX7_choose_46 ?_
      refine lv_bipush (v := 14) hx hb dX7_choose_49 (by decide) ?_
      obtain ⟨r_6, hr_6, hf⟩ := bnd hf
      refine q_iald hB hW 2 rfl hr_6 dX7_choose_51 ?_
      refine lv_iconst (v := 1) hx hb dX7_choose_52 (by decide) ?_
      refine lv_iload_n hx hb dX7_choose_53 rfl (lv_at hl 2 rfl) ?_
      refine lv_ishl hx hb dX7_choose_54 ?_
      refine lv_iconst (v := -1) hx hb dX7_choose_55 (by decide) ?_
      refine lv_ixor hx hb dX7_choose_56 ?_
      refine lv_iand hx hb dX7_choose_57 ?_
      obtain ⟨r_7, hr_7, hf⟩ := bnd hf
      refine q_iast hB hW 2 rfl hr_7 (ws' := [(a_p0, .inr (7, [.int p0_persons, .int p0_skies, .int p0_oaths, .ref a_p0_kind, .ref a_p0_skyAt, .ref a_p0_skyLoud, .ref a_p0_one, .ref a_p0_other, .ref a_p0_worth, .ref a_p0_hangs, .ref a_p0_now, .ref a_p0_readPerson, .ref a_p0_readSky, .ref a_p0_readOath, .int p0_readPersons, .int p0_readSkies, .int p0_readOaths, .ref a_p0_text, .int p0_length, .int p0_at, .int p0_faultAt, .int p0_acts, .int p0_next, .ref a_p0_row, .int p0_told, .ref a_p0_toldAt, .ref a_p0_toldWool, .ref a_p0_toldHeard, .long p0_seed, .ref a_p0_isKept, .ref a_p0_kept])), (a_p0_kind, .inl (cI, 5, .inl p0_kind)), (a_p0_now, .inl (cI, 18, .inl r_7))]) rfl dX7_choose_58 (fun H locs hW => ?_)
      exact hE _ _ _ _ r_7 (sm hf) hW dX7_choose_59
    · have hf := it_t c_5 hf
      refine lv_iconst (v := 1) hx hb dX7_choose_15 (by decide) ?_
      refine lv_goto (tgt := 20) hx hb dX7_choose_16 (by decide) ?_
      refine lv_istore_n (lv' := [(3, .int (1 : Int32)), (0, .ref a_p0), (1, .int v1), (2, .int v2)]) hx hb dX7_choose_20 rfl hl (by decide) rfl (fun ls hl => ?_)
      refine lv_aload_n hx hb dX7_choose_21 rfl (lv_at hl 1 rfl) ?_
      refine q_get hB hW 7 in_X7 0 rfl rfl 10 (by decide) fl_31 (v := .ref a_p0_now) rfl dX7_choose_22 ?_
      refine lv_bipush (v := 14) hx hb dX7_choose_25 (by decide) ?_
      refine lv_iload_n hx hb dX7_choose_27 rfl (lv_at hl 0 rfl) ?_
      refine lv_if_eq (tgt := 45) hx hb dX7_choose_28 (by decide) (fun c9 => absurd c9 (by decide)) (fun _ => ?_)
      refine lv_aload_n hx hb dX7_choose_31 rfl (lv_at hl 1 rfl) ?_
      refine q_get hB hW 7 in_X7 0 rfl rfl 10 (by decide) fl_31 (v := .ref a_p0_now) rfl dX7_choose_32 ?_
      refine lv_bipush (v := 14) hx hb dX7_choose_35 (by decide) ?_
      obtain ⟨r_8, hr_8, hf⟩ := bnd hf
      refine q_iald hB hW 2 rfl hr_8 dX7_choose_37 ?_
      refine lv_iconst (v := 1) hx hb dX7_choose_38 (by decide) ?_
      refine lv_iload_n hx hb dX7_choose_39 rfl (lv_at hl 2 rfl) ?_
      refine lv_ishl hx hb dX7_choose_40 ?_
      refine lv_ior hx hb dX7_choose_41 ?_
      refine lv_goto (tgt := 58) hx hb dX7_choose_42 (by decide) ?_
      obtain ⟨r_9, hr_9, hf⟩ := bnd hf
      refine q_iast hB hW 2 rfl hr_9 (ws' := [(a_p0, .inr (7, [.int p0_persons, .int p0_skies, .int p0_oaths, .ref a_p0_kind, .ref a_p0_skyAt, .ref a_p0_skyLoud, .ref a_p0_one, .ref a_p0_other, .ref a_p0_worth, .ref a_p0_hangs, .ref a_p0_now, .ref a_p0_readPerson, .ref a_p0_readSky, .ref a_p0_readOath, .int p0_readPersons, .int p0_readSkies, .int p0_readOaths, .ref a_p0_text, .int p0_length, .int p0_at, .int p0_faultAt, .int p0_acts, .int p0_next, .ref a_p0_row, .int p0_told, .ref a_p0_toldAt, .ref a_p0_toldWool, .ref a_p0_toldHeard, .long p0_seed, .ref a_p0_isKept, .ref a_p0_kept])), (a_p0_kind, .inl (cI, 5, .inl p0_kind)), (a_p0_now, .inl (cI, 18, .inl r_9))]) rfl dX7_choose_58 (fun H locs hW => ?_)
      exact hE _ _ _ _ r_9 (sm hf) hW dX7_choose_59
def f_X7_gain (v1 : Int32) (v2 : Int32) (v3 : Int32) (v4 : Int32) (p0_persons : Int32) (p0_skies : Int32) (p0_oaths : Int32) (p0_kind : Nat → Int32) (p0_skyAt : Nat → Int32) (p0_skyLoud : Nat → Int32) (p0_one : Nat → Int32) (p0_other : Nat → Int32) (p0_worth : Nat → Int32) (p0_hangs : Nat → Int32) (p0_now : Nat → Int32) : Option (Int32 × (Nat → Int32)) := (f_X7_layTrial p0_now).bind fun r_1 => (f_X7_choose v1 v3 p0_kind r_1).bind fun r_2 => (f_X7_choose v2 v4 p0_kind r_2).bind fun r_3 => (f_X7_passOn (1 : Int32) (1 : Int32) p0_persons p0_skies p0_oaths p0_kind p0_skyAt p0_skyLoud p0_one p0_other p0_worth p0_hangs r_3).bind fun r_4 => (f_X7_oathsOf v1 p0_oaths p0_one p0_other).bind fun r_5 => (ald r_4.2 18 (15 : Int32)).bind fun r_6 => (f_X7_worthsOf (r_5 &&& r_6) p0_oaths p0_worth).bind fun r_7 => some ((r_7 - v3), r_4.2)
set_option maxHeartbeats 4000000 in
set_option maxRecDepth 100000 in
theorem c_X7_gain (l : Launch) (D : va_G) (cI cZ : ClassId) (a_p0 a_p0_kind a_p0_skyAt a_p0_skyLoud a_p0_one a_p0_other a_p0_worth a_p0_hangs a_p0_now a_p0_readPerson a_p0_readSky a_p0_readOath a_p0_text a_p0_row a_p0_toldAt a_p0_toldWool a_p0_toldHeard a_p0_isKept a_p0_kept : Nat) (p0_persons : Int32) (p0_skies : Int32) (p0_oaths : Int32) (p0_readPersons : Int32) (p0_readSkies : Int32) (p0_readOaths : Int32) (p0_length : Int32) (p0_at : Int32) (p0_faultAt : Int32) (p0_acts : Int32) (p0_next : Int32) (p0_told : Int32) (p0_seed : Int64) (p0_kind : Nat → Int32) (p0_skyAt : Nat → Int32) (p0_skyLoud : Nat → Int32) (p0_one : Nat → Int32) (p0_other : Nat → Int32) (p0_worth : Nat → Int32) (p0_hangs : Nat → Int32) (p0_now : Nat → Int32) (v1 : Int32) (v2 : Int32) (v3 : Int32) (v4 : Int32) (q : Int32 × (Nat → Int32)) (hf : f_X7_gain v1 v2 v3 v4 p0_persons p0_skies p0_oaths p0_kind p0_skyAt p0_skyLoud p0_one p0_other p0_worth p0_hangs p0_now = some q) : CtI l D cI cZ yX7_gain wsX7_gain 5 126 [.ref a_p0, .int v1, .int v2, .int v3, .int v4] [(a_p0, .inr (7, [.int p0_persons, .int p0_skies, .int p0_oaths, .ref a_p0_kind, .ref a_p0_skyAt, .ref a_p0_skyLoud, .ref a_p0_one, .ref a_p0_other, .ref a_p0_worth, .ref a_p0_hangs, .ref a_p0_now, .ref a_p0_readPerson, .ref a_p0_readSky, .ref a_p0_readOath, .int p0_readPersons, .int p0_readSkies, .int p0_readOaths, .ref a_p0_text, .int p0_length, .int p0_at, .int p0_faultAt, .int p0_acts, .int p0_next, .ref a_p0_row, .int p0_told, .ref a_p0_toldAt, .ref a_p0_toldWool, .ref a_p0_toldHeard, .long p0_seed, .ref a_p0_isKept, .ref a_p0_kept])), (a_p0_kind, .inl (cI, 5, .inl p0_kind)), (a_p0_skyAt, .inl (cI, 5, .inl p0_skyAt)), (a_p0_skyLoud, .inl (cI, 5, .inl p0_skyLoud)), (a_p0_one, .inl (cI, 5, .inl p0_one)), (a_p0_other, .inl (cI, 5, .inl p0_other)), (a_p0_worth, .inl (cI, 5, .inl p0_worth)), (a_p0_hangs, .inl (cI, 5, .inl p0_hangs)), (a_p0_now, .inl (cI, 18, .inl p0_now))] (fun q => [(a_p0, .inr (7, [.int p0_persons, .int p0_skies, .int p0_oaths, .ref a_p0_kind, .ref a_p0_skyAt, .ref a_p0_skyLoud, .ref a_p0_one, .ref a_p0_other, .ref a_p0_worth, .ref a_p0_hangs, .ref a_p0_now, .ref a_p0_readPerson, .ref a_p0_readSky, .ref a_p0_readOath, .int p0_readPersons, .int p0_readSkies, .int p0_readOaths, .ref a_p0_text, .int p0_length, .int p0_at, .int p0_faultAt, .int p0_acts, .int p0_next, .ref a_p0_row, .int p0_told, .ref a_p0_toldAt, .ref a_p0_toldWool, .ref a_p0_toldHeard, .long p0_seed, .ref a_p0_isKept, .ref a_p0_kept])), (a_p0_kind, .inl (cI, 5, .inl p0_kind)), (a_p0_skyAt, .inl (cI, 5, .inl p0_skyAt)), (a_p0_skyLoud, .inl (cI, 5, .inl p0_skyLoud)), (a_p0_one, .inl (cI, 5, .inl p0_one)), (a_p0_other, .inl (cI, 5, .inl p0_other)), (a_p0_worth, .inl (cI, 5, .inl p0_worth)), (a_p0_hangs, .inl (cI, 5, .inl p0_hangs)), (a_p0_now, .inl (cI, 18, .inl q.2))]) (fun q => q.1) q := by
  refine CtI.of (cc := cX7_gain) (maxL := 5) (plainFor_of_name (by decide)) rfl (Nat.le_of_ble_eq_true rfl) ?_
  intro p e s m args below meth c A Q H ls hB hE hW hl
  have hx := hB.1
  have hb := hB.2.1
  have hml := hB.2.2.2.1
  have hown : s.vm.findClass RX7 = some m.cls := hB.2.2.2.2.1
  have hts := hB.2.2.2.2.2.1
  have hK := hB.2.2.2.2.2.2.2.1.1
  have hl : lv_has ls 5 [(0, .ref a_p0), (1, .int v1), (2, .int v2), (3, .int v3), (4, .int v4)] := hl
  have in_X7 : ∀ w ∈ wsX70, w ∈ wsX7_gain := fun w h => List.mem_cons_of_mem _ (List.mem_append_right _ h)
  have fl_31 : (Cond.fieldLink RX7 31 (TX7 10).1 (TX7 10).2.1 (TX7 10).2.2.1).before args s = true := hts (.fieldLink RX7 31 "ClapOathsModel" "now" "[I") (by decide +kernel)
  unfold f_X7_gain at hf
  refine lv_aload_n hx hb dX7_gain_0 rfl (lv_at hl 0 rfl) ?_
  obtain ⟨r_1, hr_1, hf⟩ := bnd hf
  refine q_callVV hB hW (ci := 7) (q0 := 0) rfl rfl rfl (As := []) (rest := []) (ws' := [(a_p0, .inr (7, [.int p0_persons, .int p0_skies, .int p0_oaths, .ref a_p0_kind, .ref a_p0_skyAt, .ref a_p0_skyLoud, .ref a_p0_one, .ref a_p0_other, .ref a_p0_worth, .ref a_p0_hangs, .ref a_p0_now, .ref a_p0_readPerson, .ref a_p0_readSky, .ref a_p0_readOath, .int p0_readPersons, .int p0_readSkies, .int p0_readOaths, .ref a_p0_text, .int p0_length, .int p0_at, .int p0_faultAt, .int p0_acts, .int p0_next, .ref a_p0_row, .int p0_told, .ref a_p0_toldAt, .ref a_p0_toldWool, .ref a_p0_toldHeard, .long p0_seed, .ref a_p0_isKept, .ref a_p0_kept])), (a_p0_kind, .inl (cI, 5, .inl p0_kind)), (a_p0_skyAt, .inl (cI, 5, .inl p0_skyAt)), (a_p0_skyLoud, .inl (cI, 5, .inl p0_skyLoud)), (a_p0_one, .inl (cI, 5, .inl p0_one)), (a_p0_other, .inl (cI, 5, .inl p0_other)), (a_p0_worth, .inl (cI, 5, .inl p0_worth)), (a_p0_hangs, .inl (cI, 5, .inl p0_hangs)), (a_p0_now, .inl (cI, 18, .inl r_1))]) (c_X7_layTrial l D cI cZ a_p0 a_p0_kind a_p0_skyAt a_p0_skyLoud a_p0_one a_p0_other a_p0_worth a_p0_hangs a_p0_now a_p0_readPerson a_p0_readSky a_p0_readOath a_p0_text a_p0_row a_p0_toldAt a_p0_toldWool a_p0_toldHeard a_p0_isKept a_p0_kept p0_persons p0_skies p0_oaths p0_readPersons p0_readSkies p0_readOaths p0_length p0_at p0_faultAt p0_acts p0_next p0_told p0_seed p0_now r_1 hr_1) (cwV 0 hts gX7_gain_X7_layTrial rfl rfl rfl (by decide +kernel) ⟨Nat.le_of_ble_eq_true rfl, Nat.le_of_ble_eq_true rfl⟩) [0, 8] rfl rfl rfl rfl rfl hl.1 rfl (Nat.le_of_ble_eq_true rfl) ⟨Nat.le_of_ble_eq_true rfl, Nat.le_of_ble_eq_true rfl⟩ dX7_gain_1 (fun H locs hW => ?_)
  refine lv_aload_n hx hb dX7_gain_4 rfl (lv_at hl 0 rfl) ?_
  refine lv_iload_n hx hb dX7_gain_5 rfl (lv_at hl 1 rfl) ?_
  refine lv_iload_n hx hb dX7_gain_6 rfl (lv_at hl 3 rfl) ?_
  obtain ⟨r_2, hr_2, hf⟩ := bnd hf
  refine q_callVV hB hW (ci := 7) (q0 := 0) rfl rfl rfl (As := [.int v1, .int v3]) (rest := []) (ws' := [(a_p0, .inr (7, [.int p0_persons, .int p0_skies, .int p0_oaths, .ref a_p0_kind, .ref a_p0_skyAt, .ref a_p0_skyLoud, .ref a_p0_one, .ref a_p0_other, .ref a_p0_worth, .ref a_p0_hangs, .ref a_p0_now, .ref a_p0_readPerson, .ref a_p0_readSky, .ref a_p0_readOath, .int p0_readPersons, .int p0_readSkies, .int p0_readOaths, .ref a_p0_text, .int p0_length, .int p0_at, .int p0_faultAt, .int p0_acts, .int p0_next, .ref a_p0_row, .int p0_told, .ref a_p0_toldAt, .ref a_p0_toldWool, .ref a_p0_toldHeard, .long p0_seed, .ref a_p0_isKept, .ref a_p0_kept])), (a_p0_kind, .inl (cI, 5, .inl p0_kind)), (a_p0_skyAt, .inl (cI, 5, .inl p0_skyAt)), (a_p0_skyLoud, .inl (cI, 5, .inl p0_skyLoud)), (a_p0_one, .inl (cI, 5, .inl p0_one)), (a_p0_other, .inl (cI, 5, .inl p0_other)), (a_p0_worth, .inl (cI, 5, .inl p0_worth)), (a_p0_hangs, .inl (cI, 5, .inl p0_hangs)), (a_p0_now, .inl (cI, 18, .inl r_2))]) (c_X7_choose l D cI cZ a_p0 a_p0_kind a_p0_skyAt a_p0_skyLoud a_p0_one a_p0_other a_p0_worth a_p0_hangs a_p0_now a_p0_readPerson a_p0_readSky a_p0_readOath a_p0_text a_p0_row a_p0_toldAt a_p0_toldWool a_p0_toldHeard a_p0_isKept a_p0_kept p0_persons p0_skies p0_oaths p0_readPersons p0_readSkies p0_readOaths p0_length p0_at p0_faultAt p0_acts p0_next p0_told p0_seed p0_kind r_1 v1 v3 r_2 hr_2) (cwV 2 hts gX7_gain_X7_choose rfl rfl rfl (by decide +kernel) ⟨Nat.le_of_ble_eq_true rfl, Nat.le_of_ble_eq_true rfl⟩) [0, 1, 8] rfl rfl rfl rfl rfl hl.1 rfl (Nat.le_of_ble_eq_true rfl) ⟨Nat.le_of_ble_eq_true rfl, Nat.le_of_ble_eq_true rfl⟩ dX7_gain_7 (fun H locs hW => ?_)
  refine lv_aload_n hx hb dX7_gain_10 rfl (lv_at hl 0 rfl) ?_
  refine lv_iload_n hx hb dX7_gain_11 rfl (lv_at hl 2 rfl) ?_
  refine lv_iload hx hb dX7_gain_12 (lv_at hl 4 rfl) ?_
  obtain ⟨r_3, hr_3, hf⟩ := bnd hf
  refine q_callVV hB hW (ci := 7) (q0 := 0) rfl rfl rfl (As := [.int v2, .int v4]) (rest := []) (ws' := [(a_p0, .inr (7, [.int p0_persons, .int p0_skies, .int p0_oaths, .ref a_p0_kind, .ref a_p0_skyAt, .ref a_p0_skyLoud, .ref a_p0_one, .ref a_p0_other, .ref a_p0_worth, .ref a_p0_hangs, .ref a_p0_now, .ref a_p0_readPerson, .ref a_p0_readSky, .ref a_p0_readOath, .int p0_readPersons, .int p0_readSkies, .int p0_readOaths, .ref a_p0_text, .int p0_length, .int p0_at, .int p0_faultAt, .int p0_acts, .int p0_next, .ref a_p0_row, .int p0_told, .ref a_p0_toldAt, .ref a_p0_toldWool, .ref a_p0_toldHeard, .long p0_seed, .ref a_p0_isKept, .ref a_p0_kept])), (a_p0_kind, .inl (cI, 5, .inl p0_kind)), (a_p0_skyAt, .inl (cI, 5, .inl p0_skyAt)), (a_p0_skyLoud, .inl (cI, 5, .inl p0_skyLoud)), (a_p0_one, .inl (cI, 5, .inl p0_one)), (a_p0_other, .inl (cI, 5, .inl p0_other)), (a_p0_worth, .inl (cI, 5, .inl p0_worth)), (a_p0_hangs, .inl (cI, 5, .inl p0_hangs)), (a_p0_now, .inl (cI, 18, .inl r_3))]) (c_X7_choose l D cI cZ a_p0 a_p0_kind a_p0_skyAt a_p0_skyLoud a_p0_one a_p0_other a_p0_worth a_p0_hangs a_p0_now a_p0_readPerson a_p0_readSky a_p0_readOath a_p0_text a_p0_row a_p0_toldAt a_p0_toldWool a_p0_toldHeard a_p0_isKept a_p0_kept p0_persons p0_skies p0_oaths p0_readPersons p0_readSkies p0_readOaths p0_length p0_at p0_faultAt p0_acts p0_next p0_told p0_seed p0_kind r_2 v2 v4 r_3 hr_3) (cwV 2 hts gX7_gain_X7_choose rfl rfl rfl (by decide +kernel) ⟨Nat.le_of_ble_eq_true rfl, Nat.le_of_ble_eq_true rfl⟩) [0, 1, 8] rfl rfl rfl rfl rfl hl.1 rfl (Nat.le_of_ble_eq_true rfl) ⟨Nat.le_of_ble_eq_true rfl, Nat.le_of_ble_eq_true rfl⟩ dX7_gain_14 (fun H locs hW => ?_)
  refine lv_aload_n hx hb dX7_gain_17 rfl (lv_at hl 0 rfl) ?_
  refine lv_iconst (v := 1) hx hb dX7_gain_18 (by decide) ?_
  refine lv_iconst (v := 1) hx hb dX7_gain_19 (by decide) ?_
  obtain ⟨r_4, hr_4, hf⟩ := bnd hf
  refine q_callVI hB hW (ci := 7) (q0 := 0) rfl rfl rfl (As := [.int (1 : Int32), .int (1 : Int32)]) (rest := []) (ws' := [(a_p0, .inr (7, [.int p0_persons, .int p0_skies, .int p0_oaths, .ref a_p0_kind, .ref a_p0_skyAt, .ref a_p0_skyLoud, .ref a_p0_one, .ref a_p0_other, .ref a_p0_worth, .ref a_p0_hangs, .ref a_p0_now, .ref a_p0_readPerson, .ref a_p0_readSky, .ref a_p0_readOath, .int p0_readPersons, .int p0_readSkies, .int p0_readOaths, .ref a_p0_text, .int p0_length, .int p0_at, .int p0_faultAt, .int p0_acts, .int p0_next, .ref a_p0_row, .int p0_told, .ref a_p0_toldAt, .ref a_p0_toldWool, .ref a_p0_toldHeard, .long p0_seed, .ref a_p0_isKept, .ref a_p0_kept])), (a_p0_kind, .inl (cI, 5, .inl p0_kind)), (a_p0_skyAt, .inl (cI, 5, .inl p0_skyAt)), (a_p0_skyLoud, .inl (cI, 5, .inl p0_skyLoud)), (a_p0_one, .inl (cI, 5, .inl p0_one)), (a_p0_other, .inl (cI, 5, .inl p0_other)), (a_p0_worth, .inl (cI, 5, .inl p0_worth)), (a_p0_hangs, .inl (cI, 5, .inl p0_hangs)), (a_p0_now, .inl (cI, 18, .inl r_4.2))]) (c_X7_passOn l D cI cZ a_p0 a_p0_kind a_p0_skyAt a_p0_skyLoud a_p0_one a_p0_other a_p0_worth a_p0_hangs a_p0_now a_p0_readPerson a_p0_readSky a_p0_readOath a_p0_text a_p0_row a_p0_toldAt a_p0_toldWool a_p0_toldHeard a_p0_isKept a_p0_kept p0_persons p0_skies p0_oaths p0_readPersons p0_readSkies p0_readOaths p0_length p0_at p0_faultAt p0_acts p0_next p0_told p0_seed p0_kind p0_skyAt p0_skyLoud p0_one p0_other p0_worth p0_hangs r_3 (1 : Int32) (1 : Int32) r_4 hr_4) (cwV 2 hts gX7_gain_X7_passOn rfl rfl rfl (by decide +kernel) ⟨Nat.le_of_ble_eq_true rfl, Nat.le_of_ble_eq_true rfl⟩) [0, 1, 2, 3, 4, 5, 6, 7, 8] rfl rfl rfl rfl rfl hl.1 rfl (Nat.le_of_ble_eq_true rfl) ⟨Nat.le_of_ble_eq_true rfl, Nat.le_of_ble_eq_true rfl⟩ dX7_gain_20 (fun H locs hW => ?_)
  refine lv_pop hx hb dX7_gain_23 rfl ?_
  refine lv_aload_n hx hb dX7_gain_24 rfl (lv_at hl 0 rfl) ?_
  refine lv_aload_n hx hb dX7_gain_25 rfl (lv_at hl 0 rfl) ?_
  refine lv_iload_n hx hb dX7_gain_26 rfl (lv_at hl 1 rfl) ?_
  obtain ⟨r_5, hr_5, hf⟩ := bnd hf
  refine q_callVI hB hW (ci := 7) (q0 := 0) rfl rfl rfl (As := [.int v1]) (rest := [.ref a_p0]) (ws' := [(a_p0, .inr (7, [.int p0_persons, .int p0_skies, .int p0_oaths, .ref a_p0_kind, .ref a_p0_skyAt, .ref a_p0_skyLoud, .ref a_p0_one, .ref a_p0_other, .ref a_p0_worth, .ref a_p0_hangs, .ref a_p0_now, .ref a_p0_readPerson, .ref a_p0_readSky, .ref a_p0_readOath, .int p0_readPersons, .int p0_readSkies, .int p0_readOaths, .ref a_p0_text, .int p0_length, .int p0_at, .int p0_faultAt, .int p0_acts, .int p0_next, .ref a_p0_row, .int p0_told, .ref a_p0_toldAt, .ref a_p0_toldWool, .ref a_p0_toldHeard, .long p0_seed, .ref a_p0_isKept, .ref a_p0_kept])), (a_p0_kind, .inl (cI, 5, .inl p0_kind)), (a_p0_skyAt, .inl (cI, 5, .inl p0_skyAt)), (a_p0_skyLoud, .inl (cI, 5, .inl p0_skyLoud)), (a_p0_one, .inl (cI, 5, .inl p0_one)), (a_p0_other, .inl (cI, 5, .inl p0_other)), (a_p0_worth, .inl (cI, 5, .inl p0_worth)), (a_p0_hangs, .inl (cI, 5, .inl p0_hangs)), (a_p0_now, .inl (cI, 18, .inl r_4.2))]) (c_X7_oathsOf l D cI cZ a_p0 a_p0_kind a_p0_skyAt a_p0_skyLoud a_p0_one a_p0_other a_p0_worth a_p0_hangs a_p0_now a_p0_readPerson a_p0_readSky a_p0_readOath a_p0_text a_p0_row a_p0_toldAt a_p0_toldWool a_p0_toldHeard a_p0_isKept a_p0_kept p0_persons p0_skies p0_oaths p0_readPersons p0_readSkies p0_readOaths p0_length p0_at p0_faultAt p0_acts p0_next p0_told p0_seed p0_one p0_other v1 r_5 hr_5) (cwV 1 hts gX7_gain_X7_oathsOf rfl rfl rfl (by decide +kernel) ⟨Nat.le_of_ble_eq_true rfl, Nat.le_of_ble_eq_true rfl⟩) [0, 4, 5] rfl rfl rfl rfl rfl hl.1 rfl (Nat.le_of_ble_eq_true rfl) ⟨Nat.le_of_ble_eq_true rfl, Nat.le_of_ble_eq_true rfl⟩ dX7_gain_27 (fun H locs hW => ?_)
  refine lv_aload_n hx hb dX7_gain_30 rfl (lv_at hl 0 rfl) ?_
  refine q_get hB hW 7 in_X7 0 rfl rfl 10 (by decide) fl_31 (v := .ref a_p0_now) rfl dX7_gain_31 ?_
  refine lv_bipush (v := 15) hx hb dX7_gain_34 (by decide) ?_
  obtain ⟨r_6, hr_6, hf⟩ := bnd hf
  refine q_iald hB hW 8 rfl hr_6 dX7_gain_36 ?_
  refine lv_iand hx hb dX7_gain_37 ?_
  obtain ⟨r_7, hr_7, hf⟩ := bnd hf
  refine q_callVI hB hW (ci := 7) (q0 := 0) rfl rfl rfl (As := [.int (r_5 &&& r_6)]) (rest := []) (ws' := [(a_p0, .inr (7, [.int p0_persons, .int p0_skies, .int p0_oaths, .ref a_p0_kind, .ref a_p0_skyAt, .ref a_p0_skyLoud, .ref a_p0_one, .ref a_p0_other, .ref a_p0_worth, .ref a_p0_hangs, .ref a_p0_now, .ref a_p0_readPerson, .ref a_p0_readSky, .ref a_p0_readOath, .int p0_readPersons, .int p0_readSkies, .int p0_readOaths, .ref a_p0_text, .int p0_length, .int p0_at, .int p0_faultAt, .int p0_acts, .int p0_next, .ref a_p0_row, .int p0_told, .ref a_p0_toldAt, .ref a_p0_toldWool, .ref a_p0_toldHeard, .long p0_seed, .ref a_p0_isKept, .ref a_p0_kept])), (a_p0_kind, .inl (cI, 5, .inl p0_kind)), (a_p0_skyAt, .inl (cI, 5, .inl p0_skyAt)), (a_p0_skyLoud, .inl (cI, 5, .inl p0_skyLoud)), (a_p0_one, .inl (cI, 5, .inl p0_one)), (a_p0_other, .inl (cI, 5, .inl p0_other)), (a_p0_worth, .inl (cI, 5, .inl p0_worth)), (a_p0_hangs, .inl (cI, 5, .inl p0_hangs)), (a_p0_now, .inl (cI, 18, .inl r_4.2))]) (c_X7_worthsOf l D cI cZ a_p0 a_p0_kind a_p0_skyAt a_p0_skyLoud a_p0_one a_p0_other a_p0_worth a_p0_hangs a_p0_now a_p0_readPerson a_p0_readSky a_p0_readOath a_p0_text a_p0_row a_p0_toldAt a_p0_toldWool a_p0_toldHeard a_p0_isKept a_p0_kept p0_persons p0_skies p0_oaths p0_readPersons p0_readSkies p0_readOaths p0_length p0_at p0_faultAt p0_acts p0_next p0_told p0_seed p0_worth (r_5 &&& r_6) r_7 hr_7) (cwV 1 hts gX7_gain_X7_worthsOf rfl rfl rfl (by decide +kernel) ⟨Nat.le_of_ble_eq_true rfl, Nat.le_of_ble_eq_true rfl⟩) [0, 6] rfl rfl rfl rfl rfl hl.1 rfl (Nat.le_of_ble_eq_true rfl) ⟨Nat.le_of_ble_eq_true rfl, Nat.le_of_ble_eq_true rfl⟩ dX7_gain_38 (fun H locs hW => ?_)
  refine lv_iload_n hx hb dX7_gain_41 rfl (lv_at hl 3 rfl) ?_
  refine lv_isub hx hb dX7_gain_42 ?_
  exact hE _ _ _ _ _ ((r_7 - v3), r_4.2) (sm hf) hW rfl dX7_gain_43
def f_X7_isRest (v1 : Int32) (v2 : Int32) (v3 : Int32) (v4 : Int32) (p0_persons : Int32) (p0_skies : Int32) (p0_oaths : Int32) (p0_kind : Nat → Int32) (p0_skyAt : Nat → Int32) (p0_skyLoud : Nat → Int32) (p0_one : Nat → Int32) (p0_other : Nat → Int32) (p0_worth : Nat → Int32) (p0_hangs : Nat → Int32) (p0_now : Nat → Int32) : Option (Int32 × (Nat → Int32)) := (f_X7_gain v1 v2 ((1 : Int32) - v3) v4 p0_persons p0_skies p0_oaths p0_kind p0_skyAt p0_skyLoud p0_one p0_other p0_worth p0_hangs p0_now).bind fun r_1 => (f_X7_gain v1 v2 v3 v4 p0_persons p0_skies p0_oaths p0_kind p0_skyAt p0_skyLoud p0_one p0_other p0_worth p0_hangs r_1.2).bind fun r_2 => if r_2.1 < r_1.1 then some ((0 : Int32), r_2.2) else (f_X7_gain v2 v1 ((1 : Int32) - v4) v3 p0_persons p0_skies p0_oaths p0_kind p0_skyAt p0_skyLoud p0_one p0_other p0_worth p0_hangs r_2.2).bind fun r_4 => (f_X7_gain v2 v1 v4 v3 p0_persons p0_skies p0_oaths p0_kind p0_skyAt p0_skyLoud p0_one p0_other p0_worth p0_hangs r_4.2).bind fun r_5 => if r_5.1 < r_4.1 then some ((0 : Int32), r_5.2) else some ((1 : Int32), r_5.2)
set_option maxHeartbeats 4000000 in
set_option maxRecDepth 100000 in
theorem c_X7_isRest (l : Launch) (D : va_G) (cI cZ : ClassId) (a_p0 a_p0_kind a_p0_skyAt a_p0_skyLoud a_p0_one a_p0_other a_p0_worth a_p0_hangs a_p0_now a_p0_readPerson a_p0_readSky a_p0_readOath a_p0_text a_p0_row a_p0_toldAt a_p0_toldWool a_p0_toldHeard a_p0_isKept a_p0_kept : Nat) (p0_persons : Int32) (p0_skies : Int32) (p0_oaths : Int32) (p0_readPersons : Int32) (p0_readSkies : Int32) (p0_readOaths : Int32) (p0_length : Int32) (p0_at : Int32) (p0_faultAt : Int32) (p0_acts : Int32) (p0_next : Int32) (p0_told : Int32) (p0_seed : Int64) (p0_kind : Nat → Int32) (p0_skyAt : Nat → Int32) (p0_skyLoud : Nat → Int32) (p0_one : Nat → Int32) (p0_other : Nat → Int32) (p0_worth : Nat → Int32) (p0_hangs : Nat → Int32) (p0_now : Nat → Int32) (v1 : Int32) (v2 : Int32) (v3 : Int32) (v4 : Int32) (q : Int32 × (Nat → Int32)) (hf : f_X7_isRest v1 v2 v3 v4 p0_persons p0_skies p0_oaths p0_kind p0_skyAt p0_skyLoud p0_one p0_other p0_worth p0_hangs p0_now = some q) : CtZ l D cI cZ yX7_isRest wsX7_isRest 6 150 [.ref a_p0, .int v1, .int v2, .int v3, .int v4] [(a_p0, .inr (7, [.int p0_persons, .int p0_skies, .int p0_oaths, .ref a_p0_kind, .ref a_p0_skyAt, .ref a_p0_skyLoud, .ref a_p0_one, .ref a_p0_other, .ref a_p0_worth, .ref a_p0_hangs, .ref a_p0_now, .ref a_p0_readPerson, .ref a_p0_readSky, .ref a_p0_readOath, .int p0_readPersons, .int p0_readSkies, .int p0_readOaths, .ref a_p0_text, .int p0_length, .int p0_at, .int p0_faultAt, .int p0_acts, .int p0_next, .ref a_p0_row, .int p0_told, .ref a_p0_toldAt, .ref a_p0_toldWool, .ref a_p0_toldHeard, .long p0_seed, .ref a_p0_isKept, .ref a_p0_kept])), (a_p0_kind, .inl (cI, 5, .inl p0_kind)), (a_p0_skyAt, .inl (cI, 5, .inl p0_skyAt)), (a_p0_skyLoud, .inl (cI, 5, .inl p0_skyLoud)), (a_p0_one, .inl (cI, 5, .inl p0_one)), (a_p0_other, .inl (cI, 5, .inl p0_other)), (a_p0_worth, .inl (cI, 5, .inl p0_worth)), (a_p0_hangs, .inl (cI, 5, .inl p0_hangs)), (a_p0_now, .inl (cI, 18, .inl p0_now))] (fun q => [(a_p0, .inr (7, [.int p0_persons, .int p0_skies, .int p0_oaths, .ref a_p0_kind, .ref a_p0_skyAt, .ref a_p0_skyLoud, .ref a_p0_one, .ref a_p0_other, .ref a_p0_worth, .ref a_p0_hangs, .ref a_p0_now, .ref a_p0_readPerson, .ref a_p0_readSky, .ref a_p0_readOath, .int p0_readPersons, .int p0_readSkies, .int p0_readOaths, .ref a_p0_text, .int p0_length, .int p0_at, .int p0_faultAt, .int p0_acts, .int p0_next, .ref a_p0_row, .int p0_told, .ref a_p0_toldAt, .ref a_p0_toldWool, .ref a_p0_toldHeard, .long p0_seed, .ref a_p0_isKept, .ref a_p0_kept])), (a_p0_kind, .inl (cI, 5, .inl p0_kind)), (a_p0_skyAt, .inl (cI, 5, .inl p0_skyAt)), (a_p0_skyLoud, .inl (cI, 5, .inl p0_skyLoud)), (a_p0_one, .inl (cI, 5, .inl p0_one)), (a_p0_other, .inl (cI, 5, .inl p0_other)), (a_p0_worth, .inl (cI, 5, .inl p0_worth)), (a_p0_hangs, .inl (cI, 5, .inl p0_hangs)), (a_p0_now, .inl (cI, 18, .inl q.2))]) (fun q => q.1) q := by
  refine CtZ.of (cc := cX7_isRest) (maxL := 5) (plainFor_of_name (by decide)) rfl (Nat.le_of_ble_eq_true rfl) ?_
  intro p e s m args below meth c A Q H ls hB hE hW hl
  have hx := hB.1
  have hb := hB.2.1
  have hml := hB.2.2.2.1
  have hown : s.vm.findClass RX7 = some m.cls := hB.2.2.2.2.1
  have hts := hB.2.2.2.2.2.1
  have hK := hB.2.2.2.2.2.2.2.1.1
  have hl : lv_has ls 5 [(0, .ref a_p0), (1, .int v1), (2, .int v2), (3, .int v3), (4, .int v4)] := hl
  unfold f_X7_isRest at hf
  refine lv_aload_n hx hb dX7_isRest_0 rfl (lv_at hl 0 rfl) ?_
  refine lv_iload_n hx hb dX7_isRest_1 rfl (lv_at hl 1 rfl) ?_
  refine lv_iload_n hx hb dX7_isRest_2 rfl (lv_at hl 2 rfl) ?_
  refine lv_iconst (v := 1) hx hb dX7_isRest_3 (by decide) ?_
  refine lv_iload_n hx hb dX7_isRest_4 rfl (lv_at hl 3 rfl) ?_
  refine lv_isub hx hb dX7_isRest_5 ?_
  refine lv_iload hx hb dX7_isRest_6 (lv_at hl 4 rfl) ?_
  obtain ⟨r_1, hr_1, hf⟩ := bnd hf
  refine q_callVI hB hW (ci := 7) (q0 := 0) rfl rfl rfl (As := [.int v1, .int v2, .int ((1 : Int32) - v3), .int v4]) (rest := []) (ws' := [(a_p0, .inr (7, [.int p0_persons, .int p0_skies, .int p0_oaths, .ref a_p0_kind, .ref a_p0_skyAt, .ref a_p0_skyLoud, .ref a_p0_one, .ref a_p0_other, .ref a_p0_worth, .ref a_p0_hangs, .ref a_p0_now, .ref a_p0_readPerson, .ref a_p0_readSky, .ref a_p0_readOath, .int p0_readPersons, .int p0_readSkies, .int p0_readOaths, .ref a_p0_text, .int p0_length, .int p0_at, .int p0_faultAt, .int p0_acts, .int p0_next, .ref a_p0_row, .int p0_told, .ref a_p0_toldAt, .ref a_p0_toldWool, .ref a_p0_toldHeard, .long p0_seed, .ref a_p0_isKept, .ref a_p0_kept])), (a_p0_kind, .inl (cI, 5, .inl p0_kind)), (a_p0_skyAt, .inl (cI, 5, .inl p0_skyAt)), (a_p0_skyLoud, .inl (cI, 5, .inl p0_skyLoud)), (a_p0_one, .inl (cI, 5, .inl p0_one)), (a_p0_other, .inl (cI, 5, .inl p0_other)), (a_p0_worth, .inl (cI, 5, .inl p0_worth)), (a_p0_hangs, .inl (cI, 5, .inl p0_hangs)), (a_p0_now, .inl (cI, 18, .inl r_1.2))]) (c_X7_gain l D cI cZ a_p0 a_p0_kind a_p0_skyAt a_p0_skyLoud a_p0_one a_p0_other a_p0_worth a_p0_hangs a_p0_now a_p0_readPerson a_p0_readSky a_p0_readOath a_p0_text a_p0_row a_p0_toldAt a_p0_toldWool a_p0_toldHeard a_p0_isKept a_p0_kept p0_persons p0_skies p0_oaths p0_readPersons p0_readSkies p0_readOaths p0_length p0_at p0_faultAt p0_acts p0_next p0_told p0_seed p0_kind p0_skyAt p0_skyLoud p0_one p0_other p0_worth p0_hangs p0_now v1 v2 ((1 : Int32) - v3) v4 r_1 hr_1) (cwV 4 hts gX7_isRest_X7_gain rfl rfl rfl (by decide +kernel) ⟨Nat.le_of_ble_eq_true rfl, Nat.le_of_ble_eq_true rfl⟩) [0, 1, 2, 3, 4, 5, 6, 7, 8] rfl rfl rfl rfl rfl hl.1 rfl (Nat.le_of_ble_eq_true rfl) ⟨Nat.le_of_ble_eq_true rfl, Nat.le_of_ble_eq_true rfl⟩ dX7_isRest_8 (fun H locs hW => ?_)
  refine lv_aload_n hx hb dX7_isRest_11 rfl (lv_at hl 0 rfl) ?_
  refine lv_iload_n hx hb dX7_isRest_12 rfl (lv_at hl 1 rfl) ?_
  refine lv_iload_n hx hb dX7_isRest_13 rfl (lv_at hl 2 rfl) ?_
  refine lv_iload_n hx hb dX7_isRest_14 rfl (lv_at hl 3 rfl) ?_
  refine lv_iload hx hb dX7_isRest_15 (lv_at hl 4 rfl) ?_
  obtain ⟨r_2, hr_2, hf⟩ := bnd hf
  refine q_callVI hB hW (ci := 7) (q0 := 0) rfl rfl rfl (As := [.int v1, .int v2, .int v3, .int v4]) (rest := [.int r_1.1]) (ws' := [(a_p0, .inr (7, [.int p0_persons, .int p0_skies, .int p0_oaths, .ref a_p0_kind, .ref a_p0_skyAt, .ref a_p0_skyLoud, .ref a_p0_one, .ref a_p0_other, .ref a_p0_worth, .ref a_p0_hangs, .ref a_p0_now, .ref a_p0_readPerson, .ref a_p0_readSky, .ref a_p0_readOath, .int p0_readPersons, .int p0_readSkies, .int p0_readOaths, .ref a_p0_text, .int p0_length, .int p0_at, .int p0_faultAt, .int p0_acts, .int p0_next, .ref a_p0_row, .int p0_told, .ref a_p0_toldAt, .ref a_p0_toldWool, .ref a_p0_toldHeard, .long p0_seed, .ref a_p0_isKept, .ref a_p0_kept])), (a_p0_kind, .inl (cI, 5, .inl p0_kind)), (a_p0_skyAt, .inl (cI, 5, .inl p0_skyAt)), (a_p0_skyLoud, .inl (cI, 5, .inl p0_skyLoud)), (a_p0_one, .inl (cI, 5, .inl p0_one)), (a_p0_other, .inl (cI, 5, .inl p0_other)), (a_p0_worth, .inl (cI, 5, .inl p0_worth)), (a_p0_hangs, .inl (cI, 5, .inl p0_hangs)), (a_p0_now, .inl (cI, 18, .inl r_2.2))]) (c_X7_gain l D cI cZ a_p0 a_p0_kind a_p0_skyAt a_p0_skyLoud a_p0_one a_p0_other a_p0_worth a_p0_hangs a_p0_now a_p0_readPerson a_p0_readSky a_p0_readOath a_p0_text a_p0_row a_p0_toldAt a_p0_toldWool a_p0_toldHeard a_p0_isKept a_p0_kept p0_persons p0_skies p0_oaths p0_readPersons p0_readSkies p0_readOaths p0_length p0_at p0_faultAt p0_acts p0_next p0_told p0_seed p0_kind p0_skyAt p0_skyLoud p0_one p0_other p0_worth p0_hangs r_1.2 v1 v2 v3 v4 r_2 hr_2) (cwV 4 hts gX7_isRest_X7_gain rfl rfl rfl (by decide +kernel) ⟨Nat.le_of_ble_eq_true rfl, Nat.le_of_ble_eq_true rfl⟩) [0, 1, 2, 3, 4, 5, 6, 7, 8] rfl rfl rfl rfl rfl hl.1 rfl (Nat.le_of_ble_eq_true rfl) ⟨Nat.le_of_ble_eq_true rfl, Nat.le_of_ble_eq_true rfl⟩ dX7_isRest_17 (fun H locs hW => ?_)
  refine lv_icmp_gt (tgt := 50) hx hb dX7_isRest_20 (by decide) (fun c_3 => ?_) (fun c_3 => ?_)
  · have hf := it_t c_3 hf
    refine lv_iconst (v := 0) hx hb dX7_isRest_50 (by decide) ?_
    exact hE _ _ _ _ _ ((0 : Int32), r_2.2) (sm hf) hW rfl nz_0 dX7_isRest_51
  · have hf := it_f c_3 hf
    refine lv_aload_n hx hb dX7_isRest_23 rfl (lv_at hl 0 rfl) ?_
    refine lv_iload_n hx hb dX7_isRest_24 rfl (lv_at hl 2 rfl) ?_
    refine lv_iload_n hx hb dX7_isRest_25 rfl (lv_at hl 1 rfl) ?_
    refine lv_iconst (v := 1) hx hb dX7_isRest_26 (by decide) ?_
    refine lv_iload hx hb dX7_isRest_27 (lv_at hl 4 rfl) ?_
    refine lv_isub hx hb dX7_isRest_29 ?_
    refine lv_iload_n hx hb dX7_isRest_30 rfl (lv_at hl 3 rfl) ?_
    obtain ⟨r_4, hr_4, hf⟩ := bnd hf
    refine q_callVI hB hW (ci := 7) (q0 := 0) rfl rfl rfl (As := [.int v2, .int v1, .int ((1 : Int32) - v4), .int v3]) (rest := []) (ws' := [(a_p0, .inr (7, [.int p0_persons, .int p0_skies, .int p0_oaths, .ref a_p0_kind, .ref a_p0_skyAt, .ref a_p0_skyLoud, .ref a_p0_one, .ref a_p0_other, .ref a_p0_worth, .ref a_p0_hangs, .ref a_p0_now, .ref a_p0_readPerson, .ref a_p0_readSky, .ref a_p0_readOath, .int p0_readPersons, .int p0_readSkies, .int p0_readOaths, .ref a_p0_text, .int p0_length, .int p0_at, .int p0_faultAt, .int p0_acts, .int p0_next, .ref a_p0_row, .int p0_told, .ref a_p0_toldAt, .ref a_p0_toldWool, .ref a_p0_toldHeard, .long p0_seed, .ref a_p0_isKept, .ref a_p0_kept])), (a_p0_kind, .inl (cI, 5, .inl p0_kind)), (a_p0_skyAt, .inl (cI, 5, .inl p0_skyAt)), (a_p0_skyLoud, .inl (cI, 5, .inl p0_skyLoud)), (a_p0_one, .inl (cI, 5, .inl p0_one)), (a_p0_other, .inl (cI, 5, .inl p0_other)), (a_p0_worth, .inl (cI, 5, .inl p0_worth)), (a_p0_hangs, .inl (cI, 5, .inl p0_hangs)), (a_p0_now, .inl (cI, 18, .inl r_4.2))]) (c_X7_gain l D cI cZ a_p0 a_p0_kind a_p0_skyAt a_p0_skyLoud a_p0_one a_p0_other a_p0_worth a_p0_hangs a_p0_now a_p0_readPerson a_p0_readSky a_p0_readOath a_p0_text a_p0_row a_p0_toldAt a_p0_toldWool a_p0_toldHeard a_p0_isKept a_p0_kept p0_persons p0_skies p0_oaths p0_readPersons p0_readSkies p0_readOaths p0_length p0_at p0_faultAt p0_acts p0_next p0_told p0_seed p0_kind p0_skyAt p0_skyLoud p0_one p0_other p0_worth p0_hangs r_2.2 v2 v1 ((1 : Int32) - v4) v3 r_4 hr_4) (cwV 4 hts gX7_isRest_X7_gain rfl rfl rfl (by decide +kernel) ⟨Nat.le_of_ble_eq_true rfl, Nat.le_of_ble_eq_true rfl⟩) [0, 1, 2, 3, 4, 5, 6, 7, 8] rfl rfl rfl rfl rfl hl.1 rfl (Nat.le_of_ble_eq_true rfl) ⟨Nat.le_of_ble_eq_true rfl, Nat.le_of_ble_eq_true rfl⟩ dX7_isRest_31 (fun H locs hW => ?_)
    refine lv_aload_n hx hb dX7_isRest_34 rfl (lv_at hl 0 rfl) ?_
    refine lv_iload_n hx hb dX7_isRest_35 rfl (lv_at hl 2 rfl) ?_
    refine lv_iload_n hx hb dX7_isRest_36 rfl (lv_at hl 1 rfl) ?_
    refine lv_iload hx hb dX7_isRest_37 (lv_at hl 4 rfl) ?_
    refine lv_iload_n hx hb dX7_isRest_39 rfl (lv_at hl 3 rfl) ?_
    obtain ⟨r_5, hr_5, hf⟩ := bnd hf
    refine q_callVI hB hW (ci := 7) (q0 := 0) rfl rfl rfl (As := [.int v2, .int v1, .int v4, .int v3]) (rest := [.int r_4.1]) (ws' := [(a_p0, .inr (7, [.int p0_persons, .int p0_skies, .int p0_oaths, .ref a_p0_kind, .ref a_p0_skyAt, .ref a_p0_skyLoud, .ref a_p0_one, .ref a_p0_other, .ref a_p0_worth, .ref a_p0_hangs, .ref a_p0_now, .ref a_p0_readPerson, .ref a_p0_readSky, .ref a_p0_readOath, .int p0_readPersons, .int p0_readSkies, .int p0_readOaths, .ref a_p0_text, .int p0_length, .int p0_at, .int p0_faultAt, .int p0_acts, .int p0_next, .ref a_p0_row, .int p0_told, .ref a_p0_toldAt, .ref a_p0_toldWool, .ref a_p0_toldHeard, .long p0_seed, .ref a_p0_isKept, .ref a_p0_kept])), (a_p0_kind, .inl (cI, 5, .inl p0_kind)), (a_p0_skyAt, .inl (cI, 5, .inl p0_skyAt)), (a_p0_skyLoud, .inl (cI, 5, .inl p0_skyLoud)), (a_p0_one, .inl (cI, 5, .inl p0_one)), (a_p0_other, .inl (cI, 5, .inl p0_other)), (a_p0_worth, .inl (cI, 5, .inl p0_worth)), (a_p0_hangs, .inl (cI, 5, .inl p0_hangs)), (a_p0_now, .inl (cI, 18, .inl r_5.2))]) (c_X7_gain l D cI cZ a_p0 a_p0_kind a_p0_skyAt a_p0_skyLoud a_p0_one a_p0_other a_p0_worth a_p0_hangs a_p0_now a_p0_readPerson a_p0_readSky a_p0_readOath a_p0_text a_p0_row a_p0_toldAt a_p0_toldWool a_p0_toldHeard a_p0_isKept a_p0_kept p0_persons p0_skies p0_oaths p0_readPersons p0_readSkies p0_readOaths p0_length p0_at p0_faultAt p0_acts p0_next p0_told p0_seed p0_kind p0_skyAt p0_skyLoud p0_one p0_other p0_worth p0_hangs r_4.2 v2 v1 v4 v3 r_5 hr_5) (cwV 4 hts gX7_isRest_X7_gain rfl rfl rfl (by decide +kernel) ⟨Nat.le_of_ble_eq_true rfl, Nat.le_of_ble_eq_true rfl⟩) [0, 1, 2, 3, 4, 5, 6, 7, 8] rfl rfl rfl rfl rfl hl.1 rfl (Nat.le_of_ble_eq_true rfl) ⟨Nat.le_of_ble_eq_true rfl, Nat.le_of_ble_eq_true rfl⟩ dX7_isRest_40 (fun H locs hW => ?_)
    refine lv_icmp_gt (tgt := 50) hx hb dX7_isRest_43 (by decide) (fun c_6 => ?_) (fun c_6 => ?_)
    · have hf := it_t c_6 hf
      refine lv_iconst (v := 0) hx hb dX7_isRest_50 (by decide) ?_
      exact hE _ _ _ _ _ ((0 : Int32), r_5.2) (sm hf) hW rfl nz_0 dX7_isRest_51
    · have hf := it_f c_6 hf
      refine lv_iconst (v := 1) hx hb dX7_isRest_46 (by decide) ?_
      refine lv_goto (tgt := 51) hx hb dX7_isRest_47 (by decide) ?_
      exact hE _ _ _ _ _ ((1 : Int32), r_5.2) (sm hf) hW rfl nz_1 dX7_isRest_51
def b_X7_rests_69 (v1 : Int32) (v2 : Int32) (v3 : Int32) (p0_persons : Int32) (p0_skies : Int32) (p0_oaths : Int32) (p0_kind : Nat → Int32) (p0_skyAt : Nat → Int32) (p0_skyLoud : Nat → Int32) (p0_one : Nat → Int32) (p0_other : Nat → Int32) (p0_worth : Nat → Int32) (p0_hangs : Nat → Int32) (v4 : Int32) (v5 : Int32) (v6 : Int32) (p0_now : Nat → Int32) : Option ((Int32 × Int32 × Int32 × (Nat → Int32)) ⊕ (Int32 × Int32 × (Nat → Int32))) := if (4 : Int32) ≤ v6 then some (.inr (v4, v5, p0_now)) else (f_X7_isRest v1 v2 (v6 / (2 : Int32)) (v6 - v6 / (2 : Int32) * (2 : Int32)) p0_persons p0_skies p0_oaths p0_kind p0_skyAt p0_skyLoud p0_one p0_other p0_worth p0_hangs p0_now).bind fun r_571 => if r_571.1 = (0 : Int32) then some (.inl (v4, v5, (v6 + (1 : Int32)), r_571.2)) else if v4 = (0 : Int32) then (some (((10 : Int32) * (v6 / (2 : Int32))) + (v6 - v6 / (2 : Int32) * (2 : Int32)))).bind fun w_574 => some (.inl ((v4 + (1 : Int32)), w_574, (v6 + (1 : Int32)), r_571.2)) else some (.inl ((v4 + (1 : Int32)), v5, (v6 + (1 : Int32)), r_571.2))
def f_X7_rests (v1 : Int32) (v2 : Int32) (v3 : Int32) (p0_persons : Int32) (p0_skies : Int32) (p0_oaths : Int32) (p0_kind : Nat → Int32) (p0_skyAt : Nat → Int32) (p0_skyLoud : Nat → Int32) (p0_one : Nat → Int32) (p0_other : Nat → Int32) (p0_worth : Nat → Int32) (p0_hangs : Nat → Int32) (p0_now : Nat → Int32) : Option (Int32 × (Nat → Int32)) := (f_X7_isPerson v1 p0_persons).bind fun r_1 => if r_1 = (0 : Int32) then some ((-1 : Int32), p0_now) else (f_X7_isPerson v2 p0_persons).bind fun r_3 => if r_3 = (0 : Int32) then some ((-1 : Int32), p0_now) else if v1 = v2 then some ((-2 : Int32), p0_now) else (f_X7_in (Int32.toInt64 v3) (0 : Int64) (1 : Int64)).bind fun r_6 => if r_6 = (0 : Int32) then some ((-2 : Int32), p0_now) else (ald p0_kind 5 v1).bind fun r_8 => if r_8 = (2 : Int32) then some ((-3 : Int32), p0_now) else (ald p0_kind 5 v2).bind fun r_10 => if r_10 = (2 : Int32) then some ((-3 : Int32), p0_now) else (itr (fun s => b_X7_rests_69 v1 v2 v3 p0_persons p0_skies p0_oaths p0_kind p0_skyAt p0_skyLoud p0_one p0_other p0_worth p0_hangs s.1 s.2.1 s.2.2.1 s.2.2.2) FU ((0 : Int32), (-9 : Int32), (0 : Int32), p0_now)).bind fun x_69 => if v3 = (0 : Int32) then some (x_69.1, x_69.2.2) else some (x_69.2.1, x_69.2.2)
set_option maxHeartbeats 4000000 in
set_option maxRecDepth 100000 in
theorem c_X7_rests (l : Launch) (D : va_G) (cI cZ : ClassId) (a_p0 a_p0_kind a_p0_skyAt a_p0_skyLoud a_p0_one a_p0_other a_p0_worth a_p0_hangs a_p0_now a_p0_readPerson a_p0_readSky a_p0_readOath a_p0_text a_p0_row a_p0_toldAt a_p0_toldWool a_p0_toldHeard a_p0_isKept a_p0_kept : Nat) (p0_persons : Int32) (p0_skies : Int32) (p0_oaths : Int32) (p0_readPersons : Int32) (p0_readSkies : Int32) (p0_readOaths : Int32) (p0_length : Int32) (p0_at : Int32) (p0_faultAt : Int32) (p0_acts : Int32) (p0_next : Int32) (p0_told : Int32) (p0_seed : Int64) (p0_kind : Nat → Int32) (p0_skyAt : Nat → Int32) (p0_skyLoud : Nat → Int32) (p0_one : Nat → Int32) (p0_other : Nat → Int32) (p0_worth : Nat → Int32) (p0_hangs : Nat → Int32) (p0_now : Nat → Int32) (v1 : Int32) (v2 : Int32) (v3 : Int32) (q : Int32 × (Nat → Int32)) (hf : f_X7_rests v1 v2 v3 p0_persons p0_skies p0_oaths p0_kind p0_skyAt p0_skyLoud p0_one p0_other p0_worth p0_hangs p0_now = some q) : CtI l D cI cZ yX7_rests wsX7_rests 7 174 [.ref a_p0, .int v1, .int v2, .int v3] [(a_p0, .inr (7, [.int p0_persons, .int p0_skies, .int p0_oaths, .ref a_p0_kind, .ref a_p0_skyAt, .ref a_p0_skyLoud, .ref a_p0_one, .ref a_p0_other, .ref a_p0_worth, .ref a_p0_hangs, .ref a_p0_now, .ref a_p0_readPerson, .ref a_p0_readSky, .ref a_p0_readOath, .int p0_readPersons, .int p0_readSkies, .int p0_readOaths, .ref a_p0_text, .int p0_length, .int p0_at, .int p0_faultAt, .int p0_acts, .int p0_next, .ref a_p0_row, .int p0_told, .ref a_p0_toldAt, .ref a_p0_toldWool, .ref a_p0_toldHeard, .long p0_seed, .ref a_p0_isKept, .ref a_p0_kept])), (a_p0_kind, .inl (cI, 5, .inl p0_kind)), (a_p0_skyAt, .inl (cI, 5, .inl p0_skyAt)), (a_p0_skyLoud, .inl (cI, 5, .inl p0_skyLoud)), (a_p0_one, .inl (cI, 5, .inl p0_one)), (a_p0_other, .inl (cI, 5, .inl p0_other)), (a_p0_worth, .inl (cI, 5, .inl p0_worth)), (a_p0_hangs, .inl (cI, 5, .inl p0_hangs)), (a_p0_now, .inl (cI, 18, .inl p0_now))] (fun q => [(a_p0, .inr (7, [.int p0_persons, .int p0_skies, .int p0_oaths, .ref a_p0_kind, .ref a_p0_skyAt, .ref a_p0_skyLoud, .ref a_p0_one, .ref a_p0_other, .ref a_p0_worth, .ref a_p0_hangs, .ref a_p0_now, .ref a_p0_readPerson, .ref a_p0_readSky, .ref a_p0_readOath, .int p0_readPersons, .int p0_readSkies, .int p0_readOaths, .ref a_p0_text, .int p0_length, .int p0_at, .int p0_faultAt, .int p0_acts, .int p0_next, .ref a_p0_row, .int p0_told, .ref a_p0_toldAt, .ref a_p0_toldWool, .ref a_p0_toldHeard, .long p0_seed, .ref a_p0_isKept, .ref a_p0_kept])), (a_p0_kind, .inl (cI, 5, .inl p0_kind)), (a_p0_skyAt, .inl (cI, 5, .inl p0_skyAt)), (a_p0_skyLoud, .inl (cI, 5, .inl p0_skyLoud)), (a_p0_one, .inl (cI, 5, .inl p0_one)), (a_p0_other, .inl (cI, 5, .inl p0_other)), (a_p0_worth, .inl (cI, 5, .inl p0_worth)), (a_p0_hangs, .inl (cI, 5, .inl p0_hangs)), (a_p0_now, .inl (cI, 18, .inl q.2))]) (fun q => q.1) q := by
  refine CtI.of (cc := cX7_rests) (maxL := 7) (plainFor_of_name (by decide)) rfl (Nat.le_of_ble_eq_true rfl) ?_
  intro p e s m args below meth c A Q H ls hB hE hW hl
  have hx := hB.1
  have hb := hB.2.1
  have hml := hB.2.2.2.1
  have hown : s.vm.findClass RX7 = some m.cls := hB.2.2.2.2.1
  have hts := hB.2.2.2.2.2.1
  have hK := hB.2.2.2.2.2.2.2.1.1
  have hl : lv_has ls 7 [(0, .ref a_p0), (1, .int v1), (2, .int v2), (3, .int v3)] := hl
  have in_X7 : ∀ w ∈ wsX70, w ∈ wsX7_rests := fun w h => List.mem_cons_of_mem _ (List.mem_append_right _ h)
  have fl_7 : (Cond.fieldLink RX7 7 (TX7 3).1 (TX7 3).2.1 (TX7 3).2.2.1).before args s = true := hts (.fieldLink RX7 7 "ClapOathsModel" "kind" "[I") (by decide +kernel)
  unfold f_X7_rests at hf
  refine lv_aload_n hx hb dX7_rests_0 rfl (lv_at hl 0 rfl) ?_
  refine lv_iload_n hx hb dX7_rests_1 rfl (lv_at hl 1 rfl) ?_
  obtain ⟨r_1, hr_1, hf⟩ := bnd hf
  refine q_callVZ hB hW (ci := 7) (q0 := 0) rfl rfl rfl (As := [.int v1]) (rest := []) (ws' := [(a_p0, .inr (7, [.int p0_persons, .int p0_skies, .int p0_oaths, .ref a_p0_kind, .ref a_p0_skyAt, .ref a_p0_skyLoud, .ref a_p0_one, .ref a_p0_other, .ref a_p0_worth, .ref a_p0_hangs, .ref a_p0_now, .ref a_p0_readPerson, .ref a_p0_readSky, .ref a_p0_readOath, .int p0_readPersons, .int p0_readSkies, .int p0_readOaths, .ref a_p0_text, .int p0_length, .int p0_at, .int p0_faultAt, .int p0_acts, .int p0_next, .ref a_p0_row, .int p0_told, .ref a_p0_toldAt, .ref a_p0_toldWool, .ref a_p0_toldHeard, .long p0_seed, .ref a_p0_isKept, .ref a_p0_kept])), (a_p0_kind, .inl (cI, 5, .inl p0_kind)), (a_p0_skyAt, .inl (cI, 5, .inl p0_skyAt)), (a_p0_skyLoud, .inl (cI, 5, .inl p0_skyLoud)), (a_p0_one, .inl (cI, 5, .inl p0_one)), (a_p0_other, .inl (cI, 5, .inl p0_other)), (a_p0_worth, .inl (cI, 5, .inl p0_worth)), (a_p0_hangs, .inl (cI, 5, .inl p0_hangs)), (a_p0_now, .inl (cI, 18, .inl p0_now))]) (c_X7_isPerson l D cI cZ a_p0 a_p0_kind a_p0_skyAt a_p0_skyLoud a_p0_one a_p0_other a_p0_worth a_p0_hangs a_p0_now a_p0_readPerson a_p0_readSky a_p0_readOath a_p0_text a_p0_row a_p0_toldAt a_p0_toldWool a_p0_toldHeard a_p0_isKept a_p0_kept p0_persons p0_skies p0_oaths p0_readPersons p0_readSkies p0_readOaths p0_length p0_at p0_faultAt p0_acts p0_next p0_told p0_seed v1 r_1 hr_1) (cwV 1 hts gX7_rests_X7_isPerson rfl rfl rfl (by decide +kernel) ⟨Nat.le_of_ble_eq_true rfl, Nat.le_of_ble_eq_true rfl⟩) [0] rfl rfl rfl rfl rfl hl.1 rfl (Nat.le_of_ble_eq_true rfl) ⟨Nat.le_of_ble_eq_true rfl, Nat.le_of_ble_eq_true rfl⟩ dX7_rests_2 (fun hzr_1 H locs hW => ?_)
  refine lv_if_eq (tgt := 16) hx hb dX7_rests_5 (by decide) (fun c_2 => ?_) (fun c_2 => ?_)
  · have hf := it_t c_2 hf
    refine lv_iconst (v := -1) hx hb dX7_rests_16 (by decide) ?_
    exact hE _ _ _ _ _ ((-1 : Int32), p0_now) (sm hf) hW rfl dX7_rests_17
  · have hf := it_f c_2 hf
    refine lv_aload_n hx hb dX7_rests_8 rfl (lv_at hl 0 rfl) ?_
    refine lv_iload_n hx hb dX7_rests_9 rfl (lv_at hl 2 rfl) ?_
    obtain ⟨r_3, hr_3, hf⟩ := bnd hf
    refine q_callVZ hB hW (ci := 7) (q0 := 0) rfl rfl rfl (As := [.int v2]) (rest := []) (ws' := [(a_p0, .inr (7, [.int p0_persons, .int p0_skies, .int p0_oaths, .ref a_p0_kind, .ref a_p0_skyAt, .ref a_p0_skyLoud, .ref a_p0_one, .ref a_p0_other, .ref a_p0_worth, .ref a_p0_hangs, .ref a_p0_now, .ref a_p0_readPerson, .ref a_p0_readSky, .ref a_p0_readOath, .int p0_readPersons, .int p0_readSkies, .int p0_readOaths, .ref a_p0_text, .int p0_length, .int p0_at, .int p0_faultAt, .int p0_acts, .int p0_next, .ref a_p0_row, .int p0_told, .ref a_p0_toldAt, .ref a_p0_toldWool, .ref a_p0_toldHeard, .long p0_seed, .ref a_p0_isKept, .ref a_p0_kept])), (a_p0_kind, .inl (cI, 5, .inl p0_kind)), (a_p0_skyAt, .inl (cI, 5, .inl p0_skyAt)), (a_p0_skyLoud, .inl (cI, 5, .inl p0_skyLoud)), (a_p0_one, .inl (cI, 5, .inl p0_one)), (a_p0_other, .inl (cI, 5, .inl p0_other)), (a_p0_worth, .inl (cI, 5, .inl p0_worth)), (a_p0_hangs, .inl (cI, 5, .inl p0_hangs)), (a_p0_now, .inl (cI, 18, .inl p0_now))]) (c_X7_isPerson l D cI cZ a_p0 a_p0_kind a_p0_skyAt a_p0_skyLoud a_p0_one a_p0_other a_p0_worth a_p0_hangs a_p0_now a_p0_readPerson a_p0_readSky a_p0_readOath a_p0_text a_p0_row a_p0_toldAt a_p0_toldWool a_p0_toldHeard a_p0_isKept a_p0_kept p0_persons p0_skies p0_oaths p0_readPersons p0_readSkies p0_readOaths p0_length p0_at p0_faultAt p0_acts p0_next p0_told p0_seed v2 r_3 hr_3) (cwV 1 hts gX7_rests_X7_isPerson rfl rfl rfl (by decide +kernel) ⟨Nat.le_of_ble_eq_true rfl, Nat.le_of_ble_eq_true rfl⟩) [0] rfl rfl rfl rfl rfl hl.1 rfl (Nat.le_of_ble_eq_true rfl) ⟨Nat.le_of_ble_eq_true rfl, Nat.le_of_ble_eq_true rfl⟩ dX7_rests_10 (fun hzr_3 H locs hW => ?_)
    refine lv_if_ne (tgt := 18) hx hb dX7_rests_13 (by decide) (fun c_4 => ?_) (fun c_4 => ?_)
    · have hf := it_f c_4 hf
      refine lv_iload_n hx hb dX7_rests_18 rfl (lv_at hl 1 rfl) ?_
      refine lv_iload_n hx hb dX7_rests_19 rfl (lv_at hl 2 rfl) ?_
      refine lv_icmp_eq (tgt := 33) hx hb dX7_rests_20 (by decide) (fun c_5 => ?_) (fun c_5 => ?_)
      · have hf := it_t c_5 hf
        refine lv_bipush (v := -2) hx hb dX7_rests_33 (by decide) ?_
        exact hE _ _ _ _ _ ((-2 : Int32), p0_now) (sm hf) hW rfl dX7_rests_35
      · have hf := it_f c_5 hf
        refine lv_iload_n hx hb dX7_rests_23 rfl (lv_at hl 3 rfl) ?_
        refine lv_i2l (v := (Int32.toInt64 v3)) hx hb dX7_rests_24 rfl ?_
        refine lv_lconst (v := 0) hx hb dX7_rests_25 (by decide) ?_
        refine lv_lconst (v := 1) hx hb dX7_rests_26 (by decide) ?_
        obtain ⟨r_6, hr_6, hf⟩ := bnd hf
        refine q_callSZ hB hW (As := [.long (Int32.toInt64 v3), .long (0 : Int64), .long (1 : Int64)]) (rest := []) (ws' := [(a_p0, .inr (7, [.int p0_persons, .int p0_skies, .int p0_oaths, .ref a_p0_kind, .ref a_p0_skyAt, .ref a_p0_skyLoud, .ref a_p0_one, .ref a_p0_other, .ref a_p0_worth, .ref a_p0_hangs, .ref a_p0_now, .ref a_p0_readPerson, .ref a_p0_readSky, .ref a_p0_readOath, .int p0_readPersons, .int p0_readSkies, .int p0_readOaths, .ref a_p0_text, .int p0_length, .int p0_at, .int p0_faultAt, .int p0_acts, .int p0_next, .ref a_p0_row, .int p0_told, .ref a_p0_toldAt, .ref a_p0_toldWool, .ref a_p0_toldHeard, .long p0_seed, .ref a_p0_isKept, .ref a_p0_kept])), (a_p0_kind, .inl (cI, 5, .inl p0_kind)), (a_p0_skyAt, .inl (cI, 5, .inl p0_skyAt)), (a_p0_skyLoud, .inl (cI, 5, .inl p0_skyLoud)), (a_p0_one, .inl (cI, 5, .inl p0_one)), (a_p0_other, .inl (cI, 5, .inl p0_other)), (a_p0_worth, .inl (cI, 5, .inl p0_worth)), (a_p0_hangs, .inl (cI, 5, .inl p0_hangs)), (a_p0_now, .inl (cI, 18, .inl p0_now))]) (c_X7_in l D cI cZ (Int32.toInt64 v3) (0 : Int64) (1 : Int64) r_6 hr_6) (va_cwS 3 hts gX7_rests_X7_in rfl rfl rfl (by decide +kernel) ⟨Nat.le_of_ble_eq_true rfl, Nat.le_of_ble_eq_true rfl⟩) [] rfl rfl rfl rfl rfl hl.1 rfl (Nat.le_of_ble_eq_true rfl) ⟨Nat.le_of_ble_eq_true rfl, Nat.le_of_ble_eq_true rfl⟩ dX7_rests_27 (fun hzr_6 H locs hW => ?_)
        refine lv_if_ne (tgt := 36) hx hb dX7_rests_30 (by decide) (fun c_7 => ?_) (fun c_7 => ?_)
        · have hf := it_f c_7 hf
          refine lv_aload_n hx hb dX7_rests_36 rfl (lv_at hl 0 rfl) ?_
          refine q_get hB hW 7 in_X7 0 rfl rfl 3 (by decide) fl_7 (v := .ref a_p0_kind) rfl dX7_rests_37 ?_
          refine lv_iload_n hx hb dX7_rests_40 rfl (lv_at hl 1 rfl) ?_
          obtain ⟨r_8, hr_8, hf⟩ := bnd hf
          refine q_iald hB hW 1 rfl hr_8 dX7_rests_41 ?_
          refine lv_iconst (v := 2) hx hb dX7_rests_42 (by decide) ?_
          refine lv_icmp_eq (tgt := 56) hx hb dX7_rests_43 (by decide) (fun c_9 => ?_) (fun c_9 => ?_)
          · have hf := it_t c_9 hf
            refine lv_bipush (v := -3) hx hb dX7_rests_56 (by decide) ?_
            exact hE _ _ _ _ _ ((-3 : Int32), p0_now) (sm hf) hW rfl dX7_rests_58
          · have hf := it_f c_9 hf
            refine lv_aload_n hx hb dX7_rests_46 rfl (lv_at hl 0 rfl) ?_
            refine q_get hB hW 7 in_X7 0 rfl rfl 3 (by decide) fl_7 (v := .ref a_p0_kind) rfl dX7_rests_47 ?_
            refine lv_iload_n hx hb dX7_rests_50 rfl (lv_at hl 2 rfl) ?_
            obtain ⟨r_10, hr_10, hf⟩ := bnd hf
            refine q_iald hB hW 1 rfl hr_10 dX7_rests_51 ?_
            refine lv_iconst (v := 2) hx hb dX7_rests_52 (by decide) ?_
            refine lv_icmp_ne (tgt := 59) hx hb dX7_rests_53 (by decide) (fun c_11 => ?_) (fun c_11 => ?_)
            · have hf := it_f c_11 hf
              refine lv_iconst (v := 0) hx hb dX7_rests_59 (by decide) ?_
              refine lv_istore (lv' := [(4, .int (0 : Int32)), (0, .ref a_p0), (1, .int v1), (2, .int v2), (3, .int v3)]) hx hb dX7_rests_60 hl (by decide) rfl (fun ls hl => ?_)
              refine lv_bipush (v := -9) hx hb dX7_rests_62 (by decide) ?_
              refine lv_istore (lv' := [(5, .int (-9 : Int32)), (4, .int (0 : Int32)), (0, .ref a_p0), (1, .int v1), (2, .int v2), (3, .int v3)]) hx hb dX7_rests_64 hl (by decide) rfl (fun ls hl => ?_)
              refine lv_iconst (v := 0) hx hb dX7_rests_66 (by decide) ?_
              refine lv_istore (lv' := [(6, .int (0 : Int32)), (5, .int (-9 : Int32)), (4, .int (0 : Int32)), (0, .ref a_p0), (1, .int v1), (2, .int v2), (3, .int v3)]) hx hb dX7_rests_67 hl (by decide) rfl (fun ls hl => ?_)
              obtain ⟨e_69, hl_69, hk_69⟩ := bnd hf
              have K_69 : ∀ x_69 : Int32 × Int32 × (Nat → Int32), x_69 = e_69 → ∀ (H : Heap) (locs : List Loc) (ls : Array Slot), Wl D A s.heap [(a_p0, .inr (7, [.int p0_persons, .int p0_skies, .int p0_oaths, .ref a_p0_kind, .ref a_p0_skyAt, .ref a_p0_skyLoud, .ref a_p0_one, .ref a_p0_other, .ref a_p0_worth, .ref a_p0_hangs, .ref a_p0_now, .ref a_p0_readPerson, .ref a_p0_readSky, .ref a_p0_readOath, .int p0_readPersons, .int p0_readSkies, .int p0_readOaths, .ref a_p0_text, .int p0_length, .int p0_at, .int p0_faultAt, .int p0_acts, .int p0_next, .ref a_p0_row, .int p0_told, .ref a_p0_toldAt, .ref a_p0_toldWool, .ref a_p0_toldHeard, .long p0_seed, .ref a_p0_isKept, .ref a_p0_kept])), (a_p0_kind, .inl (cI, 5, .inl p0_kind)), (a_p0_skyAt, .inl (cI, 5, .inl p0_skyAt)), (a_p0_skyLoud, .inl (cI, 5, .inl p0_skyLoud)), (a_p0_one, .inl (cI, 5, .inl p0_one)), (a_p0_other, .inl (cI, 5, .inl p0_other)), (a_p0_worth, .inl (cI, 5, .inl p0_worth)), (a_p0_hangs, .inl (cI, 5, .inl p0_hangs)), (a_p0_now, .inl (cI, 18, .inl x_69.2.2))] H locs → lv_has ls 7 [(3, .int v3), (4, .int x_69.1), (5, .int x_69.2.1)] → W p l e (Rm 7 174) s m args below meth c H locs 0 0 Q (F0 m 125 ls []) := by
                intro x_69 hx_69 H locs ls hW hl
                have hf := hk_69
                rw [← hx_69] at hf
                refine lv_iload_n hx hb dX7_rests_125 rfl (lv_at hl 0 rfl) ?_
                refine lv_if_ne (tgt := 134) hx hb dX7_rests_126 (by decide) (fun c_12 => ?_) (fun c_12 => ?_)
                · have hf := it_f c_12 hf
                  refine lv_iload hx hb dX7_rests_134 (lv_at hl 2 rfl) ?_
                  exact hE _ _ _ _ _ (x_69.2.1, x_69.2.2) (sm hf) hW rfl dX7_rests_136
                · have hf := it_t c_12 hf
                  refine lv_iload hx hb dX7_rests_129 (lv_at hl 1 rfl) ?_
                  refine lv_goto (tgt := 136) hx hb dX7_rests_131 (by decide) ?_
                  exact hE _ _ _ _ _ (x_69.1, x_69.2.2) (sm hf) hW rfl dX7_rests_136
              have L_69 : ∀ (n : Nat) (y69_4 : Int32) (y69_5 : Int32) (y69_6 : Int32) (y69_p0_now : Nat → Int32) (H : Heap) (locs : List Loc) (ls : Array Slot), itr (fun s => b_X7_rests_69 v1 v2 v3 p0_persons p0_skies p0_oaths p0_kind p0_skyAt p0_skyLoud p0_one p0_other p0_worth p0_hangs s.1 s.2.1 s.2.2.1 s.2.2.2) n (y69_4, y69_5, y69_6, y69_p0_now) = some e_69 → Wl D A s.heap [(a_p0, .inr (7, [.int p0_persons, .int p0_skies, .int p0_oaths, .ref a_p0_kind, .ref a_p0_skyAt, .ref a_p0_skyLoud, .ref a_p0_one, .ref a_p0_other, .ref a_p0_worth, .ref a_p0_hangs, .ref a_p0_now, .ref a_p0_readPerson, .ref a_p0_readSky, .ref a_p0_readOath, .int p0_readPersons, .int p0_readSkies, .int p0_readOaths, .ref a_p0_text, .int p0_length, .int p0_at, .int p0_faultAt, .int p0_acts, .int p0_next, .ref a_p0_row, .int p0_told, .ref a_p0_toldAt, .ref a_p0_toldWool, .ref a_p0_toldHeard, .long p0_seed, .ref a_p0_isKept, .ref a_p0_kept])), (a_p0_kind, .inl (cI, 5, .inl p0_kind)), (a_p0_skyAt, .inl (cI, 5, .inl p0_skyAt)), (a_p0_skyLoud, .inl (cI, 5, .inl p0_skyLoud)), (a_p0_one, .inl (cI, 5, .inl p0_one)), (a_p0_other, .inl (cI, 5, .inl p0_other)), (a_p0_worth, .inl (cI, 5, .inl p0_worth)), (a_p0_hangs, .inl (cI, 5, .inl p0_hangs)), (a_p0_now, .inl (cI, 18, .inl y69_p0_now))] H locs → lv_has ls 7 [(0, .ref a_p0), (1, .int v1), (2, .int v2), (3, .int v3), (4, .int y69_4), (5, .int y69_5), (6, .int y69_6)] → W p l e (Rm 7 174) s m args below meth c H locs 0 0 Q (F0 m 69 ls []) := by
                intro n
                induction n with
                | zero => intro y69_4 y69_5 y69_6 y69_p0_now H locs ls h9; exact itr_0 h9
                | succ n ih =>
                  intro y69_4 y69_5 y69_6 y69_p0_now H locs ls hf hW hl
                  obtain ⟨o_69, hf, ho_69⟩ := itr_inv hf
                  have hf : b_X7_rests_69 v1 v2 v3 p0_persons p0_skies p0_oaths p0_kind p0_skyAt p0_skyLoud p0_one p0_other p0_worth p0_hangs y69_4 y69_5 y69_6 y69_p0_now = some o_69 := hf
                  unfold b_X7_rests_69 at hf
                  refine lv_iload hx hb dX7_rests_69 (lv_at hl 6 rfl) ?_
                  refine lv_iconst (v := 4) hx hb dX7_rests_71 (by decide) ?_
                  refine lv_icmp_ge (tgt := 125) hx hb dX7_rests_72 (by decide) (fun c_13 => ?_) (fun c_13 => ?_)
                  · have hf := it_t c_13 hf
                    have h9 := o_inr hf ho_69
                    exact K_69 (y69_4, y69_5, y69_p0_now) h9 _ _ _ hW (lv_sub hl [3, 4, 5] rfl)
                  · have hf := it_f c_13 hf
                    refine lv_aload_n hx hb dX7_rests_75 rfl (lv_at hl 0 rfl) ?_
                    refine lv_iload_n hx hb dX7_rests_76 rfl (lv_at hl 1 rfl) ?_
                    refine lv_iload_n hx hb dX7_rests_77 rfl (lv_at hl 2 rfl) ?_
                    refine lv_iload hx hb dX7_rests_78 (lv_at hl 6 rfl) ?_
                    refine lv_iconst (v := 2) hx hb dX7_rests_80 (by decide) ?_
                    refine lv_idiv hx hb dX7_rests_81 (by decide) ?_
                    refine lv_iload hx hb dX7_rests_82 (lv_at hl 6 rfl) ?_
                    refine lv_iconst (v := 2) hx hb dX7_rests_84 (by decide) ?_
                    refine lv_irem hx hb dX7_rests_85 (by decide) ?_
                    obtain ⟨r_14, hr_14, hf⟩ := bnd hf
                    refine q_callVZ hB hW (ci := 7) (q0 := 0) rfl rfl rfl (As := [.int v1, .int v2, .int (y69_6 / (2 : Int32)), .int (y69_6 - y69_6 / (2 : Int32) * (2 : Int32))]) (rest := []) (ws' := [(a_p0, .inr (7, [.int p0_persons, .int p0_skies, .int p0_oaths, .ref a_p0_kind, .ref a_p0_skyAt, .ref a_p0_skyLoud, .ref a_p0_one, .ref a_p0_other, .ref a_p0_worth, .ref a_p0_hangs, .ref a_p0_now, .ref a_p0_readPerson, .ref a_p0_readSky, .ref a_p0_readOath, .int p0_readPersons, .int p0_readSkies, .int p0_readOaths, .ref a_p0_text, .int p0_length, .int p0_at, .int p0_faultAt, .int p0_acts, .int p0_next, .ref a_p0_row, .int p0_told, .ref a_p0_toldAt, .ref a_p0_toldWool, .ref a_p0_toldHeard, .long p0_seed, .ref a_p0_isKept, .ref a_p0_kept])), (a_p0_kind, .inl (cI, 5, .inl p0_kind)), (a_p0_skyAt, .inl (cI, 5, .inl p0_skyAt)), (a_p0_skyLoud, .inl (cI, 5, .inl p0_skyLoud)), (a_p0_one, .inl (cI, 5, .inl p0_one)), (a_p0_other, .inl (cI, 5, .inl p0_other)), (a_p0_worth, .inl (cI, 5, .inl p0_worth)), (a_p0_hangs, .inl (cI, 5, .inl p0_hangs)), (a_p0_now, .inl (cI, 18, .inl r_14.2))]) (c_X7_isRest l D cI cZ a_p0 a_p0_kind a_p0_skyAt a_p0_skyLoud a_p0_one a_p0_other a_p0_worth a_p0_hangs a_p0_now a_p0_readPerson a_p0_readSky a_p0_readOath a_p0_text a_p0_row a_p0_toldAt a_p0_toldWool a_p0_toldHeard a_p0_isKept a_p0_kept p0_persons p0_skies p0_oaths p0_readPersons p0_readSkies p0_readOaths p0_length p0_at p0_faultAt p0_acts p0_next p0_told p0_seed p0_kind p0_skyAt p0_skyLoud p0_one p0_other p0_worth p0_hangs y69_p0_now v1 v2 (y69_6 / (2 : Int32)) (y69_6 - y69_6 / (2 : Int32) * (2 : Int32)) r_14 hr_14) (cwV 4 hts gX7_rests_X7_isRest rfl rfl rfl (by decide +kernel) ⟨Nat.le_of_ble_eq_true rfl, Nat.le_of_ble_eq_true rfl⟩) [0, 1, 2, 3, 4, 5, 6, 7, 8] rfl rfl rfl rfl rfl hl.1 rfl (Nat.le_of_ble_eq_true rfl) ⟨Nat.le_of_ble_eq_true rfl, Nat.le_of_ble_eq_true rfl⟩ dX7_rests_86 (fun hzr_14 H locs hW => ?_)
                    refine lv_if_eq (tgt := 119) hx hb dX7_rests_89 (by decide) (fun c_15 => ?_) (fun c_15 => ?_)
                    · have hf := it_t c_15 hf
                      refine lv_iinc (v := (y69_6 + (1 : Int32))) (lv' := [(6, .int (y69_6 + (1 : Int32))), (0, .ref a_p0), (1, .int v1), (2, .int v2), (3, .int v3), (4, .int y69_4), (5, .int y69_5)]) hx hb dX7_rests_119 hl (k := 6) rfl rfl (by decide) rfl (fun ls hl => ?_)
                      refine lv_goto (tgt := 69) hx hb dX7_rests_122 (by decide) ?_
                      have h9 := o_inl hf ho_69
                      exact ih y69_4 y69_5 (y69_6 + (1 : Int32)) r_14.2 _ _ _ h9 hW (lv_sub hl [1, 2, 3, 4, 5, 6, 0] rfl)
                    · have hf := it_f c_15 hf
                      refine lv_iload hx hb dX7_rests_92 (lv_at hl 4 rfl) ?_
                      refine lv_if_ne (tgt := 112) hx hb dX7_rests_94 (by decide) (fun c_16 => ?_) (fun c_16 => ?_)
                      · have hf := it_f c_16 hf
                        refine lv_iload hx hb dX7_rests_112 (lv_at hl 5 rfl) ?_
                        refine lv_istore (lv' := [(5, .int y69_5), (0, .ref a_p0), (1, .int v1), (2, .int v2), (3, .int v3), (4, .int y69_4), (6, .int y69_6)]) hx hb dX7_rests_114 hl (by decide) rfl (fun ls hl => ?_)
                        refine lv_iinc (v := (y69_4 + (1 : Int32))) (lv' := [(4, .int (y69_4 + (1 : Int32))), (5, .int y69_5), (0, .ref a_p0), (1, .int v1), (2, .int v2), (3, .int v3), (6, .int y69_6)]) hx hb dX7_rests_116 hl (k := 5) rfl rfl (by decide) rfl (fun ls hl => ?_)
                        refine lv_iinc (v := (y69_6 + (1 : Int32))) (lv' := [(6, .int (y69_6 + (1 : Int32))), (4, .int (y69_4 + (1 : Int32))), (5, .int y69_5), (0, .ref a_p0), (1, .int v1), (2, .int v2), (3, .int v3)]) hx hb dX7_rests_119 hl (k := 6) rfl rfl (by decide) rfl (fun ls hl => ?_)
                        refine lv_goto (tgt := 69) hx hb dX7_rests_122 (by decide) ?_
                        have h9 := o_inl hf ho_69
                        exact ih (y69_4 + (1 : Int32)) y69_5 (y69_6 + (1 : Int32)) r_14.2 _ _ _ h9 hW (lv_sub hl [3, 4, 5, 6, 1, 2, 0] rfl)
                      · have hf := it_t c_16 hf
                        refine lv_bipush (v := 10) hx hb dX7_rests_97 (by decide) ?_
                        refine lv_iload hx hb dX7_rests_99 (lv_at hl 6 rfl) ?_
                        refine lv_iconst (v := 2) hx hb dX7_rests_101 (by decide) ?_
                        refine lv_idiv hx hb dX7_rests_102 (by decide) ?_
                        refine lv_imul hx hb dX7_rests_103 ?_
                        refine lv_iload hx hb dX7_rests_104 (lv_at hl 6 rfl) ?_
                        refine lv_iconst (v := 2) hx hb dX7_rests_106 (by decide) ?_
                        refine lv_irem hx hb dX7_rests_107 (by decide) ?_
                        refine lv_iadd hx hb dX7_rests_108 ?_
                        refine lv_goto (tgt := 114) hx hb dX7_rests_109 (by decide) ?_
                        obtain ⟨w_17, hw_17, hf⟩ := bnd hf
                        refine q_nmI hw_17 ?_
                        refine lv_istore (lv' := [(5, .int w_17), (0, .ref a_p0), (1, .int v1), (2, .int v2), (3, .int v3), (4, .int y69_4), (6, .int y69_6)]) hx hb dX7_rests_114 hl (by decide) rfl (fun ls hl => ?_)
                        refine lv_iinc (v := (y69_4 + (1 : Int32))) (lv' := [(4, .int (y69_4 + (1 : Int32))), (5, .int w_17), (0, .ref a_p0), (1, .int v1), (2, .int v2), (3, .int v3), (6, .int y69_6)]) hx hb dX7_rests_116 hl (k := 5) rfl rfl (by decide) rfl (fun ls hl => ?_)
                        refine lv_iinc (v := (y69_6 + (1 : Int32))) (lv' := [(6, .int (y69_6 + (1 : Int32))), (4, .int (y69_4 + (1 : Int32))), (5, .int w_17), (0, .ref a_p0), (1, .int v1), (2, .int v2), (3, .int v3)]) hx hb dX7_rests_119 hl (k := 6) rfl rfl (by decide) rfl (fun ls hl => ?_)
                        refine lv_goto (tgt := 69) hx hb dX7_rests_122 (by decide) ?_
                        have h9 := o_inl hf ho_69
                        exact ih (y69_4 + (1 : Int32)) w_17 (y69_6 + (1 : Int32)) r_14.2 _ _ _ h9 hW (lv_sub hl [3, 4, 5, 6, 1, 2, 0] rfl)
              exact L_69 FU (0 : Int32) (-9 : Int32) (0 : Int32) p0_now _ _ _ hl_69 hW (lv_sub hl [3, 4, 5, 6, 2, 1, 0] rfl)
            · have hf := it_t c_11 hf
              refine lv_bipush (v := -3) hx hb dX7_rests_56 (by decide) ?_
              exact hE _ _ _ _ _ ((-3 : Int32), p0_now) (sm hf) hW rfl dX7_rests_58
        · have hf := it_t c_7 hf
          refine lv_bipush (v := -2) hx hb dX7_rests_33 (by decide) ?_
          exact hE _ _ _ _ _ ((-2 : Int32), p0_now) (sm hf) hW rfl dX7_rests_35
    · have hf := it_t c_4 hf
      refine lv_iconst (v := -1) hx hb dX7_rests_16 (by decide) ?_
      exact hE _ _ _ _ _ ((-1 : Int32), p0_now) (sm hf) hW rfl dX7_rests_17
def b_X7_comes_64 (v1 : Int32) (v2 : Int32) (v3 : Int32) (v4 : Int32) (v5 : Int32) (v6 : Int32) (v7 : Int32) (p0_persons : Int32) (p0_skies : Int32) (p0_oaths : Int32) (p0_kind : Nat → Int32) (p0_skyAt : Nat → Int32) (p0_skyLoud : Nat → Int32) (p0_one : Nat → Int32) (p0_other : Nat → Int32) (p0_worth : Nat → Int32) (p0_hangs : Nat → Int32) (v8 : Int32) (v9 : Int32) (p0_now : Nat → Int32) : Option ((Int32 × Int32 × (Nat → Int32)) ⊕ (Int32 × (Nat → Int32))) := if v2 ≤ v9 then some (.inr (v8, p0_now)) else (f_X7_has v7 v9).bind fun r_566 => if r_566 = (0 : Int32) then (some (v8 * ((10 : Int32) - v3))).bind fun w_568 => (f_X7_has v7 v9).bind fun r_569 => if r_569 = (0 : Int32) then (f_X7_passOn (1 : Int32) (1 : Int32) p0_persons p0_skies p0_oaths p0_kind p0_skyAt p0_skyLoud p0_one p0_other p0_worth p0_hangs p0_now).bind fun r_572 => some (.inl (w_568, (v9 + (1 : Int32)), r_572.2)) else (f_X7_passOn (1 : Int32) (0 : Int32) p0_persons p0_skies p0_oaths p0_kind p0_skyAt p0_skyLoud p0_one p0_other p0_worth p0_hangs p0_now).bind fun r_571 => some (.inl (w_568, (v9 + (1 : Int32)), r_571.2)) else (some (v8 * v3)).bind fun w_573 => (f_X7_has v7 v9).bind fun r_574 => if r_574 = (0 : Int32) then (f_X7_passOn (1 : Int32) (1 : Int32) p0_persons p0_skies p0_oaths p0_kind p0_skyAt p0_skyLoud p0_one p0_other p0_worth p0_hangs p0_now).bind fun r_577 => some (.inl (w_573, (v9 + (1 : Int32)), r_577.2)) else (f_X7_passOn (1 : Int32) (0 : Int32) p0_persons p0_skies p0_oaths p0_kind p0_skyAt p0_skyLoud p0_one p0_other p0_worth p0_hangs p0_now).bind fun r_576 => some (.inl (w_573, (v9 + (1 : Int32)), r_576.2))
def b_X7_comes_46 (v1 : Int32) (v2 : Int32) (v3 : Int32) (v4 : Int32) (p0_persons : Int32) (p0_skies : Int32) (p0_oaths : Int32) (p0_kind : Nat → Int32) (p0_skyAt : Nat → Int32) (p0_skyLoud : Nat → Int32) (p0_one : Nat → Int32) (p0_other : Nat → Int32) (p0_worth : Nat → Int32) (p0_hangs : Nat → Int32) (v5 : Int32) (v6 : Int32) (v7 : Int32) (p0_now : Nat → Int32) : Option ((Int32 × Int32 × Int32 × (Nat → Int32)) ⊕ (Int32 × Int32 × (Nat → Int32))) := if ((1 : Int32) <<< (v2 &&& 31)) ≤ v7 then some (.inr (v5, v6, p0_now)) else (f_X7_layTrial p0_now).bind fun r_548 => (itr (fun s => b_X7_comes_64 v1 v2 v3 v4 v5 v6 v7 p0_persons p0_skies p0_oaths p0_kind p0_skyAt p0_skyLoud p0_one p0_other p0_worth p0_hangs s.1 s.2.1 s.2.2) FU ((1 : Int32), (0 : Int32), r_548)).bind fun x_64 => (some (v6 + x_64.1)).bind fun w_549 => (ald x_64.2 18 (15 : Int32)).bind fun r_550 => (f_X7_has r_550 v1).bind fun r_551 => if r_551 = (0 : Int32) then (some (v5 + (0 : Int32))).bind fun w_553 => some (.inl (w_553, w_549, (v7 + (1 : Int32)), x_64.2)) else (some (v5 + x_64.1)).bind fun w_554 => some (.inl (w_554, w_549, (v7 + (1 : Int32)), x_64.2))
def f_X7_comes (v1 : Int32) (v2 : Int32) (v3 : Int32) (v4 : Int32) (p0_persons : Int32) (p0_skies : Int32) (p0_oaths : Int32) (p0_kind : Nat → Int32) (p0_skyAt : Nat → Int32) (p0_skyLoud : Nat → Int32) (p0_one : Nat → Int32) (p0_other : Nat → Int32) (p0_worth : Nat → Int32) (p0_hangs : Nat → Int32) (p0_now : Nat → Int32) : Option (Int32 × (Nat → Int32)) := (f_X7_isOath v1 p0_oaths).bind fun r_1 => if r_1 = (0 : Int32) then some ((-1 : Int32), p0_now) else (f_X7_in (Int32.toInt64 v2) (1 : Int64) (6 : Int64)).bind fun r_3 => if r_3 = (0 : Int32) then some ((-2 : Int32), p0_now) else (f_X7_in (Int32.toInt64 v3) (0 : Int64) (10 : Int64)).bind fun r_5 => if r_5 = (0 : Int32) then some ((-2 : Int32), p0_now) else (itr (fun s => b_X7_comes_46 v1 v2 v3 v4 p0_persons p0_skies p0_oaths p0_kind p0_skyAt p0_skyLoud p0_one p0_other p0_worth p0_hangs s.1 s.2.1 s.2.2.1 s.2.2.2) FU ((0 : Int32), (0 : Int32), (0 : Int32), p0_now)).bind fun x_46 => (f_X7_common x_46.1 x_46.2.1).bind fun r_7 => if v4 = (0 : Int32) then (dvI x_46.2.1 r_7).bind fun r_9 => some (r_9, x_46.2.2) else (dvI x_46.1 r_7).bind fun r_10 => some (r_10, x_46.2.2)
set_option maxHeartbeats 4000000 in
set_option maxRecDepth 100000 in
theorem c_X7_comes (l : Launch) (D : va_G) (cI cZ : ClassId) (a_p0 a_p0_kind a_p0_skyAt a_p0_skyLoud a_p0_one a_p0_other a_p0_worth a_p0_hangs a_p0_now a_p0_readPerson a_p0_readSky a_p0_readOath a_p0_text a_p0_row a_p0_toldAt a_p0_toldWool a_p0_toldHeard a_p0_isKept a_p0_kept : Nat) (p0_persons : Int32) (p0_skies : Int32) (p0_oaths : Int32) (p0_readPersons : Int32) (p0_readSkies : Int32) (p0_readOaths : Int32) (p0_length : Int32) (p0_at : Int32) (p0_faultAt : Int32) (p0_acts : Int32) (p0_next : Int32) (p0_told : Int32) (p0_seed : Int64) (p0_kind : Nat → Int32) (p0_skyAt : Nat → Int32) (p0_skyLoud : Nat → Int32) (p0_one : Nat → Int32) (p0_other : Nat → Int32) (p0_worth : Nat → Int32) (p0_hangs : Nat → Int32) (p0_now : Nat → Int32) (v1 : Int32) (v2 : Int32) (v3 : Int32) (v4 : Int32) (q : Int32 × (Nat → Int32)) (hf : f_X7_comes v1 v2 v3 v4 p0_persons p0_skies p0_oaths p0_kind p0_skyAt p0_skyLoud p0_one p0_other p0_worth p0_hangs p0_now = some q) : CtI l D cI cZ yX7_comes wsX7_comes 5 126 [.ref a_p0, .int v1, .int v2, .int v3, .int v4] [(a_p0, .inr (7, [.int p0_persons, .int p0_skies, .int p0_oaths, .ref a_p0_kind, .ref a_p0_skyAt, .ref a_p0_skyLoud, .ref a_p0_one, .ref a_p0_other, .ref a_p0_worth, .ref a_p0_hangs, .ref a_p0_now, .ref a_p0_readPerson, .ref a_p0_readSky, .ref a_p0_readOath, .int p0_readPersons, .int p0_readSkies, .int p0_readOaths, .ref a_p0_text, .int p0_length, .int p0_at, .int p0_faultAt, .int p0_acts, .int p0_next, .ref a_p0_row, .int p0_told, .ref a_p0_toldAt, .ref a_p0_toldWool, .ref a_p0_toldHeard, .long p0_seed, .ref a_p0_isKept, .ref a_p0_kept])), (a_p0_kind, .inl (cI, 5, .inl p0_kind)), (a_p0_skyAt, .inl (cI, 5, .inl p0_skyAt)), (a_p0_skyLoud, .inl (cI, 5, .inl p0_skyLoud)), (a_p0_one, .inl (cI, 5, .inl p0_one)), (a_p0_other, .inl (cI, 5, .inl p0_other)), (a_p0_worth, .inl (cI, 5, .inl p0_worth)), (a_p0_hangs, .inl (cI, 5, .inl p0_hangs)), (a_p0_now, .inl (cI, 18, .inl p0_now))] (fun q => [(a_p0, .inr (7, [.int p0_persons, .int p0_skies, .int p0_oaths, .ref a_p0_kind, .ref a_p0_skyAt, .ref a_p0_skyLoud, .ref a_p0_one, .ref a_p0_other, .ref a_p0_worth, .ref a_p0_hangs, .ref a_p0_now, .ref a_p0_readPerson, .ref a_p0_readSky, .ref a_p0_readOath, .int p0_readPersons, .int p0_readSkies, .int p0_readOaths, .ref a_p0_text, .int p0_length, .int p0_at, .int p0_faultAt, .int p0_acts, .int p0_next, .ref a_p0_row, .int p0_told, .ref a_p0_toldAt, .ref a_p0_toldWool, .ref a_p0_toldHeard, .long p0_seed, .ref a_p0_isKept, .ref a_p0_kept])), (a_p0_kind, .inl (cI, 5, .inl p0_kind)), (a_p0_skyAt, .inl (cI, 5, .inl p0_skyAt)), (a_p0_skyLoud, .inl (cI, 5, .inl p0_skyLoud)), (a_p0_one, .inl (cI, 5, .inl p0_one)), (a_p0_other, .inl (cI, 5, .inl p0_other)), (a_p0_worth, .inl (cI, 5, .inl p0_worth)), (a_p0_hangs, .inl (cI, 5, .inl p0_hangs)), (a_p0_now, .inl (cI, 18, .inl q.2))]) (fun q => q.1) q := by
  refine CtI.of (cc := cX7_comes) (maxL := 10) (plainFor_of_name (by decide)) rfl (Nat.le_of_ble_eq_true rfl) ?_
  intro p e s m args below meth c A Q H ls hB hE hW hl
  have hx := hB.1
  have hb := hB.2.1
  have hml := hB.2.2.2.1
  have hown : s.vm.findClass RX7 = some m.cls := hB.2.2.2.2.1
  have hts := hB.2.2.2.2.2.1
  have hK := hB.2.2.2.2.2.2.2.1.1
  have hl : lv_has ls 10 [(0, .ref a_p0), (1, .int v1), (2, .int v2), (3, .int v3), (4, .int v4)] := hl
  have in_X7 : ∀ w ∈ wsX70, w ∈ wsX7_comes := fun w h => List.mem_cons_of_mem _ (List.mem_append_right _ h)
  have fl_31 : (Cond.fieldLink RX7 31 (TX7 10).1 (TX7 10).2.1 (TX7 10).2.2.1).before args s = true := hts (.fieldLink RX7 31 "ClapOathsModel" "now" "[I") (by decide +kernel)
  unfold f_X7_comes at hf
  refine lv_aload_n hx hb dX7_comes_0 rfl (lv_at hl 0 rfl) ?_
  refine lv_iload_n hx hb dX7_comes_1 rfl (lv_at hl 1 rfl) ?_
  obtain ⟨r_1, hr_1, hf⟩ := bnd hf
  refine q_callVZ hB hW (ci := 7) (q0 := 0) rfl rfl rfl (As := [.int v1]) (rest := []) (ws' := [(a_p0, .inr (7, [.int p0_persons, .int p0_skies, .int p0_oaths, .ref a_p0_kind, .ref a_p0_skyAt, .ref a_p0_skyLoud, .ref a_p0_one, .ref a_p0_other, .ref a_p0_worth, .ref a_p0_hangs, .ref a_p0_now, .ref a_p0_readPerson, .ref a_p0_readSky, .ref a_p0_readOath, .int p0_readPersons, .int p0_readSkies, .int p0_readOaths, .ref a_p0_text, .int p0_length, .int p0_at, .int p0_faultAt, .int p0_acts, .int p0_next, .ref a_p0_row, .int p0_told, .ref a_p0_toldAt, .ref a_p0_toldWool, .ref a_p0_toldHeard, .long p0_seed, .ref a_p0_isKept, .ref a_p0_kept])), (a_p0_kind, .inl (cI, 5, .inl p0_kind)), (a_p0_skyAt, .inl (cI, 5, .inl p0_skyAt)), (a_p0_skyLoud, .inl (cI, 5, .inl p0_skyLoud)), (a_p0_one, .inl (cI, 5, .inl p0_one)), (a_p0_other, .inl (cI, 5, .inl p0_other)), (a_p0_worth, .inl (cI, 5, .inl p0_worth)), (a_p0_hangs, .inl (cI, 5, .inl p0_hangs)), (a_p0_now, .inl (cI, 18, .inl p0_now))]) (c_X7_isOath l D cI cZ a_p0 a_p0_kind a_p0_skyAt a_p0_skyLoud a_p0_one a_p0_other a_p0_worth a_p0_hangs a_p0_now a_p0_readPerson a_p0_readSky a_p0_readOath a_p0_text a_p0_row a_p0_toldAt a_p0_toldWool a_p0_toldHeard a_p0_isKept a_p0_kept p0_persons p0_skies p0_oaths p0_readPersons p0_readSkies p0_readOaths p0_length p0_at p0_faultAt p0_acts p0_next p0_told p0_seed v1 r_1 hr_1) (cwV 1 hts gX7_comes_X7_isOath rfl rfl rfl (by decide +kernel) ⟨Nat.le_of_ble_eq_true rfl, Nat.le_of_ble_eq_true rfl⟩) [0] rfl rfl rfl rfl rfl hl.1 rfl (Nat.le_of_ble_eq_true rfl) ⟨Nat.le_of_ble_eq_true rfl, Nat.le_of_ble_eq_true rfl⟩ dX7_comes_2 (fun hzr_1 H locs hW => ?_)
  refine lv_if_ne (tgt := 10) hx hb dX7_comes_5 (by decide) (fun c_2 => ?_) (fun c_2 => ?_)
  · have hf := it_f c_2 hf
    refine lv_iload_n hx hb dX7_comes_10 rfl (lv_at hl 2 rfl) ?_
    refine lv_i2l (v := (Int32.toInt64 v2)) hx hb dX7_comes_11 rfl ?_
    refine lv_lconst (v := 1) hx hb dX7_comes_12 (by decide) ?_
    refine lv_ldc2 (v := 6) hx hb hown (hts (.constantLong RX7 231 (6)) (by decide +kernel)) dX7_comes_13 ?_
    obtain ⟨r_3, hr_3, hf⟩ := bnd hf
    refine q_callSZ hB hW (As := [.long (Int32.toInt64 v2), .long (1 : Int64), .long (6 : Int64)]) (rest := []) (ws' := [(a_p0, .inr (7, [.int p0_persons, .int p0_skies, .int p0_oaths, .ref a_p0_kind, .ref a_p0_skyAt, .ref a_p0_skyLoud, .ref a_p0_one, .ref a_p0_other, .ref a_p0_worth, .ref a_p0_hangs, .ref a_p0_now, .ref a_p0_readPerson, .ref a_p0_readSky, .ref a_p0_readOath, .int p0_readPersons, .int p0_readSkies, .int p0_readOaths, .ref a_p0_text, .int p0_length, .int p0_at, .int p0_faultAt, .int p0_acts, .int p0_next, .ref a_p0_row, .int p0_told, .ref a_p0_toldAt, .ref a_p0_toldWool, .ref a_p0_toldHeard, .long p0_seed, .ref a_p0_isKept, .ref a_p0_kept])), (a_p0_kind, .inl (cI, 5, .inl p0_kind)), (a_p0_skyAt, .inl (cI, 5, .inl p0_skyAt)), (a_p0_skyLoud, .inl (cI, 5, .inl p0_skyLoud)), (a_p0_one, .inl (cI, 5, .inl p0_one)), (a_p0_other, .inl (cI, 5, .inl p0_other)), (a_p0_worth, .inl (cI, 5, .inl p0_worth)), (a_p0_hangs, .inl (cI, 5, .inl p0_hangs)), (a_p0_now, .inl (cI, 18, .inl p0_now))]) (c_X7_in l D cI cZ (Int32.toInt64 v2) (1 : Int64) (6 : Int64) r_3 hr_3) (va_cwS 3 hts gX7_comes_X7_in rfl rfl rfl (by decide +kernel) ⟨Nat.le_of_ble_eq_true rfl, Nat.le_of_ble_eq_true rfl⟩) [] rfl rfl rfl rfl rfl hl.1 rfl (Nat.le_of_ble_eq_true rfl) ⟨Nat.le_of_ble_eq_true rfl, Nat.le_of_ble_eq_true rfl⟩ dX7_comes_16 (fun hzr_3 H locs hW => ?_)
    refine lv_if_eq (tgt := 34) hx hb dX7_comes_19 (by decide) (fun c_4 => ?_) (fun c_4 => ?_)
    · have hf := it_t c_4 hf
      refine lv_bipush (v := -2) hx hb dX7_comes_34 (by decide) ?_
      exact hE _ _ _ _ _ ((-2 : Int32), p0_now) (sm hf) hW rfl dX7_comes_36
    · have hf := it_f c_4 hf
      refine lv_iload_n hx hb dX7_comes_22 rfl (lv_at hl 3 rfl) ?_
      refine lv_i2l (v := (Int32.toInt64 v3)) hx hb dX7_comes_23 rfl ?_
      refine lv_lconst (v := 0) hx hb dX7_comes_24 (by decide) ?_
      refine lv_ldc2 (v := 10) hx hb hown (hts (.constantLong RX7 233 (10)) (by decide +kernel)) dX7_comes_25 ?_
      obtain ⟨r_5, hr_5, hf⟩ := bnd hf
      refine q_callSZ hB hW (As := [.long (Int32.toInt64 v3), .long (0 : Int64), .long (10 : Int64)]) (rest := []) (ws' := [(a_p0, .inr (7, [.int p0_persons, .int p0_skies, .int p0_oaths, .ref a_p0_kind, .ref a_p0_skyAt, .ref a_p0_skyLoud, .ref a_p0_one, .ref a_p0_other, .ref a_p0_worth, .ref a_p0_hangs, .ref a_p0_now, .ref a_p0_readPerson, .ref a_p0_readSky, .ref a_p0_readOath, .int p0_readPersons, .int p0_readSkies, .int p0_readOaths, .ref a_p0_text, .int p0_length, .int p0_at, .int p0_faultAt, .int p0_acts, .int p0_next, .ref a_p0_row, .int p0_told, .ref a_p0_toldAt, .ref a_p0_toldWool, .ref a_p0_toldHeard, .long p0_seed, .ref a_p0_isKept, .ref a_p0_kept])), (a_p0_kind, .inl (cI, 5, .inl p0_kind)), (a_p0_skyAt, .inl (cI, 5, .inl p0_skyAt)), (a_p0_skyLoud, .inl (cI, 5, .inl p0_skyLoud)), (a_p0_one, .inl (cI, 5, .inl p0_one)), (a_p0_other, .inl (cI, 5, .inl p0_other)), (a_p0_worth, .inl (cI, 5, .inl p0_worth)), (a_p0_hangs, .inl (cI, 5, .inl p0_hangs)), (a_p0_now, .inl (cI, 18, .inl p0_now))]) (c_X7_in l D cI cZ (Int32.toInt64 v3) (0 : Int64) (10 : Int64) r_5 hr_5) (va_cwS 3 hts gX7_comes_X7_in rfl rfl rfl (by decide +kernel) ⟨Nat.le_of_ble_eq_true rfl, Nat.le_of_ble_eq_true rfl⟩) [] rfl rfl rfl rfl rfl hl.1 rfl (Nat.le_of_ble_eq_true rfl) ⟨Nat.le_of_ble_eq_true rfl, Nat.le_of_ble_eq_true rfl⟩ dX7_comes_28 (fun hzr_5 H locs hW => ?_)
      refine lv_if_ne (tgt := 37) hx hb dX7_comes_31 (by decide) (fun c_6 => ?_) (fun c_6 => ?_)
      · have hf := it_f c_6 hf
        refine lv_iconst (v := 0) hx hb dX7_comes_37 (by decide) ?_
        refine lv_istore (lv' := [(5, .int (0 : Int32)), (0, .ref a_p0), (1, .int v1), (2, .int v2), (3, .int v3), (4, .int v4)]) hx hb dX7_comes_38 hl (by decide) rfl (fun ls hl => ?_)
        refine lv_iconst (v := 0) hx hb dX7_comes_40 (by decide) ?_
        refine lv_istore (lv' := [(6, .int (0 : Int32)), (5, .int (0 : Int32)), (0, .ref a_p0), (1, .int v1), (2, .int v2), (3, .int v3), (4, .int v4)]) hx hb dX7_comes_41 hl (by decide) rfl (fun ls hl => ?_)
        refine lv_iconst (v := 0) hx hb dX7_comes_43 (by decide) ?_
        refine lv_istore (lv' := [(7, .int (0 : Int32)), (6, .int (0 : Int32)), (5, .int (0 : Int32)), (0, .ref a_p0), (1, .int v1), (2, .int v2), (3, .int v3), (4, .int v4)]) hx hb dX7_comes_44 hl (by decide) rfl (fun ls hl => ?_)
        obtain ⟨e_46, hl_46, hk_46⟩ := bnd hf
        have K_46 : ∀ x_46 : Int32 × Int32 × (Nat → Int32), x_46 = e_46 → ∀ (H : Heap) (locs : List Loc) (ls : Array Slot), Wl D A s.heap [(a_p0, .inr (7, [.int p0_persons, .int p0_skies, .int p0_oaths, .ref a_p0_kind, .ref a_p0_skyAt, .ref a_p0_skyLoud, .ref a_p0_one, .ref a_p0_other, .ref a_p0_worth, .ref a_p0_hangs, .ref a_p0_now, .ref a_p0_readPerson, .ref a_p0_readSky, .ref a_p0_readOath, .int p0_readPersons, .int p0_readSkies, .int p0_readOaths, .ref a_p0_text, .int p0_length, .int p0_at, .int p0_faultAt, .int p0_acts, .int p0_next, .ref a_p0_row, .int p0_told, .ref a_p0_toldAt, .ref a_p0_toldWool, .ref a_p0_toldHeard, .long p0_seed, .ref a_p0_isKept, .ref a_p0_kept])), (a_p0_kind, .inl (cI, 5, .inl p0_kind)), (a_p0_skyAt, .inl (cI, 5, .inl p0_skyAt)), (a_p0_skyLoud, .inl (cI, 5, .inl p0_skyLoud)), (a_p0_one, .inl (cI, 5, .inl p0_one)), (a_p0_other, .inl (cI, 5, .inl p0_other)), (a_p0_worth, .inl (cI, 5, .inl p0_worth)), (a_p0_hangs, .inl (cI, 5, .inl p0_hangs)), (a_p0_now, .inl (cI, 18, .inl x_46.2.2))] H locs → lv_has ls 10 [(4, .int v4), (5, .int x_46.1), (6, .int x_46.2.1)] → W p l e (Rm 5 126) s m args below meth c H locs 0 0 Q (F0 m 158 ls []) := by
          intro x_46 hx_46 H locs ls hW hl
          have hf := hk_46
          rw [← hx_46] at hf
          refine lv_iload hx hb dX7_comes_158 (lv_at hl 1 rfl) ?_
          refine lv_iload hx hb dX7_comes_160 (lv_at hl 2 rfl) ?_
          obtain ⟨r_7, hr_7, hf⟩ := bnd hf
          refine q_callSI hB hW (As := [.int x_46.1, .int x_46.2.1]) (rest := []) (ws' := [(a_p0, .inr (7, [.int p0_persons, .int p0_skies, .int p0_oaths, .ref a_p0_kind, .ref a_p0_skyAt, .ref a_p0_skyLoud, .ref a_p0_one, .ref a_p0_other, .ref a_p0_worth, .ref a_p0_hangs, .ref a_p0_now, .ref a_p0_readPerson, .ref a_p0_readSky, .ref a_p0_readOath, .int p0_readPersons, .int p0_readSkies, .int p0_readOaths, .ref a_p0_text, .int p0_length, .int p0_at, .int p0_faultAt, .int p0_acts, .int p0_next, .ref a_p0_row, .int p0_told, .ref a_p0_toldAt, .ref a_p0_toldWool, .ref a_p0_toldHeard, .long p0_seed, .ref a_p0_isKept, .ref a_p0_kept])), (a_p0_kind, .inl (cI, 5, .inl p0_kind)), (a_p0_skyAt, .inl (cI, 5, .inl p0_skyAt)), (a_p0_skyLoud, .inl (cI, 5, .inl p0_skyLoud)), (a_p0_one, .inl (cI, 5, .inl p0_one)), (a_p0_other, .inl (cI, 5, .inl p0_other)), (a_p0_worth, .inl (cI, 5, .inl p0_worth)), (a_p0_hangs, .inl (cI, 5, .inl p0_hangs)), (a_p0_now, .inl (cI, 18, .inl x_46.2.2))]) (c_X7_common l D cI cZ x_46.1 x_46.2.1 r_7 hr_7) (va_cwS 2 hts gX7_comes_X7_common rfl rfl rfl (by decide +kernel) ⟨Nat.le_of_ble_eq_true rfl, Nat.le_of_ble_eq_true rfl⟩) [] rfl rfl rfl rfl rfl hl.1 rfl (Nat.le_of_ble_eq_true rfl) ⟨Nat.le_of_ble_eq_true rfl, Nat.le_of_ble_eq_true rfl⟩ dX7_comes_162 (fun H locs hW => ?_)
          refine lv_istore (lv' := [(7, .int r_7), (4, .int v4), (5, .int x_46.1), (6, .int x_46.2.1)]) hx hb dX7_comes_165 hl (by decide) rfl (fun ls hl => ?_)
          refine lv_iload hx hb dX7_comes_167 (lv_at hl 1 rfl) ?_
          refine lv_if_eq (tgt := 180) hx hb dX7_comes_169 (by decide) (fun c_8 => ?_) (fun c_8 => ?_)
          · have hf := it_t c_8 hf
            refine lv_iload hx hb dX7_comes_180 (lv_at hl 3 rfl) ?_
            refine lv_iload hx hb dX7_comes_182 (lv_at hl 0 rfl) ?_
            obtain ⟨r_9, hr_9, hf⟩ := bnd hf
            refine q_idiv hB hr_9 dX7_comes_184 ?_
            exact hE _ _ _ _ _ (r_9, x_46.2.2) (sm hf) hW rfl dX7_comes_185
          · have hf := it_f c_8 hf
            refine lv_iload hx hb dX7_comes_172 (lv_at hl 2 rfl) ?_
            refine lv_iload hx hb dX7_comes_174 (lv_at hl 0 rfl) ?_
            obtain ⟨r_10, hr_10, hf⟩ := bnd hf
            refine q_idiv hB hr_10 dX7_comes_176 ?_
            refine lv_goto (tgt := 185) hx hb dX7_comes_177 (by decide) ?_
            exact hE _ _ _ _ _ (r_10, x_46.2.2) (sm hf) hW rfl dX7_comes_185
        have L_46 : ∀ (n : Nat) (y46_5 : Int32) (y46_6 : Int32) (y46_7 : Int32) (y46_p0_now : Nat → Int32) (H : Heap) (locs : List Loc) (ls : Array Slot), itr (fun s => b_X7_comes_46 v1 v2 v3 v4 p0_persons p0_skies p0_oaths p0_kind p0_skyAt p0_skyLoud p0_one p0_other p0_worth p0_hangs s.1 s.2.1 s.2.2.1 s.2.2.2) n (y46_5, y46_6, y46_7, y46_p0_now) = some e_46 → Wl D A s.heap [(a_p0, .inr (7, [.int p0_persons, .int p0_skies, .int p0_oaths, .ref a_p0_kind, .ref a_p0_skyAt, .ref a_p0_skyLoud, .ref a_p0_one, .ref a_p0_other, .ref a_p0_worth, .ref a_p0_hangs, .ref a_p0_now, .ref a_p0_readPerson, .ref a_p0_readSky, .ref a_p0_readOath, .int p0_readPersons, .int p0_readSkies, .int p0_readOaths, .ref a_p0_text, .int p0_length, .int p0_at, .int p0_faultAt, .int p0_acts, .int p0_next, .ref a_p0_row, .int p0_told, .ref a_p0_toldAt, .ref a_p0_toldWool, .ref a_p0_toldHeard, .long p0_seed, .ref a_p0_isKept, .ref a_p0_kept])), (a_p0_kind, .inl (cI, 5, .inl p0_kind)), (a_p0_skyAt, .inl (cI, 5, .inl p0_skyAt)), (a_p0_skyLoud, .inl (cI, 5, .inl p0_skyLoud)), (a_p0_one, .inl (cI, 5, .inl p0_one)), (a_p0_other, .inl (cI, 5, .inl p0_other)), (a_p0_worth, .inl (cI, 5, .inl p0_worth)), (a_p0_hangs, .inl (cI, 5, .inl p0_hangs)), (a_p0_now, .inl (cI, 18, .inl y46_p0_now))] H locs → lv_has ls 10 [(0, .ref a_p0), (1, .int v1), (2, .int v2), (3, .int v3), (4, .int v4), (5, .int y46_5), (6, .int y46_6), (7, .int y46_7)] → W p l e (Rm 5 126) s m args below meth c H locs 0 0 Q (F0 m 46 ls []) := by
          intro n
          induction n with
          | zero => intro y46_5 y46_6 y46_7 y46_p0_now H locs ls h9; exact itr_0 h9
          | succ n ih =>
            intro y46_5 y46_6 y46_7 y46_p0_now H locs ls hf hW hl
            obtain ⟨o_46, hf, ho_46⟩ := itr_inv hf
            have hf : b_X7_comes_46 v1 v2 v3 v4 p0_persons p0_skies p0_oaths p0_kind p0_skyAt p0_skyLoud p0_one p0_other p0_worth p0_hangs y46_5 y46_6 y46_7 y46_p0_now = some o_46 := hf
            unfold b_X7_comes_46 at hf
            refine lv_iload hx hb dX7_comes_46 (lv_at hl 7 rfl) ?_
            refine lv_iconst (v := 1) hx hb dX7_comes_48 (by decide) ?_
            refine lv_iload_n hx hb dX7_comes_49 rfl (lv_at hl 2 rfl) ?_
            refine lv_ishl hx hb dX7_comes_50 ?_
            refine lv_icmp_ge (tgt := 158) hx hb dX7_comes_51 (by decide) (fun c_11 => ?_) (fun c_11 => ?_)
            · have hf := it_t c_11 hf
              have h9 := o_inr hf ho_46
              exact K_46 (y46_5, y46_6, y46_p0_now) h9 _ _ _ hW (lv_sub hl [4, 5, 6] rfl)
            · have hf := it_f c_11 hf
              refine lv_iconst (v := 1) hx hb dX7_comes_54 (by decide) ?_
              refine lv_istore (lv' := [(8, .int (1 : Int32)), (0, .ref a_p0), (1, .int v1), (2, .int v2), (3, .int v3), (4, .int v4), (5, .int y46_5), (6, .int y46_6), (7, .int y46_7)]) hx hb dX7_comes_55 hl (by decide) rfl (fun ls hl => ?_)
              refine lv_aload_n hx hb dX7_comes_57 rfl (lv_at hl 1 rfl) ?_
              obtain ⟨r_12, hr_12, hf⟩ := bnd hf
              refine q_callVV hB hW (ci := 7) (q0 := 0) rfl rfl rfl (As := []) (rest := []) (ws' := [(a_p0, .inr (7, [.int p0_persons, .int p0_skies, .int p0_oaths, .ref a_p0_kind, .ref a_p0_skyAt, .ref a_p0_skyLoud, .ref a_p0_one, .ref a_p0_other, .ref a_p0_worth, .ref a_p0_hangs, .ref a_p0_now, .ref a_p0_readPerson, .ref a_p0_readSky, .ref a_p0_readOath, .int p0_readPersons, .int p0_readSkies, .int p0_readOaths, .ref a_p0_text, .int p0_length, .int p0_at, .int p0_faultAt, .int p0_acts, .int p0_next, .ref a_p0_row, .int p0_told, .ref a_p0_toldAt, .ref a_p0_toldWool, .ref a_p0_toldHeard, .long p0_seed, .ref a_p0_isKept, .ref a_p0_kept])), (a_p0_kind, .inl (cI, 5, .inl p0_kind)), (a_p0_skyAt, .inl (cI, 5, .inl p0_skyAt)), (a_p0_skyLoud, .inl (cI, 5, .inl p0_skyLoud)), (a_p0_one, .inl (cI, 5, .inl p0_one)), (a_p0_other, .inl (cI, 5, .inl p0_other)), (a_p0_worth, .inl (cI, 5, .inl p0_worth)), (a_p0_hangs, .inl (cI, 5, .inl p0_hangs)), (a_p0_now, .inl (cI, 18, .inl r_12))]) (c_X7_layTrial l D cI cZ a_p0 a_p0_kind a_p0_skyAt a_p0_skyLoud a_p0_one a_p0_other a_p0_worth a_p0_hangs a_p0_now a_p0_readPerson a_p0_readSky a_p0_readOath a_p0_text a_p0_row a_p0_toldAt a_p0_toldWool a_p0_toldHeard a_p0_isKept a_p0_kept p0_persons p0_skies p0_oaths p0_readPersons p0_readSkies p0_readOaths p0_length p0_at p0_faultAt p0_acts p0_next p0_told p0_seed y46_p0_now r_12 hr_12) (cwV 0 hts gX7_comes_X7_layTrial rfl rfl rfl (by decide +kernel) ⟨Nat.le_of_ble_eq_true rfl, Nat.le_of_ble_eq_true rfl⟩) [0, 8] rfl rfl rfl rfl rfl hl.1 rfl (Nat.le_of_ble_eq_true rfl) ⟨Nat.le_of_ble_eq_true rfl, Nat.le_of_ble_eq_true rfl⟩ dX7_comes_58 (fun H locs hW => ?_)
              refine lv_iconst (v := 0) hx hb dX7_comes_61 (by decide) ?_
              refine lv_istore (lv' := [(9, .int (0 : Int32)), (8, .int (1 : Int32)), (0, .ref a_p0), (1, .int v1), (2, .int v2), (3, .int v3), (4, .int v4), (5, .int y46_5), (6, .int y46_6), (7, .int y46_7)]) hx hb dX7_comes_62 hl (by decide) rfl (fun ls hl => ?_)
              obtain ⟨e_64, hl_64, hk_64⟩ := bnd hf
              have K_64 : ∀ x_64 : Int32 × (Nat → Int32), x_64 = e_64 → ∀ (H : Heap) (locs : List Loc) (ls : Array Slot), Wl D A s.heap [(a_p0, .inr (7, [.int p0_persons, .int p0_skies, .int p0_oaths, .ref a_p0_kind, .ref a_p0_skyAt, .ref a_p0_skyLoud, .ref a_p0_one, .ref a_p0_other, .ref a_p0_worth, .ref a_p0_hangs, .ref a_p0_now, .ref a_p0_readPerson, .ref a_p0_readSky, .ref a_p0_readOath, .int p0_readPersons, .int p0_readSkies, .int p0_readOaths, .ref a_p0_text, .int p0_length, .int p0_at, .int p0_faultAt, .int p0_acts, .int p0_next, .ref a_p0_row, .int p0_told, .ref a_p0_toldAt, .ref a_p0_toldWool, .ref a_p0_toldHeard, .long p0_seed, .ref a_p0_isKept, .ref a_p0_kept])), (a_p0_kind, .inl (cI, 5, .inl p0_kind)), (a_p0_skyAt, .inl (cI, 5, .inl p0_skyAt)), (a_p0_skyLoud, .inl (cI, 5, .inl p0_skyLoud)), (a_p0_one, .inl (cI, 5, .inl p0_one)), (a_p0_other, .inl (cI, 5, .inl p0_other)), (a_p0_worth, .inl (cI, 5, .inl p0_worth)), (a_p0_hangs, .inl (cI, 5, .inl p0_hangs)), (a_p0_now, .inl (cI, 18, .inl x_64.2))] H locs → lv_has ls 10 [(0, .ref a_p0), (1, .int v1), (2, .int v2), (3, .int v3), (4, .int v4), (5, .int y46_5), (6, .int y46_6), (7, .int y46_7), (8, .int x_64.1)] → W p l e (Rm 5 126) s m args below meth c H locs 0 0 Q (F0 m 120 ls []) := by
                intro x_64 hx_64 H locs ls hW hl
                have hf := hk_64
                rw [← hx_64] at hf
                refine lv_iload hx hb dX7_comes_120 (lv_at hl 6 rfl) ?_
                refine lv_iload hx hb dX7_comes_122 (lv_at hl 8 rfl) ?_
                refine lv_iadd hx hb dX7_comes_124 ?_
                obtain ⟨w_13, hw_13, hf⟩ := bnd hf
                refine q_nmI hw_13 ?_
                refine lv_istore (lv' := [(6, .int w_13), (0, .ref a_p0), (1, .int v1), (2, .int v2), (3, .int v3), (4, .int v4), (5, .int y46_5), (7, .int y46_7), (8, .int x_64.1)]) hx hb dX7_comes_125 hl (by decide) rfl (fun ls hl => ?_)
                refine lv_iload hx hb dX7_comes_127 (lv_at hl 6 rfl) ?_
                refine lv_aload_n hx hb dX7_comes_129 rfl (lv_at hl 1 rfl) ?_
                refine q_get hB hW 7 in_X7 0 rfl rfl 10 (by decide) fl_31 (v := .ref a_p0_now) rfl dX7_comes_130 ?_
                refine lv_bipush (v := 15) hx hb dX7_comes_133 (by decide) ?_
                obtain ⟨r_14, hr_14, hf⟩ := bnd hf
                refine q_iald hB hW 8 rfl hr_14 dX7_comes_135 ?_
                refine lv_iload_n hx hb dX7_comes_136 rfl (lv_at hl 2 rfl) ?_
                obtain ⟨r_15, hr_15, hf⟩ := bnd hf
                refine q_callSZ hB hW (As := [.int r_14, .int v1]) (rest := [.int y46_5]) (ws' := [(a_p0, .inr (7, [.int p0_persons, .int p0_skies, .int p0_oaths, .ref a_p0_kind, .ref a_p0_skyAt, .ref a_p0_skyLoud, .ref a_p0_one, .ref a_p0_other, .ref a_p0_worth, .ref a_p0_hangs, .ref a_p0_now, .ref a_p0_readPerson, .ref a_p0_readSky, .ref a_p0_readOath, .int p0_readPersons, .int p0_readSkies, .int p0_readOaths, .ref a_p0_text, .int p0_length, .int p0_at, .int p0_faultAt, .int p0_acts, .int p0_next, .ref a_p0_row, .int p0_told, .ref a_p0_toldAt, .ref a_p0_toldWool, .ref a_p0_toldHeard, .long p0_seed, .ref a_p0_isKept, .ref a_p0_kept])), (a_p0_kind, .inl (cI, 5, .inl p0_kind)), (a_p0_skyAt, .inl (cI, 5, .inl p0_skyAt)), (a_p0_skyLoud, .inl (cI, 5, .inl p0_skyLoud)), (a_p0_one, .inl (cI, 5, .inl p0_one)), (a_p0_other, .inl (cI, 5, .inl p0_other)), (a_p0_worth, .inl (cI, 5, .inl p0_worth)), (a_p0_hangs, .inl (cI, 5, .inl p0_hangs)), (a_p0_now, .inl (cI, 18, .inl x_64.2))]) (c_X7_has l D cI cZ r_14 v1 r_15 hr_15) (va_cwS 2 hts gX7_comes_X7_has rfl rfl rfl (by decide +kernel) ⟨Nat.le_of_ble_eq_true rfl, Nat.le_of_ble_eq_true rfl⟩) [] rfl rfl rfl rfl rfl hl.1 rfl (Nat.le_of_ble_eq_true rfl) ⟨Nat.le_of_ble_eq_true rfl, Nat.le_of_ble_eq_true rfl⟩ dX7_comes_137 (fun hzr_15 H locs hW => ?_)
                refine lv_if_eq (tgt := 148) hx hb dX7_comes_140 (by decide) (fun c_16 => ?_) (fun c_16 => ?_)
                · have hf := it_t c_16 hf
                  refine lv_iconst (v := 0) hx hb dX7_comes_148 (by decide) ?_
                  refine lv_iadd hx hb dX7_comes_149 ?_
                  obtain ⟨w_17, hw_17, hf⟩ := bnd hf
                  refine q_nmI hw_17 ?_
                  refine lv_istore (lv' := [(5, .int w_17), (6, .int w_13), (0, .ref a_p0), (1, .int v1), (2, .int v2), (3, .int v3), (4, .int v4), (7, .int y46_7), (8, .int x_64.1)]) hx hb dX7_comes_150 hl (by decide) rfl (fun ls hl => ?_)
                  refine lv_iinc (v := (y46_7 + (1 : Int32))) (lv' := [(7, .int (y46_7 + (1 : Int32))), (5, .int w_17), (6, .int w_13), (0, .ref a_p0), (1, .int v1), (2, .int v2), (3, .int v3), (4, .int v4), (8, .int x_64.1)]) hx hb dX7_comes_152 hl (k := 7) rfl rfl (by decide) rfl (fun ls hl => ?_)
                  refine lv_goto (tgt := 46) hx hb dX7_comes_155 (by decide) ?_
                  have h9 := o_inl hf ho_46
                  exact ih w_17 w_13 (y46_7 + (1 : Int32)) x_64.2 _ _ _ h9 hW (lv_sub hl [3, 4, 5, 6, 7, 1, 2, 0] rfl)
                · have hf := it_f c_16 hf
                  refine lv_iload hx hb dX7_comes_143 (lv_at hl 8 rfl) ?_
                  refine lv_goto (tgt := 149) hx hb dX7_comes_145 (by decide) ?_
                  refine lv_iadd hx hb dX7_comes_149 ?_
                  obtain ⟨w_18, hw_18, hf⟩ := bnd hf
                  refine q_nmI hw_18 ?_
                  refine lv_istore (lv' := [(5, .int w_18), (6, .int w_13), (0, .ref a_p0), (1, .int v1), (2, .int v2), (3, .int v3), (4, .int v4), (7, .int y46_7), (8, .int x_64.1)]) hx hb dX7_comes_150 hl (by decide) rfl (fun ls hl => ?_)
                  refine lv_iinc (v := (y46_7 + (1 : Int32))) (lv' := [(7, .int (y46_7 + (1 : Int32))), (5, .int w_18), (6, .int w_13), (0, .ref a_p0), (1, .int v1), (2, .int v2), (3, .int v3), (4, .int v4), (8, .int x_64.1)]) hx hb dX7_comes_152 hl (k := 7) rfl rfl (by decide) rfl (fun ls hl => ?_)
                  refine lv_goto (tgt := 46) hx hb dX7_comes_155 (by decide) ?_
                  have h9 := o_inl hf ho_46
                  exact ih w_18 w_13 (y46_7 + (1 : Int32)) x_64.2 _ _ _ h9 hW (lv_sub hl [3, 4, 5, 6, 7, 1, 2, 0] rfl)
              have L_64 : ∀ (n : Nat) (y64_8 : Int32) (y64_9 : Int32) (y64_p0_now : Nat → Int32) (H : Heap) (locs : List Loc) (ls : Array Slot), itr (fun s => b_X7_comes_64 v1 v2 v3 v4 y46_5 y46_6 y46_7 p0_persons p0_skies p0_oaths p0_kind p0_skyAt p0_skyLoud p0_one p0_other p0_worth p0_hangs s.1 s.2.1 s.2.2) n (y64_8, y64_9, y64_p0_now) = some e_64 → Wl D A s.heap [(a_p0, .inr (7, [.int p0_persons, .int p0_skies, .int p0_oaths, .ref a_p0_kind, .ref a_p0_skyAt, .ref a_p0_skyLoud, .ref a_p0_one, .ref a_p0_other, .ref a_p0_worth, .ref a_p0_hangs, .ref a_p0_now, .ref a_p0_readPerson, .ref a_p0_readSky, .ref a_p0_readOath, .int p0_readPersons, .int p0_readSkies, .int p0_readOaths, .ref a_p0_text, .int p0_length, .int p0_at, .int p0_faultAt, .int p0_acts, .int p0_next, .ref a_p0_row, .int p0_told, .ref a_p0_toldAt, .ref a_p0_toldWool, .ref a_p0_toldHeard, .long p0_seed, .ref a_p0_isKept, .ref a_p0_kept])), (a_p0_kind, .inl (cI, 5, .inl p0_kind)), (a_p0_skyAt, .inl (cI, 5, .inl p0_skyAt)), (a_p0_skyLoud, .inl (cI, 5, .inl p0_skyLoud)), (a_p0_one, .inl (cI, 5, .inl p0_one)), (a_p0_other, .inl (cI, 5, .inl p0_other)), (a_p0_worth, .inl (cI, 5, .inl p0_worth)), (a_p0_hangs, .inl (cI, 5, .inl p0_hangs)), (a_p0_now, .inl (cI, 18, .inl y64_p0_now))] H locs → lv_has ls 10 [(0, .ref a_p0), (1, .int v1), (2, .int v2), (3, .int v3), (4, .int v4), (5, .int y46_5), (6, .int y46_6), (7, .int y46_7), (8, .int y64_8), (9, .int y64_9)] → W p l e (Rm 5 126) s m args below meth c H locs 0 0 Q (F0 m 64 ls []) := by
                intro n
                induction n with
                | zero => intro y64_8 y64_9 y64_p0_now H locs ls h9; exact itr_0 h9
                | succ n ih =>
                  intro y64_8 y64_9 y64_p0_now H locs ls hf hW hl
                  obtain ⟨o_64, hf, ho_64⟩ := itr_inv hf
                  have hf : b_X7_comes_64 v1 v2 v3 v4 y46_5 y46_6 y46_7 p0_persons p0_skies p0_oaths p0_kind p0_skyAt p0_skyLoud p0_one p0_other p0_worth p0_hangs y64_8 y64_9 y64_p0_now = some o_64 := hf
                  unfold b_X7_comes_64 at hf
                  refine lv_iload hx hb dX7_comes_64 (lv_at hl 9 rfl) ?_
                  refine lv_iload_n hx hb dX7_comes_66 rfl (lv_at hl 2 rfl) ?_
                  refine lv_icmp_ge (tgt := 120) hx hb dX7_comes_67 (by decide) (fun c_19 => ?_) (fun c_19 => ?_)
                  · have hf := it_t c_19 hf
                    have h9 := o_inr hf ho_64
                    exact K_64 (y64_8, y64_p0_now) h9 _ _ _ hW (lv_sub hl [0, 1, 2, 3, 4, 5, 6, 7, 8] rfl)
                  · have hf := it_f c_19 hf
                    refine lv_iload hx hb dX7_comes_70 (lv_at hl 8 rfl) ?_
                    refine lv_iload hx hb dX7_comes_72 (lv_at hl 7 rfl) ?_
                    refine lv_iload hx hb dX7_comes_74 (lv_at hl 9 rfl) ?_
                    obtain ⟨r_20, hr_20, hf⟩ := bnd hf
                    refine q_callSZ hB hW (As := [.int y46_7, .int y64_9]) (rest := [.int y64_8]) (ws' := [(a_p0, .inr (7, [.int p0_persons, .int p0_skies, .int p0_oaths, .ref a_p0_kind, .ref a_p0_skyAt, .ref a_p0_skyLoud, .ref a_p0_one, .ref a_p0_other, .ref a_p0_worth, .ref a_p0_hangs, .ref a_p0_now, .ref a_p0_readPerson, .ref a_p0_readSky, .ref a_p0_readOath, .int p0_readPersons, .int p0_readSkies, .int p0_readOaths, .ref a_p0_text, .int p0_length, .int p0_at, .int p0_faultAt, .int p0_acts, .int p0_next, .ref a_p0_row, .int p0_told, .ref a_p0_toldAt, .ref a_p0_toldWool, .ref a_p0_toldHeard, .long p0_seed, .ref a_p0_isKept, .ref a_p0_kept])), (a_p0_kind, .inl (cI, 5, .inl p0_kind)), (a_p0_skyAt, .inl (cI, 5, .inl p0_skyAt)), (a_p0_skyLoud, .inl (cI, 5, .inl p0_skyLoud)), (a_p0_one, .inl (cI, 5, .inl p0_one)), (a_p0_other, .inl (cI, 5, .inl p0_other)), (a_p0_worth, .inl (cI, 5, .inl p0_worth)), (a_p0_hangs, .inl (cI, 5, .inl p0_hangs)), (a_p0_now, .inl (cI, 18, .inl y64_p0_now))]) (c_X7_has l D cI cZ y46_7 y64_9 r_20 hr_20) (va_cwS 2 hts gX7_comes_X7_has rfl rfl rfl (by decide +kernel) ⟨Nat.le_of_ble_eq_true rfl, Nat.le_of_ble_eq_true rfl⟩) [] rfl rfl rfl rfl rfl hl.1 rfl (Nat.le_of_ble_eq_true rfl) ⟨Nat.le_of_ble_eq_true rfl, Nat.le_of_ble_eq_true rfl⟩ dX7_comes_76 (fun hzr_20 H locs hW => ?_)
                    refine lv_if_eq (tgt := 86) hx hb dX7_comes_79 (by decide) (fun c_21 => ?_) (fun c_21 => ?_)
                    · have hf := it_t c_21 hf
                      refine lv_bipush (v := 10) hx hb dX7_comes_86 (by decide) ?_
                      refine lv_iload_n hx hb dX7_comes_88 rfl (lv_at hl 3 rfl) ?_
                      refine lv_isub hx hb dX7_comes_89 ?_
                      refine lv_imul hx hb dX7_comes_90 ?_
                      obtain ⟨w_22, hw_22, hf⟩ := bnd hf
                      refine q_nmI hw_22 ?_
                      refine lv_istore (lv' := [(8, .int w_22), (0, .ref a_p0), (1, .int v1), (2, .int v2), (3, .int v3), (4, .int v4), (5, .int y46_5), (6, .int y46_6), (7, .int y46_7), (9, .int y64_9)]) hx hb dX7_comes_91 hl (by decide) rfl (fun ls hl => ?_)
                      refine lv_aload_n hx hb dX7_comes_93 rfl (lv_at hl 1 rfl) ?_
                      refine lv_iconst (v := 1) hx hb dX7_comes_94 (by decide) ?_
                      refine lv_iload hx hb dX7_comes_95 (lv_at hl 8 rfl) ?_
                      refine lv_iload hx hb dX7_comes_97 (lv_at hl 9 rfl) ?_
                      obtain ⟨r_23, hr_23, hf⟩ := bnd hf
                      refine q_callSZ hB hW (As := [.int y46_7, .int y64_9]) (rest := [.int (1 : Int32), .ref a_p0]) (ws' := [(a_p0, .inr (7, [.int p0_persons, .int p0_skies, .int p0_oaths, .ref a_p0_kind, .ref a_p0_skyAt, .ref a_p0_skyLoud, .ref a_p0_one, .ref a_p0_other, .ref a_p0_worth, .ref a_p0_hangs, .ref a_p0_now, .ref a_p0_readPerson, .ref a_p0_readSky, .ref a_p0_readOath, .int p0_readPersons, .int p0_readSkies, .int p0_readOaths, .ref a_p0_text, .int p0_length, .int p0_at, .int p0_faultAt, .int p0_acts, .int p0_next, .ref a_p0_row, .int p0_told, .ref a_p0_toldAt, .ref a_p0_toldWool, .ref a_p0_toldHeard, .long p0_seed, .ref a_p0_isKept, .ref a_p0_kept])), (a_p0_kind, .inl (cI, 5, .inl p0_kind)), (a_p0_skyAt, .inl (cI, 5, .inl p0_skyAt)), (a_p0_skyLoud, .inl (cI, 5, .inl p0_skyLoud)), (a_p0_one, .inl (cI, 5, .inl p0_one)), (a_p0_other, .inl (cI, 5, .inl p0_other)), (a_p0_worth, .inl (cI, 5, .inl p0_worth)), (a_p0_hangs, .inl (cI, 5, .inl p0_hangs)), (a_p0_now, .inl (cI, 18, .inl y64_p0_now))]) (c_X7_has l D cI cZ y46_7 y64_9 r_23 hr_23) (va_cwS 2 hts gX7_comes_X7_has rfl rfl rfl (by decide +kernel) ⟨Nat.le_of_ble_eq_true rfl, Nat.le_of_ble_eq_true rfl⟩) [] rfl rfl rfl rfl rfl hl.1 rfl (Nat.le_of_ble_eq_true rfl) ⟨Nat.le_of_ble_eq_true rfl, Nat.le_of_ble_eq_true rfl⟩ dX7_comes_99 (fun hzr_23 H locs hW => ?_)
                      refine lv_if_ne (tgt := 109) hx hb dX7_comes_102 (by decide) (fun c_24 => ?_) (fun c_24 => ?_)
                      · have hf := it_f c_24 hf
                        refine lv_iconst (v := 0) hx hb dX7_comes_109 (by decide) ?_
                        obtain ⟨r_25, hr_25, hf⟩ := bnd hf
                        refine q_callVI hB hW (ci := 7) (q0 := 0) rfl rfl rfl (As := [.int (1 : Int32), .int (0 : Int32)]) (rest := []) (ws' := [(a_p0, .inr (7, [.int p0_persons, .int p0_skies, .int p0_oaths, .ref a_p0_kind, .ref a_p0_skyAt, .ref a_p0_skyLoud, .ref a_p0_one, .ref a_p0_other, .ref a_p0_worth, .ref a_p0_hangs, .ref a_p0_now, .ref a_p0_readPerson, .ref a_p0_readSky, .ref a_p0_readOath, .int p0_readPersons, .int p0_readSkies, .int p0_readOaths, .ref a_p0_text, .int p0_length, .int p0_at, .int p0_faultAt, .int p0_acts, .int p0_next, .ref a_p0_row, .int p0_told, .ref a_p0_toldAt, .ref a_p0_toldWool, .ref a_p0_toldHeard, .long p0_seed, .ref a_p0_isKept, .ref a_p0_kept])), (a_p0_kind, .inl (cI, 5, .inl p0_kind)), (a_p0_skyAt, .inl (cI, 5, .inl p0_skyAt)), (a_p0_skyLoud, .inl (cI, 5, .inl p0_skyLoud)), (a_p0_one, .inl (cI, 5, .inl p0_one)), (a_p0_other, .inl (cI, 5, .inl p0_other)), (a_p0_worth, .inl (cI, 5, .inl p0_worth)), (a_p0_hangs, .inl (cI, 5, .inl p0_hangs)), (a_p0_now, .inl (cI, 18, .inl r_25.2))]) (c_X7_passOn l D cI cZ a_p0 a_p0_kind a_p0_skyAt a_p0_skyLoud a_p0_one a_p0_other a_p0_worth a_p0_hangs a_p0_now a_p0_readPerson a_p0_readSky a_p0_readOath a_p0_text a_p0_row a_p0_toldAt a_p0_toldWool a_p0_toldHeard a_p0_isKept a_p0_kept p0_persons p0_skies p0_oaths p0_readPersons p0_readSkies p0_readOaths p0_length p0_at p0_faultAt p0_acts p0_next p0_told p0_seed p0_kind p0_skyAt p0_skyLoud p0_one p0_other p0_worth p0_hangs y64_p0_now (1 : Int32) (0 : Int32) r_25 hr_25) (cwV 2 hts gX7_comes_X7_passOn rfl rfl rfl (by decide +kernel) ⟨Nat.le_of_ble_eq_true rfl, Nat.le_of_ble_eq_true rfl⟩) [0, 1, 2, 3, 4, 5, 6, 7, 8] rfl rfl rfl rfl rfl hl.1 rfl (Nat.le_of_ble_eq_true rfl) ⟨Nat.le_of_ble_eq_true rfl, Nat.le_of_ble_eq_true rfl⟩ dX7_comes_110 (fun H locs hW => ?_)
                        refine lv_pop hx hb dX7_comes_113 rfl ?_
                        refine lv_iinc (v := (y64_9 + (1 : Int32))) (lv' := [(9, .int (y64_9 + (1 : Int32))), (8, .int w_22), (0, .ref a_p0), (1, .int v1), (2, .int v2), (3, .int v3), (4, .int v4), (5, .int y46_5), (6, .int y46_6), (7, .int y46_7)]) hx hb dX7_comes_114 hl (k := 9) rfl rfl (by decide) rfl (fun ls hl => ?_)
                        refine lv_goto (tgt := 64) hx hb dX7_comes_117 (by decide) ?_
                        have h9 := o_inl hf ho_64
                        exact ih w_22 (y64_9 + (1 : Int32)) r_25.2 _ _ _ h9 hW (lv_sub hl [2, 3, 4, 5, 6, 7, 8, 9, 1, 0] rfl)
                      · have hf := it_t c_24 hf
                        refine lv_iconst (v := 1) hx hb dX7_comes_105 (by decide) ?_
                        refine lv_goto (tgt := 110) hx hb dX7_comes_106 (by decide) ?_
                        obtain ⟨r_26, hr_26, hf⟩ := bnd hf
                        refine q_callVI hB hW (ci := 7) (q0 := 0) rfl rfl rfl (As := [.int (1 : Int32), .int (1 : Int32)]) (rest := []) (ws' := [(a_p0, .inr (7, [.int p0_persons, .int p0_skies, .int p0_oaths, .ref a_p0_kind, .ref a_p0_skyAt, .ref a_p0_skyLoud, .ref a_p0_one, .ref a_p0_other, .ref a_p0_worth, .ref a_p0_hangs, .ref a_p0_now, .ref a_p0_readPerson, .ref a_p0_readSky, .ref a_p0_readOath, .int p0_readPersons, .int p0_readSkies, .int p0_readOaths, .ref a_p0_text, .int p0_length, .int p0_at, .int p0_faultAt, .int p0_acts, .int p0_next, .ref a_p0_row, .int p0_told, .ref a_p0_toldAt, .ref a_p0_toldWool, .ref a_p0_toldHeard, .long p0_seed, .ref a_p0_isKept, .ref a_p0_kept])), (a_p0_kind, .inl (cI, 5, .inl p0_kind)), (a_p0_skyAt, .inl (cI, 5, .inl p0_skyAt)), (a_p0_skyLoud, .inl (cI, 5, .inl p0_skyLoud)), (a_p0_one, .inl (cI, 5, .inl p0_one)), (a_p0_other, .inl (cI, 5, .inl p0_other)), (a_p0_worth, .inl (cI, 5, .inl p0_worth)), (a_p0_hangs, .inl (cI, 5, .inl p0_hangs)), (a_p0_now, .inl (cI, 18, .inl r_26.2))]) (c_X7_passOn l D cI cZ a_p0 a_p0_kind a_p0_skyAt a_p0_skyLoud a_p0_one a_p0_other a_p0_worth a_p0_hangs a_p0_now a_p0_readPerson a_p0_readSky a_p0_readOath a_p0_text a_p0_row a_p0_toldAt a_p0_toldWool a_p0_toldHeard a_p0_isKept a_p0_kept p0_persons p0_skies p0_oaths p0_readPersons p0_readSkies p0_readOaths p0_length p0_at p0_faultAt p0_acts p0_next p0_told p0_seed p0_kind p0_skyAt p0_skyLoud p0_one p0_other p0_worth p0_hangs y64_p0_now (1 : Int32) (1 : Int32) r_26 hr_26) (cwV 2 hts gX7_comes_X7_passOn rfl rfl rfl (by decide +kernel) ⟨Nat.le_of_ble_eq_true rfl, Nat.le_of_ble_eq_true rfl⟩) [0, 1, 2, 3, 4, 5, 6, 7, 8] rfl rfl rfl rfl rfl hl.1 rfl (Nat.le_of_ble_eq_true rfl) ⟨Nat.le_of_ble_eq_true rfl, Nat.le_of_ble_eq_true rfl⟩ dX7_comes_110 (fun H locs hW => ?_)
                        refine lv_pop hx hb dX7_comes_113 rfl ?_
                        refine lv_iinc (v := (y64_9 + (1 : Int32))) (lv' := [(9, .int (y64_9 + (1 : Int32))), (8, .int w_22), (0, .ref a_p0), (1, .int v1), (2, .int v2), (3, .int v3), (4, .int v4), (5, .int y46_5), (6, .int y46_6), (7, .int y46_7)]) hx hb dX7_comes_114 hl (k := 9) rfl rfl (by decide) rfl (fun ls hl => ?_)
                        refine lv_goto (tgt := 64) hx hb dX7_comes_117 (by decide) ?_
                        have h9 := o_inl hf ho_64
                        exact ih w_22 (y64_9 + (1 : Int32)) r_26.2 _ _ _ h9 hW (lv_sub hl [2, 3, 4, 5, 6, 7, 8, 9, 1, 0] rfl)
                    · have hf := it_f c_21 hf
                      refine lv_iload_n hx hb dX7_comes_82 rfl (lv_at hl 3 rfl) ?_
                      refine lv_goto (tgt := 90) hx hb dX7_comes_83 (by decide) ?_
                      refine lv_imul hx hb dX7_comes_90 ?_
                      obtain ⟨w_27, hw_27, hf⟩ := bnd hf
                      refine q_nmI hw_27 ?_
                      refine lv_istore (lv' := [(8, .int w_27), (0, .ref a_p0), (1, .int v1), (2, .int v2), (3, .int v3), (4, .int v4), (5, .int y46_5), (6, .int y46_6), (7, .int y46_7), (9, .int y64_9)]) hx hb dX7_comes_91 hl (by decide) rfl (fun ls hl => ?_)
                      refine lv_aload_n hx hb dX7_comes_93 rfl (lv_at hl 1 rfl) ?_
                      refine lv_iconst (v := 1) hx hb dX7_comes_94 (by decide) ?_
                      refine lv_iload hx hb dX7_comes_95 (lv_at hl 8 rfl) ?_
                      refine lv_iload hx hb dX7_comes_97 (lv_at hl 9 rfl) ?_
                      obtain ⟨r_28, hr_28, hf⟩ := bnd hf
                      refine q_callSZ hB hW (As := [.int y46_7, .int y64_9]) (rest := [.int (1 : Int32), .ref a_p0]) (ws' := [(a_p0, .inr (7, [.int p0_persons, .int p0_skies, .int p0_oaths, .ref a_p0_kind, .ref a_p0_skyAt, .ref a_p0_skyLoud, .ref a_p0_one, .ref a_p0_other, .ref a_p0_worth, .ref a_p0_hangs, .ref a_p0_now, .ref a_p0_readPerson, .ref a_p0_readSky, .ref a_p0_readOath, .int p0_readPersons, .int p0_readSkies, .int p0_readOaths, .ref a_p0_text, .int p0_length, .int p0_at, .int p0_faultAt, .int p0_acts, .int p0_next, .ref a_p0_row, .int p0_told, .ref a_p0_toldAt, .ref a_p0_toldWool, .ref a_p0_toldHeard, .long p0_seed, .ref a_p0_isKept, .ref a_p0_kept])), (a_p0_kind, .inl (cI, 5, .inl p0_kind)), (a_p0_skyAt, .inl (cI, 5, .inl p0_skyAt)), (a_p0_skyLoud, .inl (cI, 5, .inl p0_skyLoud)), (a_p0_one, .inl (cI, 5, .inl p0_one)), (a_p0_other, .inl (cI, 5, .inl p0_other)), (a_p0_worth, .inl (cI, 5, .inl p0_worth)), (a_p0_hangs, .inl (cI, 5, .inl p0_hangs)), (a_p0_now, .inl (cI, 18, .inl y64_p0_now))]) (c_X7_has l D cI cZ y46_7 y64_9 r_28 hr_28) (va_cwS 2 hts gX7_comes_X7_has rfl rfl rfl (by decide +kernel) ⟨Nat.le_of_ble_eq_true rfl, Nat.le_of_ble_eq_true rfl⟩) [] rfl rfl rfl rfl rfl hl.1 rfl (Nat.le_of_ble_eq_true rfl) ⟨Nat.le_of_ble_eq_true rfl, Nat.le_of_ble_eq_true rfl⟩ dX7_comes_99 (fun hzr_28 H locs hW => ?_)
                      refine lv_if_ne (tgt := 109) hx hb dX7_comes_102 (by decide) (fun c_29 => ?_) (fun c_29 => ?_)
                      · have hf := it_f c_29 hf
                        refine lv_iconst (v := 0) hx hb dX7_comes_109 (by decide) ?_
                        obtain ⟨r_30, hr_30, hf⟩ := bnd hf
                        refine q_callVI hB hW (ci := 7) (q0 := 0) rfl rfl rfl (As := [.int (1 : Int32), .int (0 : Int32)]) (rest := []) (ws' := [(a_p0, .inr (7, [.int p0_persons, .int p0_skies, .int p0_oaths, .ref a_p0_kind, .ref a_p0_skyAt, .ref a_p0_skyLoud, .ref a_p0_one, .ref a_p0_other, .ref a_p0_worth, .ref a_p0_hangs, .ref a_p0_now, .ref a_p0_readPerson, .ref a_p0_readSky, .ref a_p0_readOath, .int p0_readPersons, .int p0_readSkies, .int p0_readOaths, .ref a_p0_text, .int p0_length, .int p0_at, .int p0_faultAt, .int p0_acts, .int p0_next, .ref a_p0_row, .int p0_told, .ref a_p0_toldAt, .ref a_p0_toldWool, .ref a_p0_toldHeard, .long p0_seed, .ref a_p0_isKept, .ref a_p0_kept])), (a_p0_kind, .inl (cI, 5, .inl p0_kind)), (a_p0_skyAt, .inl (cI, 5, .inl p0_skyAt)), (a_p0_skyLoud, .inl (cI, 5, .inl p0_skyLoud)), (a_p0_one, .inl (cI, 5, .inl p0_one)), (a_p0_other, .inl (cI, 5, .inl p0_other)), (a_p0_worth, .inl (cI, 5, .inl p0_worth)), (a_p0_hangs, .inl (cI, 5, .inl p0_hangs)), (a_p0_now, .inl (cI, 18, .inl r_30.2))]) (c_X7_passOn l D cI cZ a_p0 a_p0_kind a_p0_skyAt a_p0_skyLoud a_p0_one a_p0_other a_p0_worth a_p0_hangs a_p0_now a_p0_readPerson a_p0_readSky a_p0_readOath a_p0_text a_p0_row a_p0_toldAt a_p0_toldWool a_p0_toldHeard a_p0_isKept a_p0_kept p0_persons p0_skies p0_oaths p0_readPersons p0_readSkies p0_readOaths p0_length p0_at p0_faultAt p0_acts p0_next p0_told p0_seed p0_kind p0_skyAt p0_skyLoud p0_one p0_other p0_worth p0_hangs y64_p0_now (1 : Int32) (0 : Int32) r_30 hr_30) (cwV 2 hts gX7_comes_X7_passOn rfl rfl rfl (by decide +kernel) ⟨Nat.le_of_ble_eq_true rfl, Nat.le_of_ble_eq_true rfl⟩) [0, 1, 2, 3, 4, 5, 6, 7, 8] rfl rfl rfl rfl rfl hl.1 rfl (Nat.le_of_ble_eq_true rfl) ⟨Nat.le_of_ble_eq_true rfl, Nat.le_of_ble_eq_true rfl⟩ dX7_comes_110 (fun H locs hW => ?_)
                        refine lv_pop hx hb dX7_comes_113 rfl ?_
                        refine lv_iinc (v := (y64_9 + (1 : Int32))) (lv' := [(9, .int (y64_9 + (1 : Int32))), (8, .int w_27), (0, .ref a_p0), (1, .int v1), (2, .int v2), (3, .int v3), (4, .int v4), (5, .int y46_5), (6, .int y46_6), (7, .int y46_7)]) hx hb dX7_comes_114 hl (k := 9) rfl rfl (by decide) rfl (fun ls hl => ?_)
                        refine lv_goto (tgt := 64) hx hb dX7_comes_117 (by decide) ?_
                        have h9 := o_inl hf ho_64
                        exact ih w_27 (y64_9 + (1 : Int32)) r_30.2 _ _ _ h9 hW (lv_sub hl [2, 3, 4, 5, 6, 7, 8, 9, 1, 0] rfl)
                      · have hf := it_t c_29 hf
                        refine lv_iconst (v := 1) hx hb dX7_comes_105 (by decide) ?_
                        refine lv_goto (tgt := 110) hx hb dX7_comes_106 (by decide) ?_
                        obtain ⟨r_31, hr_31, hf⟩ := bnd hf
                        refine q_callVI hB hW (ci := 7) (q0 := 0) rfl rfl rfl (As := [.int (1 : Int32), .int (1 : Int32)]) (rest := []) (ws' := [(a_p0, .inr (7, [.int p0_persons, .int p0_skies, .int p0_oaths, .ref a_p0_kind, .ref a_p0_skyAt, .ref a_p0_skyLoud, .ref a_p0_one, .ref a_p0_other, .ref a_p0_worth, .ref a_p0_hangs, .ref a_p0_now, .ref a_p0_readPerson, .ref a_p0_readSky, .ref a_p0_readOath, .int p0_readPersons, .int p0_readSkies, .int p0_readOaths, .ref a_p0_text, .int p0_length, .int p0_at, .int p0_faultAt, .int p0_acts, .int p0_next, .ref a_p0_row, .int p0_told, .ref a_p0_toldAt, .ref a_p0_toldWool, .ref a_p0_toldHeard, .long p0_seed, .ref a_p0_isKept, .ref a_p0_kept])), (a_p0_kind, .inl (cI, 5, .inl p0_kind)), (a_p0_skyAt, .inl (cI, 5, .inl p0_skyAt)), (a_p0_skyLoud, .inl (cI, 5, .inl p0_skyLoud)), (a_p0_one, .inl (cI, 5, .inl p0_one)), (a_p0_other, .inl (cI, 5, .inl p0_other)), (a_p0_worth, .inl (cI, 5, .inl p0_worth)), (a_p0_hangs, .inl (cI, 5, .inl p0_hangs)), (a_p0_now, .inl (cI, 18, .inl r_31.2))]) (c_X7_passOn l D cI cZ a_p0 a_p0_kind a_p0_skyAt a_p0_skyLoud a_p0_one a_p0_other a_p0_worth a_p0_hangs a_p0_now a_p0_readPerson a_p0_readSky a_p0_readOath a_p0_text a_p0_row a_p0_toldAt a_p0_toldWool a_p0_toldHeard a_p0_isKept a_p0_kept p0_persons p0_skies p0_oaths p0_readPersons p0_readSkies p0_readOaths p0_length p0_at p0_faultAt p0_acts p0_next p0_told p0_seed p0_kind p0_skyAt p0_skyLoud p0_one p0_other p0_worth p0_hangs y64_p0_now (1 : Int32) (1 : Int32) r_31 hr_31) (cwV 2 hts gX7_comes_X7_passOn rfl rfl rfl (by decide +kernel) ⟨Nat.le_of_ble_eq_true rfl, Nat.le_of_ble_eq_true rfl⟩) [0, 1, 2, 3, 4, 5, 6, 7, 8] rfl rfl rfl rfl rfl hl.1 rfl (Nat.le_of_ble_eq_true rfl) ⟨Nat.le_of_ble_eq_true rfl, Nat.le_of_ble_eq_true rfl⟩ dX7_comes_110 (fun H locs hW => ?_)
                        refine lv_pop hx hb dX7_comes_113 rfl ?_
                        refine lv_iinc (v := (y64_9 + (1 : Int32))) (lv' := [(9, .int (y64_9 + (1 : Int32))), (8, .int w_27), (0, .ref a_p0), (1, .int v1), (2, .int v2), (3, .int v3), (4, .int v4), (5, .int y46_5), (6, .int y46_6), (7, .int y46_7)]) hx hb dX7_comes_114 hl (k := 9) rfl rfl (by decide) rfl (fun ls hl => ?_)
                        refine lv_goto (tgt := 64) hx hb dX7_comes_117 (by decide) ?_
                        have h9 := o_inl hf ho_64
                        exact ih w_27 (y64_9 + (1 : Int32)) r_31.2 _ _ _ h9 hW (lv_sub hl [2, 3, 4, 5, 6, 7, 8, 9, 1, 0] rfl)
              exact L_64 FU (1 : Int32) (0 : Int32) r_12 _ _ _ hl_64 hW (lv_sub hl [2, 3, 4, 5, 6, 7, 8, 9, 1, 0] rfl)
        exact L_46 FU (0 : Int32) (0 : Int32) (0 : Int32) p0_now _ _ _ hl_46 hW (lv_sub hl [3, 4, 5, 6, 7, 2, 1, 0] rfl)
      · have hf := it_t c_6 hf
        refine lv_bipush (v := -2) hx hb dX7_comes_34 (by decide) ?_
        exact hE _ _ _ _ _ ((-2 : Int32), p0_now) (sm hf) hW rfl dX7_comes_36
  · have hf := it_t c_2 hf
    refine lv_iconst (v := -1) hx hb dX7_comes_8 (by decide) ?_
    exact hE _ _ _ _ _ ((-1 : Int32), p0_now) (sm hf) hW rfl dX7_comes_9
def f_X7_seed (v1 : Int64) (p0_seed : Int64) : Option (Int64 × Int64) := some (p0_seed, v1)
set_option maxHeartbeats 4000000 in
set_option maxRecDepth 100000 in
theorem c_X7_seed (l : Launch) (D : va_G) (cI cZ : ClassId) (a_p0 a_p0_kind a_p0_skyAt a_p0_skyLoud a_p0_one a_p0_other a_p0_worth a_p0_hangs a_p0_now a_p0_readPerson a_p0_readSky a_p0_readOath a_p0_text a_p0_row a_p0_toldAt a_p0_toldWool a_p0_toldHeard a_p0_isKept a_p0_kept : Nat) (p0_persons : Int32) (p0_skies : Int32) (p0_oaths : Int32) (p0_readPersons : Int32) (p0_readSkies : Int32) (p0_readOaths : Int32) (p0_length : Int32) (p0_at : Int32) (p0_faultAt : Int32) (p0_acts : Int32) (p0_next : Int32) (p0_told : Int32) (p0_seed : Int64) (v1 : Int64) (q : Int64 × Int64) (hf : f_X7_seed v1 p0_seed = some q) : CtL l D cI cZ yX7_seed wsX7_seed 0 0 [.ref a_p0, .long v1] [(a_p0, .inr (7, [.int p0_persons, .int p0_skies, .int p0_oaths, .ref a_p0_kind, .ref a_p0_skyAt, .ref a_p0_skyLoud, .ref a_p0_one, .ref a_p0_other, .ref a_p0_worth, .ref a_p0_hangs, .ref a_p0_now, .ref a_p0_readPerson, .ref a_p0_readSky, .ref a_p0_readOath, .int p0_readPersons, .int p0_readSkies, .int p0_readOaths, .ref a_p0_text, .int p0_length, .int p0_at, .int p0_faultAt, .int p0_acts, .int p0_next, .ref a_p0_row, .int p0_told, .ref a_p0_toldAt, .ref a_p0_toldWool, .ref a_p0_toldHeard, .long p0_seed, .ref a_p0_isKept, .ref a_p0_kept]))] (fun q => [(a_p0, .inr (7, [.int p0_persons, .int p0_skies, .int p0_oaths, .ref a_p0_kind, .ref a_p0_skyAt, .ref a_p0_skyLoud, .ref a_p0_one, .ref a_p0_other, .ref a_p0_worth, .ref a_p0_hangs, .ref a_p0_now, .ref a_p0_readPerson, .ref a_p0_readSky, .ref a_p0_readOath, .int p0_readPersons, .int p0_readSkies, .int p0_readOaths, .ref a_p0_text, .int p0_length, .int p0_at, .int p0_faultAt, .int p0_acts, .int p0_next, .ref a_p0_row, .int p0_told, .ref a_p0_toldAt, .ref a_p0_toldWool, .ref a_p0_toldHeard, .long q.2, .ref a_p0_isKept, .ref a_p0_kept]))]) (fun q => q.1) q := by
  refine CtL.of (cc := cX7_seed) (maxL := 5) (plainFor_of_name (by decide)) rfl (Nat.le_of_ble_eq_true rfl) ?_
  intro p e s m args below meth c A Q H ls hB hE hW hl
  have hx := hB.1
  have hb := hB.2.1
  have hml := hB.2.2.2.1
  have hown : s.vm.findClass RX7 = some m.cls := hB.2.2.2.2.1
  have hts := hB.2.2.2.2.2.1
  have hK := hB.2.2.2.2.2.2.2.1.1
  have hl : lv_has ls 5 [(0, .ref a_p0), (1, .long v1)] := hl
  have in_X7 : ∀ w ∈ wsX70, w ∈ wsX7_seed := fun w h => List.mem_cons_of_mem _ (List.mem_append_right _ h)
  have fl_235 : (Cond.fieldLink RX7 235 (TX7 28).1 (TX7 28).2.1 (TX7 28).2.2.1).before args s = true := hts (.fieldLink RX7 235 "ClapOathsModel" "seed" "J") (by decide +kernel)
  unfold f_X7_seed at hf
  refine lv_aload_n hx hb dX7_seed_0 rfl (lv_at hl 0 rfl) ?_
  refine q_get hB hW 7 in_X7 0 rfl rfl 28 (by decide) fl_235 (v := .long p0_seed) rfl dX7_seed_1 ?_
  refine lv_lstore_n (lv' := [(3, .long p0_seed), (0, .ref a_p0), (1, .long v1)]) hx hb dX7_seed_4 rfl hl (by decide) rfl (fun ls hl => ?_)
  refine lv_aload_n hx hb dX7_seed_5 rfl (lv_at hl 1 rfl) ?_
  refine lv_lload_n hx hb dX7_seed_6 rfl (lv_at hl 2 rfl) ?_
  refine q_put hB hW 7 in_X7 tyX7 tyX7_ok nmX7 0 rfl rfl 28 (by decide) fl_235 rfl (by first | rfl | decide) (by first | rfl | decide) (Nat.le_of_ble_eq_true rfl) (ws' := [(a_p0, .inr (7, [.int p0_persons, .int p0_skies, .int p0_oaths, .ref a_p0_kind, .ref a_p0_skyAt, .ref a_p0_skyLoud, .ref a_p0_one, .ref a_p0_other, .ref a_p0_worth, .ref a_p0_hangs, .ref a_p0_now, .ref a_p0_readPerson, .ref a_p0_readSky, .ref a_p0_readOath, .int p0_readPersons, .int p0_readSkies, .int p0_readOaths, .ref a_p0_text, .int p0_length, .int p0_at, .int p0_faultAt, .int p0_acts, .int p0_next, .ref a_p0_row, .int p0_told, .ref a_p0_toldAt, .ref a_p0_toldWool, .ref a_p0_toldHeard, .long v1, .ref a_p0_isKept, .ref a_p0_kept]))]) rfl dX7_seed_7 (fun H locs hW => ?_)
  refine lv_lload_n hx hb dX7_seed_10 rfl (lv_at hl 0 rfl) ?_
  exact hE _ _ _ _ _ (p0_seed, v1) (sm hf) hW rfl dX7_seed_11
