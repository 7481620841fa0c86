def b_X4_hearers_5 (v1 : Int32) (v2 : Int32) (p0_places : Int32) (p0_wool : Int32) (p0_land_persons : Int32) (p0_land_kinds : Nat → Int32) (v3 : Int32) (v4 : Int32) : Option ((Int32 × Int32) ⊕ (Int32)) := if p0_land_persons ≤ v4 then some (.inr v3) else (f_X4_placeOf v4 p0_places).bind fun r_507 => (f_X6_bit p0_wool v4).bind fun r_508 => if r_508 = (1 : Int32) then (f_X6_reaches v1 v2 r_507 (1 : Int32)).bind fun r_515 => if r_515 = (0 : Int32) then some (.inl (v3, (v4 + (1 : Int32)))) else (f_X6_at 5 v4 p0_land_kinds).bind fun r_517 => if r_517 = (2 : Int32) then some (.inl (v3, (v4 + (1 : Int32)))) else (some (v3 ||| ((1 : Int32) <<< (v4 &&& 31)))).bind fun w_519 => some (.inl (w_519, (v4 + (1 : Int32)))) else (f_X6_reaches v1 v2 r_507 (0 : Int32)).bind fun r_510 => if r_510 = (0 : Int32) then some (.inl (v3, (v4 + (1 : Int32)))) else (f_X6_at 5 v4 p0_land_kinds).bind fun r_512 => if r_512 = (2 : Int32) then some (.inl (v3, (v4 + (1 : Int32)))) else (some (v3 ||| ((1 : Int32) <<< (v4 &&& 31)))).bind fun w_514 => some (.inl (w_514, (v4 + (1 : Int32))))
def f_X4_hearers (v1 : Int32) (v2 : Int32) (p0_places : Int32) (p0_wool : Int32) (p0_land_persons : Int32) (p0_land_kinds : Nat → Int32) : Option (Int32) := (itr (fun s => b_X4_hearers_5 v1 v2 p0_places p0_wool p0_land_persons p0_land_kinds s.1 s.2) FU ((0 : Int32), (0 : Int32))).bind fun x_5 => some x_5
set_option maxHeartbeats 4000000 in
set_option maxRecDepth 100000 in
theorem c_X4_hearers (l : Launch) (D : va_G) (cI cZ : ClassId) (a_p0 a_p0_land a_p0_land_places a_p0_land_kinds a_p0_land_clapPlaces a_p0_land_louds a_p0_land_ones a_p0_land_others a_p0_land_worths a_p0_land_hangs : Nat) (p0_places : Int32) (p0_wool : Int32) (p0_sworn : Int32) (p0_worth : Int32) (p0_day : Int32) (p0_land_persons : Int32) (p0_land_skies : Int32) (p0_land_oaths : Int32) (p0_land_kinds : Nat → Int32) (v1 : Int32) (v2 : Int32) (q : Int32) (hf : f_X4_hearers v1 v2 p0_places p0_wool p0_land_persons p0_land_kinds = some q) : CtI l D cI cZ yX4_hearers wsX4_hearers 1 24 [.ref a_p0, .int v1, .int v2] [(a_p0, .inr (4, [.ref a_p0_land, .int p0_places, .int p0_wool, .int p0_sworn, .int p0_worth, .int p0_day])), (a_p0_land, .inr (1, [.ref a_p0_land_places, .ref a_p0_land_kinds, .ref a_p0_land_clapPlaces, .ref a_p0_land_louds, .ref a_p0_land_ones, .ref a_p0_land_others, .ref a_p0_land_worths, .ref a_p0_land_hangs, .int p0_land_persons, .int p0_land_skies, .int p0_land_oaths])), (a_p0_land_kinds, .inl (cI, 5, .inl p0_land_kinds))] (fun q => [(a_p0, .inr (4, [.ref a_p0_land, .int p0_places, .int p0_wool, .int p0_sworn, .int p0_worth, .int p0_day])), (a_p0_land, .inr (1, [.ref a_p0_land_places, .ref a_p0_land_kinds, .ref a_p0_land_clapPlaces, .ref a_p0_land_louds, .ref a_p0_land_ones, .ref a_p0_land_others, .ref a_p0_land_worths, .ref a_p0_land_hangs, .int p0_land_persons, .int p0_land_skies, .int p0_land_oaths])), (a_p0_land_kinds, .inl (cI, 5, .inl p0_land_kinds))]) (fun q => q) q := by
  refine CtI.of (cc := cX4_hearers) (maxL := 6) (plainFor_of_name (by decide)) rfl (Nat.le_of_ble_eq_true rfl) ?_
  intro p e s m args below meth c A Q H ls hB hE hW hl
  have hx := hB.1
  have hb := hB.2.1
  have hml := hB.2.2.2.1
  have hown : s.vm.findClass RX4 = some m.cls := hB.2.2.2.2.1
  have hts := hB.2.2.2.2.2.1
  have hK := hB.2.2.2.2.2.2.2.1.1
  have hl : lv_has ls 6 [(0, .ref a_p0), (1, .int v1), (2, .int v2)] := hl
  have in_X1 : ∀ w ∈ wsX10, w ∈ wsX4_hearers := fun w h => List.mem_cons_of_mem _ (List.mem_append_right _ h)
  have in_X4 : ∀ w ∈ wsX40, w ∈ wsX4_hearers := fun w h => List.mem_cons_of_mem _ (List.mem_append_left _ (List.mem_append_right _ h))
  have fl_9 : (Cond.fieldLink RX4 9 (TX4 0).1 (TX4 0).2.1 (TX4 0).2.2.1).before args s = true := hts (.fieldLink RX4 9 "ClapOaths$Standing" "land" "LClapOaths$County;") (by decide +kernel)
  have fl_19 : (Cond.fieldLink RX4 19 (TX4 2).1 (TX4 2).2.1 (TX4 2).2.2.1).before args s = true := hts (.fieldLink RX4 19 "ClapOaths$Standing" "wool" "I") (by decide +kernel)
  have fl_31 : (Cond.fieldLink RX4 31 (TX1 8).1 (TX1 8).2.1 (TX1 8).2.2.1).before args s = true := hts (.fieldLink RX4 31 "ClapOaths$County" "persons" "I") (by decide +kernel)
  have fl_95 : (Cond.fieldLink RX4 95 (TX1 1).1 (TX1 1).2.1 (TX1 1).2.2.1).before args s = true := hts (.fieldLink RX4 95 "ClapOaths$County" "kinds" "[I") (by decide +kernel)
  unfold f_X4_hearers at hf
  refine lv_iconst (v := 0) hx hb dX4_hearers_0 (by decide) ?_
  refine lv_istore_n (lv' := [(3, .int (0 : Int32)), (0, .ref a_p0), (1, .int v1), (2, .int v2)]) hx hb dX4_hearers_1 rfl hl (by decide) rfl (fun ls hl => ?_)
  refine lv_iconst (v := 0) hx hb dX4_hearers_2 (by decide) ?_
  refine lv_istore (lv' := [(4, .int (0 : Int32)), (3, .int (0 : Int32)), (0, .ref a_p0), (1, .int v1), (2, .int v2)]) hx hb dX4_hearers_3 hl (by decide) rfl (fun ls hl => ?_)
  obtain ⟨e_5, hl_5, hk_5⟩ := bnd hf
  have K_5 : ∀ x_5 : Int32, x_5 = e_5 → ∀ (H : Heap) (locs : List Loc) (ls : Array Slot), Wl D A s.heap [(a_p0, .inr (4, [.ref a_p0_land, .int p0_places, .int p0_wool, .int p0_sworn, .int p0_worth, .int p0_day])), (a_p0_land, .inr (1, [.ref a_p0_land_places, .ref a_p0_land_kinds, .ref a_p0_land_clapPlaces, .ref a_p0_land_louds, .ref a_p0_land_ones, .ref a_p0_land_others, .ref a_p0_land_worths, .ref a_p0_land_hangs, .int p0_land_persons, .int p0_land_skies, .int p0_land_oaths])), (a_p0_land_kinds, .inl (cI, 5, .inl p0_land_kinds))] H locs → lv_has ls 6 [(3, .int x_5)] → W p l e (Rm 1 24) s m args below meth c H locs 0 0 Q (F0 m 82 ls []) := by
    intro x_5 hx_5 H locs ls hW hl
    have hf := hk_5
    rw [← hx_5] at hf
    refine lv_iload_n hx hb dX4_hearers_82 rfl (lv_at hl 0 rfl) ?_
    exact hE _ _ _ _ _ x_5 (sm hf) hW rfl dX4_hearers_83
  have L_5 : ∀ (n : Nat) (y5_3 : Int32) (y5_4 : Int32) (H : Heap) (locs : List Loc) (ls : Array Slot), itr (fun s => b_X4_hearers_5 v1 v2 p0_places p0_wool p0_land_persons p0_land_kinds s.1 s.2) n (y5_3, y5_4) = some e_5 → Wl D A s.heap [(a_p0, .inr (4, [.ref a_p0_land, .int p0_places, .int p0_wool, .int p0_sworn, .int p0_worth, .int p0_day])), (a_p0_land, .inr (1, [.ref a_p0_land_places, .ref a_p0_land_kinds, .ref a_p0_land_clapPlaces, .ref a_p0_land_louds, .ref a_p0_land_ones, .ref a_p0_land_others, .ref a_p0_land_worths, .ref a_p0_land_hangs, .int p0_land_persons, .int p0_land_skies, .int p0_land_oaths])), (a_p0_land_kinds, .inl (cI, 5, .inl p0_land_kinds))] H locs → lv_has ls 6 [(0, .ref a_p0), (1, .int v1), (2, .int v2), (3, .int y5_3), (4, .int y5_4)] → W p l e (Rm 1 24) s m args below meth c H locs 0 0 Q (F0 m 5 ls []) := by
    intro n
    induction n with
    | zero => intro y5_3 y5_4 H locs ls h9; exact itr_0 h9
    | succ n ih =>
      intro y5_3 y5_4 H locs ls hf hW hl
      obtain ⟨o_5, hf, ho_5⟩ := itr_inv hf
      have hf : b_X4_hearers_5 v1 v2 p0_places p0_wool p0_land_persons p0_land_kinds y5_3 y5_4 = some o_5 := hf
      unfold b_X4_hearers_5 at hf
      refine lv_iload hx hb dX4_hearers_5 (lv_at hl 4 rfl) ?_
      refine lv_aload_n hx hb dX4_hearers_7 rfl (lv_at hl 0 rfl) ?_
      refine q_get hB hW 4 in_X4 0 rfl rfl 0 (by decide) fl_9 (v := .ref a_p0_land) rfl dX4_hearers_8 ?_
      refine q_get hB hW 1 in_X1 1 rfl rfl 8 (by decide) fl_31 (v := .int p0_land_persons) rfl dX4_hearers_11 ?_
      refine lv_icmp_ge (tgt := 82) hx hb dX4_hearers_14 (by decide) (fun c_1 => ?_) (fun c_1 => ?_)
      · have hf := it_t c_1 hf
        have h9 := o_inr hf ho_5
        exact K_5 y5_3 h9 _ _ _ hW (lv_sub hl [3] rfl)
      · have hf := it_f c_1 hf
        refine lv_iload_n hx hb dX4_hearers_17 rfl (lv_at hl 1 rfl) ?_
        refine lv_iload_n hx hb dX4_hearers_18 rfl (lv_at hl 2 rfl) ?_
        refine lv_aload_n hx hb dX4_hearers_19 rfl (lv_at hl 0 rfl) ?_
        refine lv_iload hx hb dX4_hearers_20 (lv_at hl 4 rfl) ?_
        obtain ⟨r_2, hr_2, hf⟩ := bnd hf
        refine q_callVI hB hW (ci := 4) (q0 := 0) rfl rfl rfl (As := [.int y5_4]) (rest := [.int v2, .int v1]) (ws' := [(a_p0, .inr (4, [.ref a_p0_land, .int p0_places, .int p0_wool, .int p0_sworn, .int p0_worth, .int p0_day])), (a_p0_land, .inr (1, [.ref a_p0_land_places, .ref a_p0_land_kinds, .ref a_p0_land_clapPlaces, .ref a_p0_land_louds, .ref a_p0_land_ones, .ref a_p0_land_others, .ref a_p0_land_worths, .ref a_p0_land_hangs, .int p0_land_persons, .int p0_land_skies, .int p0_land_oaths])), (a_p0_land_kinds, .inl (cI, 5, .inl p0_land_kinds))]) (c_X4_placeOf l D cI cZ a_p0 a_p0_land p0_places p0_wool p0_sworn p0_worth p0_day y5_4 r_2 hr_2) (cwV 1 hts gX4_hearers_X4_placeOf rfl rfl rfl (by decide +kernel) ⟨Nat.le_of_ble_eq_true rfl, Nat.le_of_ble_eq_true rfl⟩) [0] rfl rfl rfl rfl rfl hl.1 rfl (Nat.le_of_ble_eq_true rfl) ⟨Nat.le_of_ble_eq_true rfl, Nat.le_of_ble_eq_true rfl⟩ dX4_hearers_22 (fun H locs hW => ?_)
        refine lv_aload_n hx hb dX4_hearers_25 rfl (lv_at hl 0 rfl) ?_
        refine q_get hB hW 4 in_X4 0 rfl rfl 2 (by decide) fl_19 (v := .int p0_wool) rfl dX4_hearers_26 ?_
        refine lv_iload hx hb dX4_hearers_29 (lv_at hl 4 rfl) ?_
        obtain ⟨r_3, hr_3, hf⟩ := bnd hf
        refine q_callNI hB hW (As := [.int p0_wool, .int y5_4]) (rest := [.int r_2, .int v2, .int v1]) (ws' := [(a_p0, .inr (4, [.ref a_p0_land, .int p0_places, .int p0_wool, .int p0_sworn, .int p0_worth, .int p0_day])), (a_p0_land, .inr (1, [.ref a_p0_land_places, .ref a_p0_land_kinds, .ref a_p0_land_clapPlaces, .ref a_p0_land_louds, .ref a_p0_land_ones, .ref a_p0_land_others, .ref a_p0_land_worths, .ref a_p0_land_hangs, .int p0_land_persons, .int p0_land_skies, .int p0_land_oaths])), (a_p0_land_kinds, .inl (cI, 5, .inl p0_land_kinds))]) (c_X6_bit l D cI cZ p0_wool y5_4 r_3 hr_3) ⟨va_cnB 2 hts gX4_hearers_X6_bit_n61 rfl rfl rfl (hB.2.2.2.2.2.2.2.1.2 (RX4, 61, yX6_bit, RX6) (by decide +kernel)) (hts (.initialized RX6) (by decide +kernel)) (by decide +kernel) ⟨Nat.le_of_ble_eq_true rfl, Nat.le_of_ble_eq_true rfl⟩, hts (.static yX6_bit) (by decide +kernel), trivial⟩ [] rfl rfl rfl rfl rfl hl.1 rfl (Nat.le_of_ble_eq_true rfl) ⟨Nat.le_of_ble_eq_true rfl, Nat.le_of_ble_eq_true rfl⟩ dX4_hearers_31 (fun H locs hW => ?_)
        refine lv_iconst (v := 1) hx hb dX4_hearers_34 (by decide) ?_
        refine lv_icmp_ne (tgt := 42) hx hb dX4_hearers_35 (by decide) (fun c_4 => ?_) (fun c_4 => ?_)
        · have hf := it_f c_4 hf
          refine lv_iconst (v := 0) hx hb dX4_hearers_42 (by decide) ?_
          obtain ⟨r_5, hr_5, hf⟩ := bnd hf
          refine q_callNZ hB hW (As := [.int v1, .int v2, .int r_2, .int (0 : Int32)]) (rest := []) (ws' := [(a_p0, .inr (4, [.ref a_p0_land, .int p0_places, .int p0_wool, .int p0_sworn, .int p0_worth, .int p0_day])), (a_p0_land, .inr (1, [.ref a_p0_land_places, .ref a_p0_land_kinds, .ref a_p0_land_clapPlaces, .ref a_p0_land_louds, .ref a_p0_land_ones, .ref a_p0_land_others, .ref a_p0_land_worths, .ref a_p0_land_hangs, .int p0_land_persons, .int p0_land_skies, .int p0_land_oaths])), (a_p0_land_kinds, .inl (cI, 5, .inl p0_land_kinds))]) (c_X6_reaches l D cI cZ v1 v2 r_2 (0 : Int32) r_5 hr_5) ⟨va_cnB 4 hts gX4_hearers_X6_reaches_n91 rfl rfl rfl (hB.2.2.2.2.2.2.2.1.2 (RX4, 91, yX6_reaches, RX6) (by decide +kernel)) (hts (.initialized RX6) (by decide +kernel)) (by decide +kernel) ⟨Nat.le_of_ble_eq_true rfl, Nat.le_of_ble_eq_true rfl⟩, hts (.static yX6_reaches) (by decide +kernel), trivial⟩ [] rfl rfl rfl rfl rfl hl.1 rfl (Nat.le_of_ble_eq_true rfl) ⟨Nat.le_of_ble_eq_true rfl, Nat.le_of_ble_eq_true rfl⟩ dX4_hearers_43 (fun hzr_5 H locs hW => ?_)
          refine lv_istore (lv' := [(5, .int r_5), (0, .ref a_p0), (1, .int v1), (2, .int v2), (3, .int y5_3), (4, .int y5_4)]) hx hb dX4_hearers_46 hl (by decide) rfl (fun ls hl => ?_)
          refine lv_iload hx hb dX4_hearers_48 (lv_at hl 0 rfl) ?_
          refine lv_if_eq (tgt := 76) hx hb dX4_hearers_50 (by decide) (fun c_6 => ?_) (fun c_6 => ?_)
          · have hf := it_t c_6 hf
            refine lv_iinc (v := (y5_4 + (1 : Int32))) (lv' := [(4, .int (y5_4 + (1 : Int32))), (5, .int r_5), (0, .ref a_p0), (1, .int v1), (2, .int v2), (3, .int y5_3)]) hx hb dX4_hearers_76 hl (k := 5) rfl rfl (by decide) rfl (fun ls hl => ?_)
            refine lv_goto (tgt := 5) hx hb dX4_hearers_79 (by decide) ?_
            have h9 := o_inl hf ho_5
            exact ih y5_3 (y5_4 + (1 : Int32)) _ _ _ h9 hW (lv_sub hl [2, 3, 4, 5, 0] rfl)
          · have hf := it_f c_6 hf
            refine lv_aload_n hx hb dX4_hearers_53 rfl (lv_at hl 1 rfl) ?_
            refine q_get hB hW 4 in_X4 0 rfl rfl 0 (by decide) fl_9 (v := .ref a_p0_land) rfl dX4_hearers_54 ?_
            refine q_get hB hW 1 in_X1 1 rfl rfl 1 (by decide) fl_95 (v := .ref a_p0_land_kinds) rfl dX4_hearers_57 ?_
            refine lv_iload hx hb dX4_hearers_60 (lv_at hl 5 rfl) ?_
            obtain ⟨r_7, hr_7, hf⟩ := bnd hf
            refine q_callNI hB hW (As := [.ref a_p0_land_kinds, .int y5_4]) (rest := []) (ws' := [(a_p0, .inr (4, [.ref a_p0_land, .int p0_places, .int p0_wool, .int p0_sworn, .int p0_worth, .int p0_day])), (a_p0_land, .inr (1, [.ref a_p0_land_places, .ref a_p0_land_kinds, .ref a_p0_land_clapPlaces, .ref a_p0_land_louds, .ref a_p0_land_ones, .ref a_p0_land_others, .ref a_p0_land_worths, .ref a_p0_land_hangs, .int p0_land_persons, .int p0_land_skies, .int p0_land_oaths])), (a_p0_land_kinds, .inl (cI, 5, .inl p0_land_kinds))]) (c_X6_at l D cI cZ a_p0_land_kinds 5 p0_land_kinds y5_4 r_7 hr_7) ⟨va_cnB 2 hts gX4_hearers_X6_at_n39 rfl rfl rfl (hB.2.2.2.2.2.2.2.1.2 (RX4, 39, yX6_at, RX6) (by decide +kernel)) (hts (.initialized RX6) (by decide +kernel)) (by decide +kernel) ⟨Nat.le_of_ble_eq_true rfl, Nat.le_of_ble_eq_true rfl⟩, hts (.static yX6_at) (by decide +kernel), trivial⟩ [2] rfl rfl rfl rfl rfl hl.1 rfl (Nat.le_of_ble_eq_true rfl) ⟨Nat.le_of_ble_eq_true rfl, Nat.le_of_ble_eq_true rfl⟩ dX4_hearers_62 (fun H locs hW => ?_)
            refine lv_iconst (v := 2) hx hb dX4_hearers_65 (by decide) ?_
            refine lv_icmp_eq (tgt := 76) hx hb dX4_hearers_66 (by decide) (fun c_8 => ?_) (fun c_8 => ?_)
            · have hf := it_t c_8 hf
              refine lv_iinc (v := (y5_4 + (1 : Int32))) (lv' := [(4, .int (y5_4 + (1 : Int32))), (5, .int r_5), (0, .ref a_p0), (1, .int v1), (2, .int v2), (3, .int y5_3)]) hx hb dX4_hearers_76 hl (k := 5) rfl rfl (by decide) rfl (fun ls hl => ?_)
              refine lv_goto (tgt := 5) hx hb dX4_hearers_79 (by decide) ?_
              have h9 := o_inl hf ho_5
              exact ih y5_3 (y5_4 + (1 : Int32)) _ _ _ h9 hW (lv_sub hl [2, 3, 4, 5, 0] rfl)
            · have hf := it_f c_8 hf
              refine lv_iload_n hx hb dX4_hearers_69 rfl (lv_at hl 4 rfl) ?_
              refine lv_iconst (v := 1) hx hb dX4_hearers_70 (by decide) ?_
              refine lv_iload hx hb dX4_hearers_71 (lv_at hl 5 rfl) ?_
              refine lv_ishl hx hb dX4_hearers_73 ?_
              refine lv_ior hx hb dX4_hearers_74 ?_
              obtain ⟨w_9, hw_9, hf⟩ := bnd hf
              refine q_nmI hw_9 ?_
              refine lv_istore_n (lv' := [(3, .int w_9), (5, .int r_5), (0, .ref a_p0), (1, .int v1), (2, .int v2), (4, .int y5_4)]) hx hb dX4_hearers_75 rfl hl (by decide) rfl (fun ls hl => ?_)
              refine lv_iinc (v := (y5_4 + (1 : Int32))) (lv' := [(4, .int (y5_4 + (1 : Int32))), (3, .int w_9), (5, .int r_5), (0, .ref a_p0), (1, .int v1), (2, .int v2)]) hx hb dX4_hearers_76 hl (k := 5) rfl rfl (by decide) rfl (fun ls hl => ?_)
              refine lv_goto (tgt := 5) hx hb dX4_hearers_79 (by decide) ?_
              have h9 := o_inl hf ho_5
              exact ih w_9 (y5_4 + (1 : Int32)) _ _ _ h9 hW (lv_sub hl [3, 4, 5, 1, 0] rfl)
        · have hf := it_t c_4 hf
          refine lv_iconst (v := 1) hx hb dX4_hearers_38 (by decide) ?_
          refine lv_goto (tgt := 43) hx hb dX4_hearers_39 (by decide) ?_
          obtain ⟨r_10, hr_10, hf⟩ := bnd hf
          refine q_callNZ hB hW (As := [.int v1, .int v2, .int r_2, .int (1 : Int32)]) (rest := []) (ws' := [(a_p0, .inr (4, [.ref a_p0_land, .int p0_places, .int p0_wool, .int p0_sworn, .int p0_worth, .int p0_day])), (a_p0_land, .inr (1, [.ref a_p0_land_places, .ref a_p0_land_kinds, .ref a_p0_land_clapPlaces, .ref a_p0_land_louds, .ref a_p0_land_ones, .ref a_p0_land_others, .ref a_p0_land_worths, .ref a_p0_land_hangs, .int p0_land_persons, .int p0_land_skies, .int p0_land_oaths])), (a_p0_land_kinds, .inl (cI, 5, .inl p0_land_kinds))]) (c_X6_reaches l D cI cZ v1 v2 r_2 (1 : Int32) r_10 hr_10) ⟨va_cnB 4 hts gX4_hearers_X6_reaches_n91 rfl rfl rfl (hB.2.2.2.2.2.2.2.1.2 (RX4, 91, yX6_reaches, RX6) (by decide +kernel)) (hts (.initialized RX6) (by decide +kernel)) (by decide +kernel) ⟨Nat.le_of_ble_eq_true rfl, Nat.le_of_ble_eq_true rfl⟩, hts (.static yX6_reaches) (by decide +kernel), trivial⟩ [] rfl rfl rfl rfl rfl hl.1 rfl (Nat.le_of_ble_eq_true rfl) ⟨Nat.le_of_ble_eq_true rfl, Nat.le_of_ble_eq_true rfl⟩ dX4_hearers_43 (fun hzr_10 H locs hW => ?_)
          refine lv_istore (lv' := [(5, .int r_10), (0, .ref a_p0), (1, .int v1), (2, .int v2), (3, .int y5_3), (4, .int y5_4)]) hx hb dX4_hearers_46 hl (by decide) rfl (fun ls hl => ?_)
          refine lv_iload hx hb dX4_hearers_48 (lv_at hl 0 rfl) ?_
          refine lv_if_eq (tgt := 76) hx hb dX4_hearers_50 (by decide) (fun c_11 => ?_) (fun c_11 => ?_)
          · have hf := it_t c_11 hf
            refine lv_iinc (v := (y5_4 + (1 : Int32))) (lv' := [(4, .int (y5_4 + (1 : Int32))), (5, .int r_10), (0, .ref a_p0), (1, .int v1), (2, .int v2), (3, .int y5_3)]) hx hb dX4_hearers_76 hl (k := 5) rfl rfl (by decide) rfl (fun ls hl => ?_)
            refine lv_goto (tgt := 5) hx hb dX4_hearers_79 (by decide) ?_
            have h9 := o_inl hf ho_5
            exact ih y5_3 (y5_4 + (1 : Int32)) _ _ _ h9 hW (lv_sub hl [2, 3, 4, 5, 0] rfl)
          · have hf := it_f c_11 hf
            refine lv_aload_n hx hb dX4_hearers_53 rfl (lv_at hl 1 rfl) ?_
            refine q_get hB hW 4 in_X4 0 rfl rfl 0 (by decide) fl_9 (v := .ref a_p0_land) rfl dX4_hearers_54 ?_
            refine q_get hB hW 1 in_X1 1 rfl rfl 1 (by decide) fl_95 (v := .ref a_p0_land_kinds) rfl dX4_hearers_57 ?_
            refine lv_iload hx hb dX4_hearers_60 (lv_at hl 5 rfl) ?_
            obtain ⟨r_12, hr_12, hf⟩ := bnd hf
            refine q_callNI hB hW (As := [.ref a_p0_land_kinds, .int y5_4]) (rest := []) (ws' := [(a_p0, .inr (4, [.ref a_p0_land, .int p0_places, .int p0_wool, .int p0_sworn, .int p0_worth, .int p0_day])), (a_p0_land, .inr (1, [.ref a_p0_land_places, .ref a_p0_land_kinds, .ref a_p0_land_clapPlaces, .ref a_p0_land_louds, .ref a_p0_land_ones, .ref a_p0_land_others, .ref a_p0_land_worths, .ref a_p0_land_hangs, .int p0_land_persons, .int p0_land_skies, .int p0_land_oaths])), (a_p0_land_kinds, .inl (cI, 5, .inl p0_land_kinds))]) (c_X6_at l D cI cZ a_p0_land_kinds 5 p0_land_kinds y5_4 r_12 hr_12) ⟨va_cnB 2 hts gX4_hearers_X6_at_n39 rfl rfl rfl (hB.2.2.2.2.2.2.2.1.2 (RX4, 39, yX6_at, RX6) (by decide +kernel)) (hts (.initialized RX6) (by decide +kernel)) (by decide +kernel) ⟨Nat.le_of_ble_eq_true rfl, Nat.le_of_ble_eq_true rfl⟩, hts (.static yX6_at) (by decide +kernel), trivial⟩ [2] rfl rfl rfl rfl rfl hl.1 rfl (Nat.le_of_ble_eq_true rfl) ⟨Nat.le_of_ble_eq_true rfl, Nat.le_of_ble_eq_true rfl⟩ dX4_hearers_62 (fun H locs hW => ?_)
            refine lv_iconst (v := 2) hx hb dX4_hearers_65 (by decide) ?_
            refine lv_icmp_eq (tgt := 76) hx hb dX4_hearers_66 (by decide) (fun c_13 => ?_) (fun c_13 => ?_)
            · have hf := it_t c_13 hf
              refine lv_iinc (v := (y5_4 + (1 : Int32))) (lv' := [(4, .int (y5_4 + (1 : Int32))), (5, .int r_10), (0, .ref a_p0), (1, .int v1), (2, .int v2), (3, .int y5_3)]) hx hb dX4_hearers_76 hl (k := 5) rfl rfl (by decide) rfl (fun ls hl => ?_)
              refine lv_goto (tgt := 5) hx hb dX4_hearers_79 (by decide) ?_
              have h9 := o_inl hf ho_5
              exact ih y5_3 (y5_4 + (1 : Int32)) _ _ _ h9 hW (lv_sub hl [2, 3, 4, 5, 0] rfl)
            · have hf := it_f c_13 hf
              refine lv_iload_n hx hb dX4_hearers_69 rfl (lv_at hl 4 rfl) ?_
              refine lv_iconst (v := 1) hx hb dX4_hearers_70 (by decide) ?_
              refine lv_iload hx hb dX4_hearers_71 (lv_at hl 5 rfl) ?_
              refine lv_ishl hx hb dX4_hearers_73 ?_
              refine lv_ior hx hb dX4_hearers_74 ?_
              obtain ⟨w_14, hw_14, hf⟩ := bnd hf
              refine q_nmI hw_14 ?_
              refine lv_istore_n (lv' := [(3, .int w_14), (5, .int r_10), (0, .ref a_p0), (1, .int v1), (2, .int v2), (4, .int y5_4)]) hx hb dX4_hearers_75 rfl hl (by decide) rfl (fun ls hl => ?_)
              refine lv_iinc (v := (y5_4 + (1 : Int32))) (lv' := [(4, .int (y5_4 + (1 : Int32))), (3, .int w_14), (5, .int r_10), (0, .ref a_p0), (1, .int v1), (2, .int v2)]) hx hb dX4_hearers_76 hl (k := 5) rfl rfl (by decide) rfl (fun ls hl => ?_)
              refine lv_goto (tgt := 5) hx hb dX4_hearers_79 (by decide) ?_
              have h9 := o_inl hf ho_5
              exact ih w_14 (y5_4 + (1 : Int32)) _ _ _ h9 hW (lv_sub hl [3, 4, 5, 1, 0] rfl)
  exact L_5 FU (0 : Int32) (0 : Int32) _ _ _ hl_5 hW (lv_sub hl [2, 3, 4, 1, 0] rfl)
def f_X4_skyHearers (p0_places : Int32) (p0_wool : Int32) (p0_day : Int32) (p0_land_persons : Int32) (p0_land_skies : Int32) (p0_land_kinds : Nat → Int32) (p0_land_clapPlaces : Nat → Int32) (p0_land_louds : Nat → Int32) : Option (Int32) := (f_X1_skyOn p0_day p0_land_skies).bind fun r_1 => if r_1 = (-9 : Int32) then some (0 : Int32) else (f_X6_at 5 r_1 p0_land_louds).bind fun r_3 => if r_3 = (-1 : Int32) then some (0 : Int32) else (f_X6_at 5 r_1 p0_land_clapPlaces).bind fun r_5 => (f_X6_at 5 r_1 p0_land_louds).bind fun r_6 => (f_X4_hearers r_5 r_6 p0_places p0_wool p0_land_persons p0_land_kinds).bind fun r_7 => some r_7
set_option maxHeartbeats 4000000 in
set_option maxRecDepth 100000 in
theorem c_X4_skyHearers (l : Launch) (D : va_G) (cI cZ : ClassId) (a_p0 a_p0_land a_p0_land_places a_p0_land_kinds a_p0_land_clapPlaces a_p0_land_louds a_p0_land_ones a_p0_land_others a_p0_land_worths a_p0_land_hangs : Nat) (p0_places : Int32) (p0_wool : Int32) (p0_sworn : Int32) (p0_worth : Int32) (p0_day : Int32) (p0_land_persons : Int32) (p0_land_skies : Int32) (p0_land_oaths : Int32) (p0_land_kinds : Nat → Int32) (p0_land_clapPlaces : Nat → Int32) (p0_land_louds : Nat → Int32) (q : Int32) (hf : f_X4_skyHearers p0_places p0_wool p0_day p0_land_persons p0_land_skies p0_land_kinds p0_land_clapPlaces p0_land_louds = some q) : CtI l D cI cZ yX4_skyHearers wsX4_skyHearers 2 49 [.ref a_p0] [(a_p0, .inr (4, [.ref a_p0_land, .int p0_places, .int p0_wool, .int p0_sworn, .int p0_worth, .int p0_day])), (a_p0_land, .inr (1, [.ref a_p0_land_places, .ref a_p0_land_kinds, .ref a_p0_land_clapPlaces, .ref a_p0_land_louds, .ref a_p0_land_ones, .ref a_p0_land_others, .ref a_p0_land_worths, .ref a_p0_land_hangs, .int p0_land_persons, .int p0_land_skies, .int p0_land_oaths])), (a_p0_land_kinds, .inl (cI, 5, .inl p0_land_kinds)), (a_p0_land_clapPlaces, .inl (cI, 5, .inl p0_land_clapPlaces)), (a_p0_land_louds, .inl (cI, 5, .inl p0_land_louds))] (fun q => [(a_p0, .inr (4, [.ref a_p0_land, .int p0_places, .int p0_wool, .int p0_sworn, .int p0_worth, .int p0_day])), (a_p0_land, .inr (1, [.ref a_p0_land_places, .ref a_p0_land_kinds, .ref a_p0_land_clapPlaces, .ref a_p0_land_louds, .ref a_p0_land_ones, .ref a_p0_land_others, .ref a_p0_land_worths, .ref a_p0_land_hangs, .int p0_land_persons, .int p0_land_skies, .int p0_land_oaths])), (a_p0_land_kinds, .inl (cI, 5, .inl p0_land_kinds)), (a_p0_land_clapPlaces, .inl (cI, 5, .inl p0_land_clapPlaces)), (a_p0_land_louds, .inl (cI, 5, .inl p0_land_louds))]) (fun q => q) q := by
  refine CtI.of (cc := cX4_skyHearers) (maxL := 2) (plainFor_of_name (by decide)) rfl (Nat.le_of_ble_eq_true rfl) ?_
  intro p e s m args below meth c A Q H ls hB hE hW hl
  have hx := hB.1
  have hb := hB.2.1
  have hml := hB.2.2.2.1
  have hown : s.vm.findClass RX4 = some m.cls := hB.2.2.2.2.1
  have hts := hB.2.2.2.2.2.1
  have hK := hB.2.2.2.2.2.2.2.1.1
  have hl : lv_has ls 2 [(0, .ref a_p0)] := hl
  have in_X1 : ∀ w ∈ wsX10, w ∈ wsX4_skyHearers := fun w h => List.mem_cons_of_mem _ (List.mem_append_right _ h)
  have in_X4 : ∀ w ∈ wsX40, w ∈ wsX4_skyHearers := fun w h => List.mem_cons_of_mem _ (List.mem_append_left _ (List.mem_append_right _ h))
  have fl_9 : (Cond.fieldLink RX4 9 (TX4 0).1 (TX4 0).2.1 (TX4 0).2.2.1).before args s = true := hts (.fieldLink RX4 9 "ClapOaths$Standing" "land" "LClapOaths$County;") (by decide +kernel)
  have fl_28 : (Cond.fieldLink RX4 28 (TX4 5).1 (TX4 5).2.1 (TX4 5).2.2.1).before args s = true := hts (.fieldLink RX4 28 "ClapOaths$Standing" "day" "I") (by decide +kernel)
  have fl_101 : (Cond.fieldLink RX4 101 (TX1 3).1 (TX1 3).2.1 (TX1 3).2.2.1).before args s = true := hts (.fieldLink RX4 101 "ClapOaths$County" "louds" "[I") (by decide +kernel)
  have fl_104 : (Cond.fieldLink RX4 104 (TX1 2).1 (TX1 2).2.1 (TX1 2).2.2.1).before args s = true := hts (.fieldLink RX4 104 "ClapOaths$County" "clapPlaces" "[I") (by decide +kernel)
  unfold f_X4_skyHearers at hf
  refine lv_aload_n hx hb dX4_skyHearers_0 rfl (lv_at hl 0 rfl) ?_
  refine q_get hB hW 4 in_X4 0 rfl rfl 0 (by decide) fl_9 (v := .ref a_p0_land) rfl dX4_skyHearers_1 ?_
  refine lv_aload_n hx hb dX4_skyHearers_4 rfl (lv_at hl 0 rfl) ?_
  refine q_get hB hW 4 in_X4 0 rfl rfl 5 (by decide) fl_28 (v := .int p0_day) rfl dX4_skyHearers_5 ?_
  obtain ⟨r_1, hr_1, hf⟩ := bnd hf
  refine q_callVI hB hW (ci := 1) (q0 := 0) rfl rfl rfl (As := [.int p0_day]) (rest := []) (ws' := [(a_p0, .inr (4, [.ref a_p0_land, .int p0_places, .int p0_wool, .int p0_sworn, .int p0_worth, .int p0_day])), (a_p0_land, .inr (1, [.ref a_p0_land_places, .ref a_p0_land_kinds, .ref a_p0_land_clapPlaces, .ref a_p0_land_louds, .ref a_p0_land_ones, .ref a_p0_land_others, .ref a_p0_land_worths, .ref a_p0_land_hangs, .int p0_land_persons, .int p0_land_skies, .int p0_land_oaths])), (a_p0_land_kinds, .inl (cI, 5, .inl p0_land_kinds)), (a_p0_land_clapPlaces, .inl (cI, 5, .inl p0_land_clapPlaces)), (a_p0_land_louds, .inl (cI, 5, .inl p0_land_louds))]) (c_X1_skyOn l D cI cZ a_p0_land a_p0_land_places a_p0_land_kinds a_p0_land_clapPlaces a_p0_land_louds a_p0_land_ones a_p0_land_others a_p0_land_worths a_p0_land_hangs p0_land_persons p0_land_skies p0_land_oaths p0_day r_1 hr_1) (cwV 1 hts gX4_skyHearers_X1_skyOn rfl rfl rfl (by decide +kernel) ⟨Nat.le_of_ble_eq_true rfl, Nat.le_of_ble_eq_true rfl⟩) [1] rfl rfl rfl rfl rfl hl.1 rfl (Nat.le_of_ble_eq_true rfl) ⟨Nat.le_of_ble_eq_true rfl, Nat.le_of_ble_eq_true rfl⟩ dX4_skyHearers_8 (fun H locs hW => ?_)
  refine lv_istore_n (lv' := [(1, .int r_1), (0, .ref a_p0)]) hx hb dX4_skyHearers_11 rfl hl (by decide) rfl (fun ls hl => ?_)
  refine lv_iload_n hx hb dX4_skyHearers_12 rfl (lv_at hl 0 rfl) ?_
  refine lv_bipush (v := -9) hx hb dX4_skyHearers_13 (by decide) ?_
  refine lv_icmp_eq (tgt := 33) hx hb dX4_skyHearers_15 (by decide) (fun c_2 => ?_) (fun c_2 => ?_)
  · have hf := it_t c_2 hf
    refine lv_iconst (v := 0) hx hb dX4_skyHearers_33 (by decide) ?_
    exact hE _ _ _ _ _ (0 : Int32) (sm hf) hW rfl dX4_skyHearers_34
  · have hf := it_f c_2 hf
    refine lv_aload_n hx hb dX4_skyHearers_18 rfl (lv_at hl 1 rfl) ?_
    refine q_get hB hW 4 in_X4 0 rfl rfl 0 (by decide) fl_9 (v := .ref a_p0_land) rfl dX4_skyHearers_19 ?_
    refine q_get hB hW 1 in_X1 1 rfl rfl 3 (by decide) fl_101 (v := .ref a_p0_land_louds) rfl dX4_skyHearers_22 ?_
    refine lv_iload_n hx hb dX4_skyHearers_25 rfl (lv_at hl 0 rfl) ?_
    obtain ⟨r_3, hr_3, hf⟩ := bnd hf
    refine q_callNI hB hW (As := [.ref a_p0_land_louds, .int r_1]) (rest := []) (ws' := [(a_p0, .inr (4, [.ref a_p0_land, .int p0_places, .int p0_wool, .int p0_sworn, .int p0_worth, .int p0_day])), (a_p0_land, .inr (1, [.ref a_p0_land_places, .ref a_p0_land_kinds, .ref a_p0_land_clapPlaces, .ref a_p0_land_louds, .ref a_p0_land_ones, .ref a_p0_land_others, .ref a_p0_land_worths, .ref a_p0_land_hangs, .int p0_land_persons, .int p0_land_skies, .int p0_land_oaths])), (a_p0_land_kinds, .inl (cI, 5, .inl p0_land_kinds)), (a_p0_land_clapPlaces, .inl (cI, 5, .inl p0_land_clapPlaces)), (a_p0_land_louds, .inl (cI, 5, .inl p0_land_louds))]) (c_X6_at l D cI cZ a_p0_land_louds 5 p0_land_louds r_1 r_3 hr_3) ⟨va_cnB 2 hts gX4_skyHearers_X6_at_n39 rfl rfl rfl (hB.2.2.2.2.2.2.2.1.2 (RX4, 39, yX6_at, RX6) (by decide +kernel)) (hts (.initialized RX6) (by decide +kernel)) (by decide +kernel) ⟨Nat.le_of_ble_eq_true rfl, Nat.le_of_ble_eq_true rfl⟩, hts (.static yX6_at) (by decide +kernel), trivial⟩ [4] rfl rfl rfl rfl rfl hl.1 rfl (Nat.le_of_ble_eq_true rfl) ⟨Nat.le_of_ble_eq_true rfl, Nat.le_of_ble_eq_true rfl⟩ dX4_skyHearers_26 (fun H locs hW => ?_)
    refine lv_iconst (v := -1) hx hb dX4_skyHearers_29 (by decide) ?_
    refine lv_icmp_ne (tgt := 35) hx hb dX4_skyHearers_30 (by decide) (fun c_4 => ?_) (fun c_4 => ?_)
    · have hf := it_f c_4 hf
      refine lv_aload_n hx hb dX4_skyHearers_35 rfl (lv_at hl 1 rfl) ?_
      refine lv_aload_n hx hb dX4_skyHearers_36 rfl (lv_at hl 1 rfl) ?_
      refine q_get hB hW 4 in_X4 0 rfl rfl 0 (by decide) fl_9 (v := .ref a_p0_land) rfl dX4_skyHearers_37 ?_
      refine q_get hB hW 1 in_X1 1 rfl rfl 2 (by decide) fl_104 (v := .ref a_p0_land_clapPlaces) rfl dX4_skyHearers_40 ?_
      refine lv_iload_n hx hb dX4_skyHearers_43 rfl (lv_at hl 0 rfl) ?_
      obtain ⟨r_5, hr_5, hf⟩ := bnd hf
      refine q_callNI hB hW (As := [.ref a_p0_land_clapPlaces, .int r_1]) (rest := [.ref a_p0]) (ws' := [(a_p0, .inr (4, [.ref a_p0_land, .int p0_places, .int p0_wool, .int p0_sworn, .int p0_worth, .int p0_day])), (a_p0_land, .inr (1, [.ref a_p0_land_places, .ref a_p0_land_kinds, .ref a_p0_land_clapPlaces, .ref a_p0_land_louds, .ref a_p0_land_ones, .ref a_p0_land_others, .ref a_p0_land_worths, .ref a_p0_land_hangs, .int p0_land_persons, .int p0_land_skies, .int p0_land_oaths])), (a_p0_land_kinds, .inl (cI, 5, .inl p0_land_kinds)), (a_p0_land_clapPlaces, .inl (cI, 5, .inl p0_land_clapPlaces)), (a_p0_land_louds, .inl (cI, 5, .inl p0_land_louds))]) (c_X6_at l D cI cZ a_p0_land_clapPlaces 5 p0_land_clapPlaces r_1 r_5 hr_5) ⟨va_cnB 2 hts gX4_skyHearers_X6_at_n39 rfl rfl rfl (hB.2.2.2.2.2.2.2.1.2 (RX4, 39, yX6_at, RX6) (by decide +kernel)) (hts (.initialized RX6) (by decide +kernel)) (by decide +kernel) ⟨Nat.le_of_ble_eq_true rfl, Nat.le_of_ble_eq_true rfl⟩, hts (.static yX6_at) (by decide +kernel), trivial⟩ [3] rfl rfl rfl rfl rfl hl.1 rfl (Nat.le_of_ble_eq_true rfl) ⟨Nat.le_of_ble_eq_true rfl, Nat.le_of_ble_eq_true rfl⟩ dX4_skyHearers_44 (fun H locs hW => ?_)
      refine lv_aload_n hx hb dX4_skyHearers_47 rfl (lv_at hl 1 rfl) ?_
      refine q_get hB hW 4 in_X4 0 rfl rfl 0 (by decide) fl_9 (v := .ref a_p0_land) rfl dX4_skyHearers_48 ?_
      refine q_get hB hW 1 in_X1 1 rfl rfl 3 (by decide) fl_101 (v := .ref a_p0_land_louds) rfl dX4_skyHearers_51 ?_
      refine lv_iload_n hx hb dX4_skyHearers_54 rfl (lv_at hl 0 rfl) ?_
      obtain ⟨r_6, hr_6, hf⟩ := bnd hf
      refine q_callNI hB hW (As := [.ref a_p0_land_louds, .int r_1]) (rest := [.int r_5, .ref a_p0]) (ws' := [(a_p0, .inr (4, [.ref a_p0_land, .int p0_places, .int p0_wool, .int p0_sworn, .int p0_worth, .int p0_day])), (a_p0_land, .inr (1, [.ref a_p0_land_places, .ref a_p0_land_kinds, .ref a_p0_land_clapPlaces, .ref a_p0_land_louds, .ref a_p0_land_ones, .ref a_p0_land_others, .ref a_p0_land_worths, .ref a_p0_land_hangs, .int p0_land_persons, .int p0_land_skies, .int p0_land_oaths])), (a_p0_land_kinds, .inl (cI, 5, .inl p0_land_kinds)), (a_p0_land_clapPlaces, .inl (cI, 5, .inl p0_land_clapPlaces)), (a_p0_land_louds, .inl (cI, 5, .inl p0_land_louds))]) (c_X6_at l D cI cZ a_p0_land_louds 5 p0_land_louds r_1 r_6 hr_6) ⟨va_cnB 2 hts gX4_skyHearers_X6_at_n39 rfl rfl rfl (hB.2.2.2.2.2.2.2.1.2 (RX4, 39, yX6_at, RX6) (by decide +kernel)) (hts (.initialized RX6) (by decide +kernel)) (by decide +kernel) ⟨Nat.le_of_ble_eq_true rfl, Nat.le_of_ble_eq_true rfl⟩, hts (.static yX6_at) (by decide +kernel), trivial⟩ [4] rfl rfl rfl rfl rfl hl.1 rfl (Nat.le_of_ble_eq_true rfl) ⟨Nat.le_of_ble_eq_true rfl, Nat.le_of_ble_eq_true rfl⟩ dX4_skyHearers_55 (fun H locs hW => ?_)
      obtain ⟨r_7, hr_7, hf⟩ := bnd hf
      refine q_callVI hB hW (ci := 4) (q0 := 0) rfl rfl rfl (As := [.int r_5, .int r_6]) (rest := []) (ws' := [(a_p0, .inr (4, [.ref a_p0_land, .int p0_places, .int p0_wool, .int p0_sworn, .int p0_worth, .int p0_day])), (a_p0_land, .inr (1, [.ref a_p0_land_places, .ref a_p0_land_kinds, .ref a_p0_land_clapPlaces, .ref a_p0_land_louds, .ref a_p0_land_ones, .ref a_p0_land_others, .ref a_p0_land_worths, .ref a_p0_land_hangs, .int p0_land_persons, .int p0_land_skies, .int p0_land_oaths])), (a_p0_land_kinds, .inl (cI, 5, .inl p0_land_kinds)), (a_p0_land_clapPlaces, .inl (cI, 5, .inl p0_land_clapPlaces)), (a_p0_land_louds, .inl (cI, 5, .inl p0_land_louds))]) (c_X4_hearers l D cI cZ a_p0 a_p0_land a_p0_land_places a_p0_land_kinds a_p0_land_clapPlaces a_p0_land_louds a_p0_land_ones a_p0_land_others a_p0_land_worths a_p0_land_hangs p0_places p0_wool p0_sworn p0_worth p0_day p0_land_persons p0_land_skies p0_land_oaths p0_land_kinds r_5 r_6 r_7 hr_7) (cwV 2 hts gX4_skyHearers_X4_hearers rfl rfl rfl (by decide +kernel) ⟨Nat.le_of_ble_eq_true rfl, Nat.le_of_ble_eq_true rfl⟩) [0, 1, 2] rfl rfl rfl rfl rfl hl.1 rfl (Nat.le_of_ble_eq_true rfl) ⟨Nat.le_of_ble_eq_true rfl, Nat.le_of_ble_eq_true rfl⟩ dX4_skyHearers_58 (fun H locs hW => ?_)
      exact hE _ _ _ _ _ r_7 (sm hf) hW rfl dX4_skyHearers_61
    · have hf := it_t c_4 hf
      refine lv_iconst (v := 0) hx hb dX4_skyHearers_33 (by decide) ?_
      exact hE _ _ _ _ _ (0 : Int32) (sm hf) hW rfl dX4_skyHearers_34
def f_X6_person (v1 : Int32) (v2 : Int32) (p0_land_persons : Int32) (p0_land_skies : Int32) (p0_land_oaths : Int32) (p0_now_places : Int32) (p0_now_wool : Int32) (p0_now_sworn : Int32) (p0_now_day : Int32) (p0_land_kinds : Nat → Int32) (p0_land_clapPlaces : Nat → Int32) (p0_land_louds : Nat → Int32) (p0_land_ones : Nat → Int32) (p0_land_others : Nat → Int32) : Option (Int32) := (f_X1_hasPerson v1 p0_land_persons).bind fun r_1 => if r_1 = (0 : Int32) then some (-1 : Int32) else if v2 = (0 : Int32) then (f_X4_placeOf v1 p0_now_places).bind fun r_4 => some r_4 else if v2 = (1 : Int32) then (f_X6_at 5 v1 p0_land_kinds).bind fun r_6 => some r_6 else if v2 = (2 : Int32) then (f_X6_bit p0_now_wool v1).bind fun r_8 => some r_8 else if v2 = (3 : Int32) then (f_X1_oathsOf v1 p0_land_oaths p0_land_ones p0_land_others).bind fun r_10 => some r_10 else if v2 = (4 : Int32) then (f_X1_oathsOf v1 p0_land_oaths p0_land_ones p0_land_others).bind fun r_12 => some (r_12 &&& p0_now_sworn) else if v2 = (5 : Int32) then (f_X4_skyHearers p0_now_places p0_now_wool p0_now_day p0_land_persons p0_land_skies p0_land_kinds p0_land_clapPlaces p0_land_louds).bind fun r_14 => (f_X6_bit r_14 v1).bind fun r_15 => some r_15 else some (-2 : Int32)
set_option maxHeartbeats 4000000 in
set_option maxRecDepth 100000 in
theorem c_X6_person (l : Launch) (D : va_G) (cI cZ : ClassId) (a_p0 a_p0_text a_p0_reader a_p0_draft a_p0_land a_p0_now a_p0_trial a_p0_acts a_p0_hearings a_p0_kept a_p0_land_places a_p0_land_kinds a_p0_land_clapPlaces a_p0_land_louds a_p0_land_ones a_p0_land_others a_p0_land_worths a_p0_land_hangs : Nat) (p0_keptSlots : Int32) (p0_seedNow : Int64) (p0_land_persons : Int32) (p0_land_skies : Int32) (p0_land_oaths : Int32) (p0_now_places : Int32) (p0_now_wool : Int32) (p0_now_sworn : Int32) (p0_now_worth : Int32) (p0_now_day : Int32) (p0_land_kinds : Nat → Int32) (p0_land_clapPlaces : Nat → Int32) (p0_land_louds : Nat → Int32) (p0_land_ones : Nat → Int32) (p0_land_others : Nat → Int32) (v1 : Int32) (v2 : Int32) (q : Int32) (hf : f_X6_person v1 v2 p0_land_persons p0_land_skies p0_land_oaths p0_now_places p0_now_wool p0_now_sworn p0_now_day p0_land_kinds p0_land_clapPlaces p0_land_louds p0_land_ones p0_land_others = some q) : CtI l D cI cZ yX6_person wsX6_person 3 70 [.ref a_p0, .int v1, .int v2] [(a_p0, .inr (6, [.ref a_p0_text, .ref a_p0_reader, .ref a_p0_draft, .ref a_p0_land, .ref a_p0_now, .ref a_p0_trial, .ref a_p0_acts, .ref a_p0_hearings, .ref a_p0_kept, .int p0_keptSlots, .long p0_seedNow])), (a_p0_land, .inr (1, [.ref a_p0_land_places, .ref a_p0_land_kinds, .ref a_p0_land_clapPlaces, .ref a_p0_land_louds, .ref a_p0_land_ones, .ref a_p0_land_others, .ref a_p0_land_worths, .ref a_p0_land_hangs, .int p0_land_persons, .int p0_land_skies, .int p0_land_oaths])), (a_p0_now, .inr (4, [.ref a_p0_land, .int p0_now_places, .int p0_now_wool, .int p0_now_sworn, .int p0_now_worth, .int p0_now_day])), (a_p0_land_kinds, .inl (cI, 5, .inl p0_land_kinds)), (a_p0_land_clapPlaces, .inl (cI, 5, .inl p0_land_clapPlaces)), (a_p0_land_louds, .inl (cI, 5, .inl p0_land_louds)), (a_p0_land_ones, .inl (cI, 5, .inl p0_land_ones)), (a_p0_land_others, .inl (cI, 5, .inl p0_land_others))] (fun q => [(a_p0, .inr (6, [.ref a_p0_text, .ref a_p0_reader, .ref a_p0_draft, .ref a_p0_land, .ref a_p0_now, .ref a_p0_trial, .ref a_p0_acts, .ref a_p0_hearings, .ref a_p0_kept, .int p0_keptSlots, .long p0_seedNow])), (a_p0_land, .inr (1, [.ref a_p0_land_places, .ref a_p0_land_kinds, .ref a_p0_land_clapPlaces, .ref a_p0_land_louds, .ref a_p0_land_ones, .ref a_p0_land_others, .ref a_p0_land_worths, .ref a_p0_land_hangs, .int p0_land_persons, .int p0_land_skies, .int p0_land_oaths])), (a_p0_now, .inr (4, [.ref a_p0_land, .int p0_now_places, .int p0_now_wool, .int p0_now_sworn, .int p0_now_worth, .int p0_now_day])), (a_p0_land_kinds, .inl (cI, 5, .inl p0_land_kinds)), (a_p0_land_clapPlaces, .inl (cI, 5, .inl p0_land_clapPlaces)), (a_p0_land_louds, .inl (cI, 5, .inl p0_land_louds)), (a_p0_land_ones, .inl (cI, 5, .inl p0_land_ones)), (a_p0_land_others, .inl (cI, 5, .inl p0_land_others))]) (fun q => q) q := by
  refine CtI.of (cc := cX6_person) (maxL := 3) (plainFor_of_name (by decide)) rfl (Nat.le_of_ble_eq_true rfl) ?_
  intro p e s m args below meth c A Q H ls hB hE hW hl
  have hx := hB.1
  have hb := hB.2.1
  have hml := hB.2.2.2.1
  have hown : s.vm.findClass RX6 = some m.cls := hB.2.2.2.2.1
  have hts := hB.2.2.2.2.2.1
  have hK := hB.2.2.2.2.2.2.2.1.1
  have hl : lv_has ls 3 [(0, .ref a_p0), (1, .int v1), (2, .int v2)] := hl
  have in_X1 : ∀ w ∈ wsX10, w ∈ wsX6_person := fun w h => List.mem_cons_of_mem _ (List.mem_append_left _ (List.mem_append_right _ h))
  have in_X4 : ∀ w ∈ wsX40, w ∈ wsX6_person := fun w h => List.mem_cons_of_mem _ (List.mem_append_right _ h)
  have in_X6 : ∀ w ∈ wsX60, w ∈ wsX6_person := fun w h => List.mem_cons_of_mem _ (List.mem_append_left _ (List.mem_append_left _ (List.mem_append_right _ h)))
  have fl_32 : (Cond.fieldLink RX6 32 (TX6 3).1 (TX6 3).2.1 (TX6 3).2.2.1).before args s = true := hts (.fieldLink RX6 32 "ClapOaths" "land" "LClapOaths$County;") (by decide +kernel)
  have fl_40 : (Cond.fieldLink RX6 40 (TX6 4).1 (TX6 4).2.1 (TX6 4).2.2.1).before args s = true := hts (.fieldLink RX6 40 "ClapOaths" "now" "LClapOaths$Standing;") (by decide +kernel)
  have fl_108 : (Cond.fieldLink RX6 108 (TX1 1).1 (TX1 1).2.1 (TX1 1).2.2.1).before args s = true := hts (.fieldLink RX6 108 "ClapOaths$County" "kinds" "[I") (by decide +kernel)
  have fl_115 : (Cond.fieldLink RX6 115 (TX4 2).1 (TX4 2).2.1 (TX4 2).2.2.1).before args s = true := hts (.fieldLink RX6 115 "ClapOaths$Standing" "wool" "I") (by decide +kernel)
  have fl_125 : (Cond.fieldLink RX6 125 (TX4 3).1 (TX4 3).2.1 (TX4 3).2.2.1).before args s = true := hts (.fieldLink RX6 125 "ClapOaths$Standing" "sworn" "I") (by decide +kernel)
  unfold f_X6_person at hf
  refine lv_aload_n hx hb dX6_person_0 rfl (lv_at hl 0 rfl) ?_
  refine q_get hB hW 6 in_X6 0 rfl rfl 3 (by decide) fl_32 (v := .ref a_p0_land) rfl dX6_person_1 ?_
  refine lv_iload_n hx hb dX6_person_4 rfl (lv_at hl 1 rfl) ?_
  obtain ⟨r_1, hr_1, hf⟩ := bnd hf
  refine q_callVZ hB hW (ci := 1) (q0 := 0) rfl rfl rfl (As := [.int v1]) (rest := []) (ws' := [(a_p0, .inr (6, [.ref a_p0_text, .ref a_p0_reader, .ref a_p0_draft, .ref a_p0_land, .ref a_p0_now, .ref a_p0_trial, .ref a_p0_acts, .ref a_p0_hearings, .ref a_p0_kept, .int p0_keptSlots, .long p0_seedNow])), (a_p0_land, .inr (1, [.ref a_p0_land_places, .ref a_p0_land_kinds, .ref a_p0_land_clapPlaces, .ref a_p0_land_louds, .ref a_p0_land_ones, .ref a_p0_land_others, .ref a_p0_land_worths, .ref a_p0_land_hangs, .int p0_land_persons, .int p0_land_skies, .int p0_land_oaths])), (a_p0_now, .inr (4, [.ref a_p0_land, .int p0_now_places, .int p0_now_wool, .int p0_now_sworn, .int p0_now_worth, .int p0_now_day])), (a_p0_land_kinds, .inl (cI, 5, .inl p0_land_kinds)), (a_p0_land_clapPlaces, .inl (cI, 5, .inl p0_land_clapPlaces)), (a_p0_land_louds, .inl (cI, 5, .inl p0_land_louds)), (a_p0_land_ones, .inl (cI, 5, .inl p0_land_ones)), (a_p0_land_others, .inl (cI, 5, .inl p0_land_others))]) (c_X1_hasPerson l D cI cZ a_p0_land a_p0_land_places a_p0_land_kinds a_p0_land_clapPlaces a_p0_land_louds a_p0_land_ones a_p0_land_others a_p0_land_worths a_p0_land_hangs p0_land_persons p0_land_skies p0_land_oaths v1 r_1 hr_1) (cwV 1 hts gX6_person_X1_hasPerson rfl rfl rfl (by decide +kernel) ⟨Nat.le_of_ble_eq_true rfl, Nat.le_of_ble_eq_true rfl⟩) [1] rfl rfl rfl rfl rfl hl.1 rfl (Nat.le_of_ble_eq_true rfl) ⟨Nat.le_of_ble_eq_true rfl, Nat.le_of_ble_eq_true rfl⟩ dX6_person_5 (fun hzr_1 H locs hW => ?_)
  refine lv_if_ne (tgt := 13) hx hb dX6_person_8 (by decide) (fun c_2 => ?_) (fun c_2 => ?_)
  · have hf := it_f c_2 hf
    refine lv_iload_n hx hb dX6_person_13 rfl (lv_at hl 2 rfl) ?_
    by_cases c_3 : v2 = (0 : Int32)
    · have hf := it_t c_3 hf
      refine lv_tableIn (tgt := 52) (off := 38) hx hb dX6_person_14 (by rw [c_3]; decide) (by rw [c_3]; decide) (by rw [c_3]; rfl) (by decide) ?_
      refine lv_aload_n hx hb dX6_person_52 rfl (lv_at hl 0 rfl) ?_
      refine q_get hB hW 6 in_X6 0 rfl rfl 4 (by decide) fl_40 (v := .ref a_p0_now) rfl dX6_person_53 ?_
      refine lv_iload_n hx hb dX6_person_56 rfl (lv_at hl 1 rfl) ?_
      obtain ⟨r_4, hr_4, hf⟩ := bnd hf
      refine q_callVI hB hW (ci := 4) (q0 := 0) rfl rfl rfl (As := [.int v1]) (rest := []) (ws' := [(a_p0, .inr (6, [.ref a_p0_text, .ref a_p0_reader, .ref a_p0_draft, .ref a_p0_land, .ref a_p0_now, .ref a_p0_trial, .ref a_p0_acts, .ref a_p0_hearings, .ref a_p0_kept, .int p0_keptSlots, .long p0_seedNow])), (a_p0_land, .inr (1, [.ref a_p0_land_places, .ref a_p0_land_kinds, .ref a_p0_land_clapPlaces, .ref a_p0_land_louds, .ref a_p0_land_ones, .ref a_p0_land_others, .ref a_p0_land_worths, .ref a_p0_land_hangs, .int p0_land_persons, .int p0_land_skies, .int p0_land_oaths])), (a_p0_now, .inr (4, [.ref a_p0_land, .int p0_now_places, .int p0_now_wool, .int p0_now_sworn, .int p0_now_worth, .int p0_now_day])), (a_p0_land_kinds, .inl (cI, 5, .inl p0_land_kinds)), (a_p0_land_clapPlaces, .inl (cI, 5, .inl p0_land_clapPlaces)), (a_p0_land_louds, .inl (cI, 5, .inl p0_land_louds)), (a_p0_land_ones, .inl (cI, 5, .inl p0_land_ones)), (a_p0_land_others, .inl (cI, 5, .inl p0_land_others))]) (c_X4_placeOf l D cI cZ a_p0_now a_p0_land p0_now_places p0_now_wool p0_now_sworn p0_now_worth p0_now_day v1 r_4 hr_4) (cwV 1 hts gX6_person_X4_placeOf rfl rfl rfl (by decide +kernel) ⟨Nat.le_of_ble_eq_true rfl, Nat.le_of_ble_eq_true rfl⟩) [2] rfl rfl rfl rfl rfl hl.1 rfl (Nat.le_of_ble_eq_true rfl) ⟨Nat.le_of_ble_eq_true rfl, Nat.le_of_ble_eq_true rfl⟩ dX6_person_57 (fun H locs hW => ?_)
      exact hE _ _ _ _ _ r_4 (sm hf) hW rfl dX6_person_60
    have hf := it_f c_3 hf
    by_cases c_5 : v2 = (1 : Int32)
    · have hf := it_t c_5 hf
      refine lv_tableIn (tgt := 61) (off := 47) hx hb dX6_person_14 (by rw [c_5]; decide) (by rw [c_5]; decide) (by rw [c_5]; rfl) (by decide) ?_
      refine lv_aload_n hx hb dX6_person_61 rfl (lv_at hl 0 rfl) ?_
      refine q_get hB hW 6 in_X6 0 rfl rfl 3 (by decide) fl_32 (v := .ref a_p0_land) rfl dX6_person_62 ?_
      refine q_get hB hW 1 in_X1 1 rfl rfl 1 (by decide) fl_108 (v := .ref a_p0_land_kinds) rfl dX6_person_65 ?_
      refine lv_iload_n hx hb dX6_person_68 rfl (lv_at hl 1 rfl) ?_
      obtain ⟨r_6, hr_6, hf⟩ := bnd hf
      refine q_callSI hB hW (As := [.ref a_p0_land_kinds, .int v1]) (rest := []) (ws' := [(a_p0, .inr (6, [.ref a_p0_text, .ref a_p0_reader, .ref a_p0_draft, .ref a_p0_land, .ref a_p0_now, .ref a_p0_trial, .ref a_p0_acts, .ref a_p0_hearings, .ref a_p0_kept, .int p0_keptSlots, .long p0_seedNow])), (a_p0_land, .inr (1, [.ref a_p0_land_places, .ref a_p0_land_kinds, .ref a_p0_land_clapPlaces, .ref a_p0_land_louds, .ref a_p0_land_ones, .ref a_p0_land_others, .ref a_p0_land_worths, .ref a_p0_land_hangs, .int p0_land_persons, .int p0_land_skies, .int p0_land_oaths])), (a_p0_now, .inr (4, [.ref a_p0_land, .int p0_now_places, .int p0_now_wool, .int p0_now_sworn, .int p0_now_worth, .int p0_now_day])), (a_p0_land_kinds, .inl (cI, 5, .inl p0_land_kinds)), (a_p0_land_clapPlaces, .inl (cI, 5, .inl p0_land_clapPlaces)), (a_p0_land_louds, .inl (cI, 5, .inl p0_land_louds)), (a_p0_land_ones, .inl (cI, 5, .inl p0_land_ones)), (a_p0_land_others, .inl (cI, 5, .inl p0_land_others))]) (c_X6_at l D cI cZ a_p0_land_kinds 5 p0_land_kinds v1 r_6 hr_6) (va_cwS 2 hts gX6_person_X6_at rfl rfl rfl (by decide +kernel) ⟨Nat.le_of_ble_eq_true rfl, Nat.le_of_ble_eq_true rfl⟩) [3] rfl rfl rfl rfl rfl hl.1 rfl (Nat.le_of_ble_eq_true rfl) ⟨Nat.le_of_ble_eq_true rfl, Nat.le_of_ble_eq_true rfl⟩ dX6_person_69 (fun H locs hW => ?_)
      exact hE _ _ _ _ _ r_6 (sm hf) hW rfl dX6_person_72
    have hf := it_f c_5 hf
    by_cases c_7 : v2 = (2 : Int32)
    · have hf := it_t c_7 hf
      refine lv_tableIn (tgt := 73) (off := 59) hx hb dX6_person_14 (by rw [c_7]; decide) (by rw [c_7]; decide) (by rw [c_7]; rfl) (by decide) ?_
      refine lv_aload_n hx hb dX6_person_73 rfl (lv_at hl 0 rfl) ?_
      refine q_get hB hW 6 in_X6 0 rfl rfl 4 (by decide) fl_40 (v := .ref a_p0_now) rfl dX6_person_74 ?_
      refine q_get hB hW 4 in_X4 2 rfl rfl 2 (by decide) fl_115 (v := .int p0_now_wool) rfl dX6_person_77 ?_
      refine lv_iload_n hx hb dX6_person_80 rfl (lv_at hl 1 rfl) ?_
      obtain ⟨r_8, hr_8, hf⟩ := bnd hf
      refine q_callSI hB hW (As := [.int p0_now_wool, .int v1]) (rest := []) (ws' := [(a_p0, .inr (6, [.ref a_p0_text, .ref a_p0_reader, .ref a_p0_draft, .ref a_p0_land, .ref a_p0_now, .ref a_p0_trial, .ref a_p0_acts, .ref a_p0_hearings, .ref a_p0_kept, .int p0_keptSlots, .long p0_seedNow])), (a_p0_land, .inr (1, [.ref a_p0_land_places, .ref a_p0_land_kinds, .ref a_p0_land_clapPlaces, .ref a_p0_land_louds, .ref a_p0_land_ones, .ref a_p0_land_others, .ref a_p0_land_worths, .ref a_p0_land_hangs, .int p0_land_persons, .int p0_land_skies, .int p0_land_oaths])), (a_p0_now, .inr (4, [.ref a_p0_land, .int p0_now_places, .int p0_now_wool, .int p0_now_sworn, .int p0_now_worth, .int p0_now_day])), (a_p0_land_kinds, .inl (cI, 5, .inl p0_land_kinds)), (a_p0_land_clapPlaces, .inl (cI, 5, .inl p0_land_clapPlaces)), (a_p0_land_louds, .inl (cI, 5, .inl p0_land_louds)), (a_p0_land_ones, .inl (cI, 5, .inl p0_land_ones)), (a_p0_land_others, .inl (cI, 5, .inl p0_land_others))]) (c_X6_bit l D cI cZ p0_now_wool v1 r_8 hr_8) (va_cwS 2 hts gX6_person_X6_bit rfl rfl rfl (by decide +kernel) ⟨Nat.le_of_ble_eq_true rfl, Nat.le_of_ble_eq_true rfl⟩) [] rfl rfl rfl rfl rfl hl.1 rfl (Nat.le_of_ble_eq_true rfl) ⟨Nat.le_of_ble_eq_true rfl, Nat.le_of_ble_eq_true rfl⟩ dX6_person_81 (fun H locs hW => ?_)
      exact hE _ _ _ _ _ r_8 (sm hf) hW rfl dX6_person_84
    have hf := it_f c_7 hf
    by_cases c_9 : v2 = (3 : Int32)
    · have hf := it_t c_9 hf
      refine lv_tableIn (tgt := 85) (off := 71) hx hb dX6_person_14 (by rw [c_9]; decide) (by rw [c_9]; decide) (by rw [c_9]; rfl) (by decide) ?_
      refine lv_aload_n hx hb dX6_person_85 rfl (lv_at hl 0 rfl) ?_
      refine q_get hB hW 6 in_X6 0 rfl rfl 3 (by decide) fl_32 (v := .ref a_p0_land) rfl dX6_person_86 ?_
      refine lv_iload_n hx hb dX6_person_89 rfl (lv_at hl 1 rfl) ?_
      obtain ⟨r_10, hr_10, hf⟩ := bnd hf
      refine q_callVI hB hW (ci := 1) (q0 := 0) rfl rfl rfl (As := [.int v1]) (rest := []) (ws' := [(a_p0, .inr (6, [.ref a_p0_text, .ref a_p0_reader, .ref a_p0_draft, .ref a_p0_land, .ref a_p0_now, .ref a_p0_trial, .ref a_p0_acts, .ref a_p0_hearings, .ref a_p0_kept, .int p0_keptSlots, .long p0_seedNow])), (a_p0_land, .inr (1, [.ref a_p0_land_places, .ref a_p0_land_kinds, .ref a_p0_land_clapPlaces, .ref a_p0_land_louds, .ref a_p0_land_ones, .ref a_p0_land_others, .ref a_p0_land_worths, .ref a_p0_land_hangs, .int p0_land_persons, .int p0_land_skies, .int p0_land_oaths])), (a_p0_now, .inr (4, [.ref a_p0_land, .int p0_now_places, .int p0_now_wool, .int p0_now_sworn, .int p0_now_worth, .int p0_now_day])), (a_p0_land_kinds, .inl (cI, 5, .inl p0_land_kinds)), (a_p0_land_clapPlaces, .inl (cI, 5, .inl p0_land_clapPlaces)), (a_p0_land_louds, .inl (cI, 5, .inl p0_land_louds)), (a_p0_land_ones, .inl (cI, 5, .inl p0_land_ones)), (a_p0_land_others, .inl (cI, 5, .inl p0_land_others))]) (c_X1_oathsOf l D cI cZ a_p0_land a_p0_land_places a_p0_land_kinds a_p0_land_clapPlaces a_p0_land_louds a_p0_land_ones a_p0_land_others a_p0_land_worths a_p0_land_hangs p0_land_persons p0_land_skies p0_land_oaths p0_land_ones p0_land_others v1 r_10 hr_10) (cwV 1 hts gX6_person_X1_oathsOf rfl rfl rfl (by decide +kernel) ⟨Nat.le_of_ble_eq_true rfl, Nat.le_of_ble_eq_true rfl⟩) [1, 6, 7] rfl rfl rfl rfl rfl hl.1 rfl (Nat.le_of_ble_eq_true rfl) ⟨Nat.le_of_ble_eq_true rfl, Nat.le_of_ble_eq_true rfl⟩ dX6_person_90 (fun H locs hW => ?_)
      exact hE _ _ _ _ _ r_10 (sm hf) hW rfl dX6_person_93
    have hf := it_f c_9 hf
    by_cases c_11 : v2 = (4 : Int32)
    · have hf := it_t c_11 hf
      refine lv_tableIn (tgt := 94) (off := 80) hx hb dX6_person_14 (by rw [c_11]; decide) (by rw [c_11]; decide) (by rw [c_11]; rfl) (by decide) ?_
      refine lv_aload_n hx hb dX6_person_94 rfl (lv_at hl 0 rfl) ?_
      refine q_get hB hW 6 in_X6 0 rfl rfl 3 (by decide) fl_32 (v := .ref a_p0_land) rfl dX6_person_95 ?_
      refine lv_iload_n hx hb dX6_person_98 rfl (lv_at hl 1 rfl) ?_
      obtain ⟨r_12, hr_12, hf⟩ := bnd hf
      refine q_callVI hB hW (ci := 1) (q0 := 0) rfl rfl rfl (As := [.int v1]) (rest := []) (ws' := [(a_p0, .inr (6, [.ref a_p0_text, .ref a_p0_reader, .ref a_p0_draft, .ref a_p0_land, .ref a_p0_now, .ref a_p0_trial, .ref a_p0_acts, .ref a_p0_hearings, .ref a_p0_kept, .int p0_keptSlots, .long p0_seedNow])), (a_p0_land, .inr (1, [.ref a_p0_land_places, .ref a_p0_land_kinds, .ref a_p0_land_clapPlaces, .ref a_p0_land_louds, .ref a_p0_land_ones, .ref a_p0_land_others, .ref a_p0_land_worths, .ref a_p0_land_hangs, .int p0_land_persons, .int p0_land_skies, .int p0_land_oaths])), (a_p0_now, .inr (4, [.ref a_p0_land, .int p0_now_places, .int p0_now_wool, .int p0_now_sworn, .int p0_now_worth, .int p0_now_day])), (a_p0_land_kinds, .inl (cI, 5, .inl p0_land_kinds)), (a_p0_land_clapPlaces, .inl (cI, 5, .inl p0_land_clapPlaces)), (a_p0_land_louds, .inl (cI, 5, .inl p0_land_louds)), (a_p0_land_ones, .inl (cI, 5, .inl p0_land_ones)), (a_p0_land_others, .inl (cI, 5, .inl p0_land_others))]) (c_X1_oathsOf l D cI cZ a_p0_land a_p0_land_places a_p0_land_kinds a_p0_land_clapPlaces a_p0_land_louds a_p0_land_ones a_p0_land_others a_p0_land_worths a_p0_land_hangs p0_land_persons p0_land_skies p0_land_oaths p0_land_ones p0_land_others v1 r_12 hr_12) (cwV 1 hts gX6_person_X1_oathsOf rfl rfl rfl (by decide +kernel) ⟨Nat.le_of_ble_eq_true rfl, Nat.le_of_ble_eq_true rfl⟩) [1, 6, 7] rfl rfl rfl rfl rfl hl.1 rfl (Nat.le_of_ble_eq_true rfl) ⟨Nat.le_of_ble_eq_true rfl, Nat.le_of_ble_eq_true rfl⟩ dX6_person_99 (fun H locs hW => ?_)
      refine lv_aload_n hx hb dX6_person_102 rfl (lv_at hl 0 rfl) ?_
      refine q_get hB hW 6 in_X6 0 rfl rfl 4 (by decide) fl_40 (v := .ref a_p0_now) rfl dX6_person_103 ?_
      refine q_get hB hW 4 in_X4 2 rfl rfl 3 (by decide) fl_125 (v := .int p0_now_sworn) rfl dX6_person_106 ?_
      refine lv_iand hx hb dX6_person_109 ?_
      exact hE _ _ _ _ _ (r_12 &&& p0_now_sworn) (sm hf) hW rfl dX6_person_110
    have hf := it_f c_11 hf
    by_cases c_13 : v2 = (5 : Int32)
    · have hf := it_t c_13 hf
      refine lv_tableIn (tgt := 111) (off := 97) hx hb dX6_person_14 (by rw [c_13]; decide) (by rw [c_13]; decide) (by rw [c_13]; rfl) (by decide) ?_
      refine lv_aload_n hx hb dX6_person_111 rfl (lv_at hl 0 rfl) ?_
      refine q_get hB hW 6 in_X6 0 rfl rfl 4 (by decide) fl_40 (v := .ref a_p0_now) rfl dX6_person_112 ?_
      obtain ⟨r_14, hr_14, hf⟩ := bnd hf
      refine q_callVI hB hW (ci := 4) (q0 := 0) rfl rfl rfl (As := []) (rest := []) (ws' := [(a_p0, .inr (6, [.ref a_p0_text, .ref a_p0_reader, .ref a_p0_draft, .ref a_p0_land, .ref a_p0_now, .ref a_p0_trial, .ref a_p0_acts, .ref a_p0_hearings, .ref a_p0_kept, .int p0_keptSlots, .long p0_seedNow])), (a_p0_land, .inr (1, [.ref a_p0_land_places, .ref a_p0_land_kinds, .ref a_p0_land_clapPlaces, .ref a_p0_land_louds, .ref a_p0_land_ones, .ref a_p0_land_others, .ref a_p0_land_worths, .ref a_p0_land_hangs, .int p0_land_persons, .int p0_land_skies, .int p0_land_oaths])), (a_p0_now, .inr (4, [.ref a_p0_land, .int p0_now_places, .int p0_now_wool, .int p0_now_sworn, .int p0_now_worth, .int p0_now_day])), (a_p0_land_kinds, .inl (cI, 5, .inl p0_land_kinds)), (a_p0_land_clapPlaces, .inl (cI, 5, .inl p0_land_clapPlaces)), (a_p0_land_louds, .inl (cI, 5, .inl p0_land_louds)), (a_p0_land_ones, .inl (cI, 5, .inl p0_land_ones)), (a_p0_land_others, .inl (cI, 5, .inl p0_land_others))]) (c_X4_skyHearers l D cI cZ a_p0_now a_p0_land a_p0_land_places a_p0_land_kinds a_p0_land_clapPlaces a_p0_land_louds a_p0_land_ones a_p0_land_others a_p0_land_worths a_p0_land_hangs p0_now_places p0_now_wool p0_now_sworn p0_now_worth p0_now_day p0_land_persons p0_land_skies p0_land_oaths p0_land_kinds p0_land_clapPlaces p0_land_louds r_14 hr_14) (cwV 0 hts gX6_person_X4_skyHearers rfl rfl rfl (by decide +kernel) ⟨Nat.le_of_ble_eq_true rfl, Nat.le_of_ble_eq_true rfl⟩) [2, 1, 3, 4, 5] rfl rfl rfl rfl rfl hl.1 rfl (Nat.le_of_ble_eq_true rfl) ⟨Nat.le_of_ble_eq_true rfl, Nat.le_of_ble_eq_true rfl⟩ dX6_person_115 (fun H locs hW => ?_)
      refine lv_iload_n hx hb dX6_person_118 rfl (lv_at hl 1 rfl) ?_
      obtain ⟨r_15, hr_15, hf⟩ := bnd hf
      refine q_callSI hB hW (As := [.int r_14, .int v1]) (rest := []) (ws' := [(a_p0, .inr (6, [.ref a_p0_text, .ref a_p0_reader, .ref a_p0_draft, .ref a_p0_land, .ref a_p0_now, .ref a_p0_trial, .ref a_p0_acts, .ref a_p0_hearings, .ref a_p0_kept, .int p0_keptSlots, .long p0_seedNow])), (a_p0_land, .inr (1, [.ref a_p0_land_places, .ref a_p0_land_kinds, .ref a_p0_land_clapPlaces, .ref a_p0_land_louds, .ref a_p0_land_ones, .ref a_p0_land_others, .ref a_p0_land_worths, .ref a_p0_land_hangs, .int p0_land_persons, .int p0_land_skies, .int p0_land_oaths])), (a_p0_now, .inr (4, [.ref a_p0_land, .int p0_now_places, .int p0_now_wool, .int p0_now_sworn, .int p0_now_worth, .int p0_now_day])), (a_p0_land_kinds, .inl (cI, 5, .inl p0_land_kinds)), (a_p0_land_clapPlaces, .inl (cI, 5, .inl p0_land_clapPlaces)), (a_p0_land_louds, .inl (cI, 5, .inl p0_land_louds)), (a_p0_land_ones, .inl (cI, 5, .inl p0_land_ones)), (a_p0_land_others, .inl (cI, 5, .inl p0_land_others))]) (c_X6_bit l D cI cZ r_14 v1 r_15 hr_15) (va_cwS 2 hts gX6_person_X6_bit rfl rfl rfl (by decide +kernel) ⟨Nat.le_of_ble_eq_true rfl, Nat.le_of_ble_eq_true rfl⟩) [] rfl rfl rfl rfl rfl hl.1 rfl (Nat.le_of_ble_eq_true rfl) ⟨Nat.le_of_ble_eq_true rfl, Nat.le_of_ble_eq_true rfl⟩ dX6_person_119 (fun H locs hW => ?_)
      exact hE _ _ _ _ _ r_15 (sm hf) hW rfl dX6_person_122
    have hf := it_f c_13 hf
    refine lv_tableOut (tgt := 123) hx hb dX6_person_14 (sw_out 5 (by decide) (fun j hj => match j, hj with | 0, _ => c_3 | 1, _ => c_5 | 2, _ => c_7 | 3, _ => c_9 | 4, _ => c_11 | 5, _ => c_13 | _ + 6, hj => absurd hj (by omega))) (by decide) ?_
    refine lv_bipush (v := -2) hx hb dX6_person_123 (by decide) ?_
    exact hE _ _ _ _ _ (-2 : Int32) (sm hf) hW rfl dX6_person_125
  · have hf := it_t c_2 hf
    refine lv_iconst (v := -1) hx hb dX6_person_11 (by decide) ?_
    exact hE _ _ _ _ _ (-1 : Int32) (sm hf) hW rfl dX6_person_12
def f_X1_hasOath (v1 : Int32) (p0_oaths : Int32) : Option (Int32) := (f_X6_within v1 (0 : Int32) (p0_oaths - (1 : Int32))).bind fun r_1 => some r_1
set_option maxHeartbeats 4000000 in
set_option maxRecDepth 100000 in
theorem c_X1_hasOath (l : Launch) (D : va_G) (cI cZ : ClassId) (a_p0 a_p0_places a_p0_kinds a_p0_clapPlaces a_p0_louds a_p0_ones a_p0_others a_p0_worths a_p0_hangs : Nat) (p0_persons : Int32) (p0_skies : Int32) (p0_oaths : Int32) (v1 : Int32) (q : Int32) (hf : f_X1_hasOath v1 p0_oaths = some q) : CtZ l D cI cZ yX1_hasOath wsX1_hasOath 1 22 [.ref a_p0, .int v1] [(a_p0, .inr (1, [.ref a_p0_places, .ref a_p0_kinds, .ref a_p0_clapPlaces, .ref a_p0_louds, .ref a_p0_ones, .ref a_p0_others, .ref a_p0_worths, .ref a_p0_hangs, .int p0_persons, .int p0_skies, .int p0_oaths]))] (fun q => [(a_p0, .inr (1, [.ref a_p0_places, .ref a_p0_kinds, .ref a_p0_clapPlaces, .ref a_p0_louds, .ref a_p0_ones, .ref a_p0_others, .ref a_p0_worths, .ref a_p0_hangs, .int p0_persons, .int p0_skies, .int p0_oaths]))]) (fun q => q) q := by
  refine CtZ.of (cc := cX1_hasOath) (maxL := 2) (plainFor_of_name (by decide)) rfl (Nat.le_of_ble_eq_true rfl) ?_
  intro p e s m args below meth c A Q H ls hB hE hW hl
  have hx := hB.1
  have hb := hB.2.1
  have hml := hB.2.2.2.1
  have hown : s.vm.findClass RX1 = some m.cls := hB.2.2.2.2.1
  have hts := hB.2.2.2.2.2.1
  have hK := hB.2.2.2.2.2.2.2.1.1
  have hl : lv_has ls 2 [(0, .ref a_p0), (1, .int v1)] := hl
  have in_X1 : ∀ w ∈ wsX10, w ∈ wsX1_hasOath := fun w h => List.mem_cons_of_mem _ (List.mem_append_right _ h)
  have fl_43 : (Cond.fieldLink RX1 43 (TX1 10).1 (TX1 10).2.1 (TX1 10).2.2.1).before args s = true := hts (.fieldLink RX1 43 "ClapOaths$County" "oaths" "I") (by decide +kernel)
  unfold f_X1_hasOath at hf
  refine lv_iload_n hx hb dX1_hasOath_0 rfl (lv_at hl 1 rfl) ?_
  refine lv_iconst (v := 0) hx hb dX1_hasOath_1 (by decide) ?_
  refine lv_aload_n hx hb dX1_hasOath_2 rfl (lv_at hl 0 rfl) ?_
  refine q_get hB hW 1 in_X1 0 rfl rfl 10 (by decide) fl_43 (v := .int p0_oaths) rfl dX1_hasOath_3 ?_
  refine lv_iconst (v := 1) hx hb dX1_hasOath_6 (by decide) ?_
  refine lv_isub hx hb dX1_hasOath_7 ?_
  obtain ⟨r_1, hr_1, hf⟩ := bnd hf
  refine q_callNZ hB hW (As := [.int v1, .int (0 : Int32), .int (p0_oaths - (1 : Int32))]) (rest := []) (ws' := [(a_p0, .inr (1, [.ref a_p0_places, .ref a_p0_kinds, .ref a_p0_clapPlaces, .ref a_p0_louds, .ref a_p0_ones, .ref a_p0_others, .ref a_p0_worths, .ref a_p0_hangs, .int p0_persons, .int p0_skies, .int p0_oaths]))]) (c_X6_within l D cI cZ v1 (0 : Int32) (p0_oaths - (1 : Int32)) r_1 hr_1) ⟨va_cnB 3 hts gX1_hasOath_X6_within_n50 rfl rfl rfl (hB.2.2.2.2.2.2.2.1.2 (RX1, 50, yX6_within, RX6) (by decide +kernel)) (hts (.initialized RX6) (by decide +kernel)) (by decide +kernel) ⟨Nat.le_of_ble_eq_true rfl, Nat.le_of_ble_eq_true rfl⟩, hts (.static yX6_within) (by decide +kernel), trivial⟩ [] rfl rfl rfl rfl rfl hl.1 rfl (Nat.le_of_ble_eq_true rfl) ⟨Nat.le_of_ble_eq_true rfl, Nat.le_of_ble_eq_true rfl⟩ dX1_hasOath_8 (fun hzr_1 H locs hW => ?_)
  exact hE _ _ _ _ _ r_1 (sm hf) hW rfl hzr_1 dX1_hasOath_11
def f_X6_oath (v1 : Int32) (v2 : Int32) (p0_land_oaths : Int32) (p0_now_sworn : Int32) (p0_land_ones : Nat → Int32) (p0_land_others : Nat → Int32) (p0_land_worths : Nat → Int32) (p0_land_hangs : Nat → Int32) : Option (Int32) := (f_X1_hasOath v1 p0_land_oaths).bind fun r_1 => if r_1 = (0 : Int32) then some (-1 : Int32) else if v2 = (0 : Int32) then (f_X6_at 5 v1 p0_land_ones).bind fun r_4 => some r_4 else if v2 = (1 : Int32) then (f_X6_at 5 v1 p0_land_others).bind fun r_6 => some r_6 else if v2 = (2 : Int32) then (f_X6_at 5 v1 p0_land_worths).bind fun r_8 => some r_8 else if v2 = (3 : Int32) then (f_X6_at 5 v1 p0_land_hangs).bind fun r_10 => some r_10 else if v2 = (4 : Int32) then (f_X6_bit p0_now_sworn v1).bind fun r_12 => some r_12 else some (-2 : Int32)
set_option maxHeartbeats 4000000 in
set_option maxRecDepth 100000 in
theorem c_X6_oath (l : Launch) (D : va_G) (cI cZ : ClassId) (a_p0 a_p0_text a_p0_reader a_p0_draft a_p0_land a_p0_now a_p0_trial a_p0_acts a_p0_hearings a_p0_kept a_p0_land_places a_p0_land_kinds a_p0_land_clapPlaces a_p0_land_louds a_p0_land_ones a_p0_land_others a_p0_land_worths a_p0_land_hangs : Nat) (p0_keptSlots : Int32) (p0_seedNow : Int64) (p0_land_persons : Int32) (p0_land_skies : Int32) (p0_land_oaths : Int32) (p0_now_places : Int32) (p0_now_wool : Int32) (p0_now_sworn : Int32) (p0_now_worth : Int32) (p0_now_day : Int32) (p0_land_ones : Nat → Int32) (p0_land_others : Nat → Int32) (p0_land_worths : Nat → Int32) (p0_land_hangs : Nat → Int32) (v1 : Int32) (v2 : Int32) (q : Int32) (hf : f_X6_oath v1 v2 p0_land_oaths p0_now_sworn p0_land_ones p0_land_others p0_land_worths p0_land_hangs = some q) : CtI l D cI cZ yX6_oath wsX6_oath 2 43 [.ref a_p0, .int v1, .int v2] [(a_p0, .inr (6, [.ref a_p0_text, .ref a_p0_reader, .ref a_p0_draft, .ref a_p0_land, .ref a_p0_now, .ref a_p0_trial, .ref a_p0_acts, .ref a_p0_hearings, .ref a_p0_kept, .int p0_keptSlots, .long p0_seedNow])), (a_p0_land, .inr (1, [.ref a_p0_land_places, .ref a_p0_land_kinds, .ref a_p0_land_clapPlaces, .ref a_p0_land_louds, .ref a_p0_land_ones, .ref a_p0_land_others, .ref a_p0_land_worths, .ref a_p0_land_hangs, .int p0_land_persons, .int p0_land_skies, .int p0_land_oaths])), (a_p0_now, .inr (4, [.ref a_p0_land, .int p0_now_places, .int p0_now_wool, .int p0_now_sworn, .int p0_now_worth, .int p0_now_day])), (a_p0_land_ones, .inl (cI, 5, .inl p0_land_ones)), (a_p0_land_others, .inl (cI, 5, .inl p0_land_others)), (a_p0_land_worths, .inl (cI, 5, .inl p0_land_worths)), (a_p0_land_hangs, .inl (cI, 5, .inl p0_land_hangs))] (fun q => [(a_p0, .inr (6, [.ref a_p0_text, .ref a_p0_reader, .ref a_p0_draft, .ref a_p0_land, .ref a_p0_now, .ref a_p0_trial, .ref a_p0_acts, .ref a_p0_hearings, .ref a_p0_kept, .int p0_keptSlots, .long p0_seedNow])), (a_p0_land, .inr (1, [.ref a_p0_land_places, .ref a_p0_land_kinds, .ref a_p0_land_clapPlaces, .ref a_p0_land_louds, .ref a_p0_land_ones, .ref a_p0_land_others, .ref a_p0_land_worths, .ref a_p0_land_hangs, .int p0_land_persons, .int p0_land_skies, .int p0_land_oaths])), (a_p0_now, .inr (4, [.ref a_p0_land, .int p0_now_places, .int p0_now_wool, .int p0_now_sworn, .int p0_now_worth, .int p0_now_day])), (a_p0_land_ones, .inl (cI, 5, .inl p0_land_ones)), (a_p0_land_others, .inl (cI, 5, .inl p0_land_others)), (a_p0_land_worths, .inl (cI, 5, .inl p0_land_worths)), (a_p0_land_hangs, .inl (cI, 5, .inl p0_land_hangs))]) (fun q => q) q := by
  refine CtI.of (cc := cX6_oath) (maxL := 3) (plainFor_of_name (by decide)) rfl (Nat.le_of_ble_eq_true rfl) ?_
  intro p e s m args below meth c A Q H ls hB hE hW hl
  have hx := hB.1
  have hb := hB.2.1
  have hml := hB.2.2.2.1
  have hown : s.vm.findClass RX6 = some m.cls := hB.2.2.2.2.1
  have hts := hB.2.2.2.2.2.1
  have hK := hB.2.2.2.2.2.2.2.1.1
  have hl : lv_has ls 3 [(0, .ref a_p0), (1, .int v1), (2, .int v2)] := hl
  have in_X1 : ∀ w ∈ wsX10, w ∈ wsX6_oath := fun w h => List.mem_cons_of_mem _ (List.mem_append_left _ (List.mem_append_right _ h))
  have in_X4 : ∀ w ∈ wsX40, w ∈ wsX6_oath := fun w h => List.mem_cons_of_mem _ (List.mem_append_right _ h)
  have in_X6 : ∀ w ∈ wsX60, w ∈ wsX6_oath := fun w h => List.mem_cons_of_mem _ (List.mem_append_left _ (List.mem_append_left _ (List.mem_append_right _ h)))
  have fl_32 : (Cond.fieldLink RX6 32 (TX6 3).1 (TX6 3).2.1 (TX6 3).2.2.1).before args s = true := hts (.fieldLink RX6 32 "ClapOaths" "land" "LClapOaths$County;") (by decide +kernel)
  have fl_40 : (Cond.fieldLink RX6 40 (TX6 4).1 (TX6 4).2.1 (TX6 4).2.2.1).before args s = true := hts (.fieldLink RX6 40 "ClapOaths" "now" "LClapOaths$Standing;") (by decide +kernel)
  have fl_125 : (Cond.fieldLink RX6 125 (TX4 3).1 (TX4 3).2.1 (TX4 3).2.2.1).before args s = true := hts (.fieldLink RX6 125 "ClapOaths$Standing" "sworn" "I") (by decide +kernel)
  have fl_135 : (Cond.fieldLink RX6 135 (TX1 4).1 (TX1 4).2.1 (TX1 4).2.2.1).before args s = true := hts (.fieldLink RX6 135 "ClapOaths$County" "ones" "[I") (by decide +kernel)
  have fl_138 : (Cond.fieldLink RX6 138 (TX1 5).1 (TX1 5).2.1 (TX1 5).2.2.1).before args s = true := hts (.fieldLink RX6 138 "ClapOaths$County" "others" "[I") (by decide +kernel)
  have fl_141 : (Cond.fieldLink RX6 141 (TX1 6).1 (TX1 6).2.1 (TX1 6).2.2.1).before args s = true := hts (.fieldLink RX6 141 "ClapOaths$County" "worths" "[I") (by decide +kernel)
  have fl_144 : (Cond.fieldLink RX6 144 (TX1 7).1 (TX1 7).2.1 (TX1 7).2.2.1).before args s = true := hts (.fieldLink RX6 144 "ClapOaths$County" "hangs" "[I") (by decide +kernel)
  unfold f_X6_oath at hf
  refine lv_aload_n hx hb dX6_oath_0 rfl (lv_at hl 0 rfl) ?_
  refine q_get hB hW 6 in_X6 0 rfl rfl 3 (by decide) fl_32 (v := .ref a_p0_land) rfl dX6_oath_1 ?_
  refine lv_iload_n hx hb dX6_oath_4 rfl (lv_at hl 1 rfl) ?_
  obtain ⟨r_1, hr_1, hf⟩ := bnd hf
  refine q_callVZ hB hW (ci := 1) (q0 := 0) rfl rfl rfl (As := [.int v1]) (rest := []) (ws' := [(a_p0, .inr (6, [.ref a_p0_text, .ref a_p0_reader, .ref a_p0_draft, .ref a_p0_land, .ref a_p0_now, .ref a_p0_trial, .ref a_p0_acts, .ref a_p0_hearings, .ref a_p0_kept, .int p0_keptSlots, .long p0_seedNow])), (a_p0_land, .inr (1, [.ref a_p0_land_places, .ref a_p0_land_kinds, .ref a_p0_land_clapPlaces, .ref a_p0_land_louds, .ref a_p0_land_ones, .ref a_p0_land_others, .ref a_p0_land_worths, .ref a_p0_land_hangs, .int p0_land_persons, .int p0_land_skies, .int p0_land_oaths])), (a_p0_now, .inr (4, [.ref a_p0_land, .int p0_now_places, .int p0_now_wool, .int p0_now_sworn, .int p0_now_worth, .int p0_now_day])), (a_p0_land_ones, .inl (cI, 5, .inl p0_land_ones)), (a_p0_land_others, .inl (cI, 5, .inl p0_land_others)), (a_p0_land_worths, .inl (cI, 5, .inl p0_land_worths)), (a_p0_land_hangs, .inl (cI, 5, .inl p0_land_hangs))]) (c_X1_hasOath l D cI cZ a_p0_land a_p0_land_places a_p0_land_kinds a_p0_land_clapPlaces a_p0_land_louds a_p0_land_ones a_p0_land_others a_p0_land_worths a_p0_land_hangs p0_land_persons p0_land_skies p0_land_oaths v1 r_1 hr_1) (cwV 1 hts gX6_oath_X1_hasOath rfl rfl rfl (by decide +kernel) ⟨Nat.le_of_ble_eq_true rfl, Nat.le_of_ble_eq_true rfl⟩) [1] rfl rfl rfl rfl rfl hl.1 rfl (Nat.le_of_ble_eq_true rfl) ⟨Nat.le_of_ble_eq_true rfl, Nat.le_of_ble_eq_true rfl⟩ dX6_oath_5 (fun hzr_1 H locs hW => ?_)
  refine lv_if_ne (tgt := 13) hx hb dX6_oath_8 (by decide) (fun c_2 => ?_) (fun c_2 => ?_)
  · have hf := it_f c_2 hf
    refine lv_iload_n hx hb dX6_oath_13 rfl (lv_at hl 2 rfl) ?_
    by_cases c_3 : v2 = (0 : Int32)
    · have hf := it_t c_3 hf
      refine lv_tableIn (tgt := 48) (off := 34) hx hb dX6_oath_14 (by rw [c_3]; decide) (by rw [c_3]; decide) (by rw [c_3]; rfl) (by decide) ?_
      refine lv_aload_n hx hb dX6_oath_48 rfl (lv_at hl 0 rfl) ?_
      refine q_get hB hW 6 in_X6 0 rfl rfl 3 (by decide) fl_32 (v := .ref a_p0_land) rfl dX6_oath_49 ?_
      refine q_get hB hW 1 in_X1 1 rfl rfl 4 (by decide) fl_135 (v := .ref a_p0_land_ones) rfl dX6_oath_52 ?_
      refine lv_iload_n hx hb dX6_oath_55 rfl (lv_at hl 1 rfl) ?_
      obtain ⟨r_4, hr_4, hf⟩ := bnd hf
      refine q_callSI hB hW (As := [.ref a_p0_land_ones, .int v1]) (rest := []) (ws' := [(a_p0, .inr (6, [.ref a_p0_text, .ref a_p0_reader, .ref a_p0_draft, .ref a_p0_land, .ref a_p0_now, .ref a_p0_trial, .ref a_p0_acts, .ref a_p0_hearings, .ref a_p0_kept, .int p0_keptSlots, .long p0_seedNow])), (a_p0_land, .inr (1, [.ref a_p0_land_places, .ref a_p0_land_kinds, .ref a_p0_land_clapPlaces, .ref a_p0_land_louds, .ref a_p0_land_ones, .ref a_p0_land_others, .ref a_p0_land_worths, .ref a_p0_land_hangs, .int p0_land_persons, .int p0_land_skies, .int p0_land_oaths])), (a_p0_now, .inr (4, [.ref a_p0_land, .int p0_now_places, .int p0_now_wool, .int p0_now_sworn, .int p0_now_worth, .int p0_now_day])), (a_p0_land_ones, .inl (cI, 5, .inl p0_land_ones)), (a_p0_land_others, .inl (cI, 5, .inl p0_land_others)), (a_p0_land_worths, .inl (cI, 5, .inl p0_land_worths)), (a_p0_land_hangs, .inl (cI, 5, .inl p0_land_hangs))]) (c_X6_at l D cI cZ a_p0_land_ones 5 p0_land_ones v1 r_4 hr_4) (va_cwS 2 hts gX6_oath_X6_at rfl rfl rfl (by decide +kernel) ⟨Nat.le_of_ble_eq_true rfl, Nat.le_of_ble_eq_true rfl⟩) [3] rfl rfl rfl rfl rfl hl.1 rfl (Nat.le_of_ble_eq_true rfl) ⟨Nat.le_of_ble_eq_true rfl, Nat.le_of_ble_eq_true rfl⟩ dX6_oath_56 (fun H locs hW => ?_)
      exact hE _ _ _ _ _ r_4 (sm hf) hW rfl dX6_oath_59
    have hf := it_f c_3 hf
    by_cases c_5 : v2 = (1 : Int32)
    · have hf := it_t c_5 hf
      refine lv_tableIn (tgt := 60) (off := 46) hx hb dX6_oath_14 (by rw [c_5]; decide) (by rw [c_5]; decide) (by rw [c_5]; rfl) (by decide) ?_
      refine lv_aload_n hx hb dX6_oath_60 rfl (lv_at hl 0 rfl) ?_
      refine q_get hB hW 6 in_X6 0 rfl rfl 3 (by decide) fl_32 (v := .ref a_p0_land) rfl dX6_oath_61 ?_
      refine q_get hB hW 1 in_X1 1 rfl rfl 5 (by decide) fl_138 (v := .ref a_p0_land_others) rfl dX6_oath_64 ?_
      refine lv_iload_n hx hb dX6_oath_67 rfl (lv_at hl 1 rfl) ?_
      obtain ⟨r_6, hr_6, hf⟩ := bnd hf
      refine q_callSI hB hW (As := [.ref a_p0_land_others, .int v1]) (rest := []) (ws' := [(a_p0, .inr (6, [.ref a_p0_text, .ref a_p0_reader, .ref a_p0_draft, .ref a_p0_land, .ref a_p0_now, .ref a_p0_trial, .ref a_p0_acts, .ref a_p0_hearings, .ref a_p0_kept, .int p0_keptSlots, .long p0_seedNow])), (a_p0_land, .inr (1, [.ref a_p0_land_places, .ref a_p0_land_kinds, .ref a_p0_land_clapPlaces, .ref a_p0_land_louds, .ref a_p0_land_ones, .ref a_p0_land_others, .ref a_p0_land_worths, .ref a_p0_land_hangs, .int p0_land_persons, .int p0_land_skies, .int p0_land_oaths])), (a_p0_now, .inr (4, [.ref a_p0_land, .int p0_now_places, .int p0_now_wool, .int p0_now_sworn, .int p0_now_worth, .int p0_now_day])), (a_p0_land_ones, .inl (cI, 5, .inl p0_land_ones)), (a_p0_land_others, .inl (cI, 5, .inl p0_land_others)), (a_p0_land_worths, .inl (cI, 5, .inl p0_land_worths)), (a_p0_land_hangs, .inl (cI, 5, .inl p0_land_hangs))]) (c_X6_at l D cI cZ a_p0_land_others 5 p0_land_others v1 r_6 hr_6) (va_cwS 2 hts gX6_oath_X6_at rfl rfl rfl (by decide +kernel) ⟨Nat.le_of_ble_eq_true rfl, Nat.le_of_ble_eq_true rfl⟩) [4] rfl rfl rfl rfl rfl hl.1 rfl (Nat.le_of_ble_eq_true rfl) ⟨Nat.le_of_ble_eq_true rfl, Nat.le_of_ble_eq_true rfl⟩ dX6_oath_68 (fun H locs hW => ?_)
      exact hE _ _ _ _ _ r_6 (sm hf) hW rfl dX6_oath_71
    have hf := it_f c_5 hf
    by_cases c_7 : v2 = (2 : Int32)
    · have hf := it_t c_7 hf
      refine lv_tableIn (tgt := 72) (off := 58) hx hb dX6_oath_14 (by rw [c_7]; decide) (by rw [c_7]; decide) (by rw [c_7]; rfl) (by decide) ?_
      refine lv_aload_n hx hb dX6_oath_72 rfl (lv_at hl 0 rfl) ?_
      refine q_get hB hW 6 in_X6 0 rfl rfl 3 (by decide) fl_32 (v := .ref a_p0_land) rfl dX6_oath_73 ?_
      refine q_get hB hW 1 in_X1 1 rfl rfl 6 (by decide) fl_141 (v := .ref a_p0_land_worths) rfl dX6_oath_76 ?_
      refine lv_iload_n hx hb dX6_oath_79 rfl (lv_at hl 1 rfl) ?_
      obtain ⟨r_8, hr_8, hf⟩ := bnd hf
      refine q_callSI hB hW (As := [.ref a_p0_land_worths, .int v1]) (rest := []) (ws' := [(a_p0, .inr (6, [.ref a_p0_text, .ref a_p0_reader, .ref a_p0_draft, .ref a_p0_land, .ref a_p0_now, .ref a_p0_trial, .ref a_p0_acts, .ref a_p0_hearings, .ref a_p0_kept, .int p0_keptSlots, .long p0_seedNow])), (a_p0_land, .inr (1, [.ref a_p0_land_places, .ref a_p0_land_kinds, .ref a_p0_land_clapPlaces, .ref a_p0_land_louds, .ref a_p0_land_ones, .ref a_p0_land_others, .ref a_p0_land_worths, .ref a_p0_land_hangs, .int p0_land_persons, .int p0_land_skies, .int p0_land_oaths])), (a_p0_now, .inr (4, [.ref a_p0_land, .int p0_now_places, .int p0_now_wool, .int p0_now_sworn, .int p0_now_worth, .int p0_now_day])), (a_p0_land_ones, .inl (cI, 5, .inl p0_land_ones)), (a_p0_land_others, .inl (cI, 5, .inl p0_land_others)), (a_p0_land_worths, .inl (cI, 5, .inl p0_land_worths)), (a_p0_land_hangs, .inl (cI, 5, .inl p0_land_hangs))]) (c_X6_at l D cI cZ a_p0_land_worths 5 p0_land_worths v1 r_8 hr_8) (va_cwS 2 hts gX6_oath_X6_at rfl rfl rfl (by decide +kernel) ⟨Nat.le_of_ble_eq_true rfl, Nat.le_of_ble_eq_true rfl⟩) [5] rfl rfl rfl rfl rfl hl.1 rfl (Nat.le_of_ble_eq_true rfl) ⟨Nat.le_of_ble_eq_true rfl, Nat.le_of_ble_eq_true rfl⟩ dX6_oath_80 (fun H locs hW => ?_)
      exact hE _ _ _ _ _ r_8 (sm hf) hW rfl dX6_oath_83
    have hf := it_f c_7 hf
    by_cases c_9 : v2 = (3 : Int32)
    · have hf := it_t c_9 hf
      refine lv_tableIn (tgt := 84) (off := 70) hx hb dX6_oath_14 (by rw [c_9]; decide) (by rw [c_9]; decide) (by rw [c_9]; rfl) (by decide) ?_
      refine lv_aload_n hx hb dX6_oath_84 rfl (lv_at hl 0 rfl) ?_
      refine q_get hB hW 6 in_X6 0 rfl rfl 3 (by decide) fl_32 (v := .ref a_p0_land) rfl dX6_oath_85 ?_
      refine q_get hB hW 1 in_X1 1 rfl rfl 7 (by decide) fl_144 (v := .ref a_p0_land_hangs) rfl dX6_oath_88 ?_
      refine lv_iload_n hx hb dX6_oath_91 rfl (lv_at hl 1 rfl) ?_
      obtain ⟨r_10, hr_10, hf⟩ := bnd hf
      refine q_callSI hB hW (As := [.ref a_p0_land_hangs, .int v1]) (rest := []) (ws' := [(a_p0, .inr (6, [.ref a_p0_text, .ref a_p0_reader, .ref a_p0_draft, .ref a_p0_land, .ref a_p0_now, .ref a_p0_trial, .ref a_p0_acts, .ref a_p0_hearings, .ref a_p0_kept, .int p0_keptSlots, .long p0_seedNow])), (a_p0_land, .inr (1, [.ref a_p0_land_places, .ref a_p0_land_kinds, .ref a_p0_land_clapPlaces, .ref a_p0_land_louds, .ref a_p0_land_ones, .ref a_p0_land_others, .ref a_p0_land_worths, .ref a_p0_land_hangs, .int p0_land_persons, .int p0_land_skies, .int p0_land_oaths])), (a_p0_now, .inr (4, [.ref a_p0_land, .int p0_now_places, .int p0_now_wool, .int p0_now_sworn, .int p0_now_worth, .int p0_now_day])), (a_p0_land_ones, .inl (cI, 5, .inl p0_land_ones)), (a_p0_land_others, .inl (cI, 5, .inl p0_land_others)), (a_p0_land_worths, .inl (cI, 5, .inl p0_land_worths)), (a_p0_land_hangs, .inl (cI, 5, .inl p0_land_hangs))]) (c_X6_at l D cI cZ a_p0_land_hangs 5 p0_land_hangs v1 r_10 hr_10) (va_cwS 2 hts gX6_oath_X6_at rfl rfl rfl (by decide +kernel) ⟨Nat.le_of_ble_eq_true rfl, Nat.le_of_ble_eq_true rfl⟩) [6] rfl rfl rfl rfl rfl hl.1 rfl (Nat.le_of_ble_eq_true rfl) ⟨Nat.le_of_ble_eq_true rfl, Nat.le_of_ble_eq_true rfl⟩ dX6_oath_92 (fun H locs hW => ?_)
      exact hE _ _ _ _ _ r_10 (sm hf) hW rfl dX6_oath_95
    have hf := it_f c_9 hf
    by_cases c_11 : v2 = (4 : Int32)
    · have hf := it_t c_11 hf
      refine lv_tableIn (tgt := 96) (off := 82) hx hb dX6_oath_14 (by rw [c_11]; decide) (by rw [c_11]; decide) (by rw [c_11]; rfl) (by decide) ?_
      refine lv_aload_n hx hb dX6_oath_96 rfl (lv_at hl 0 rfl) ?_
      refine q_get hB hW 6 in_X6 0 rfl rfl 4 (by decide) fl_40 (v := .ref a_p0_now) rfl dX6_oath_97 ?_
      refine q_get hB hW 4 in_X4 2 rfl rfl 3 (by decide) fl_125 (v := .int p0_now_sworn) rfl dX6_oath_100 ?_
      refine lv_iload_n hx hb dX6_oath_103 rfl (lv_at hl 1 rfl) ?_
      obtain ⟨r_12, hr_12, hf⟩ := bnd hf
      refine q_callSI hB hW (As := [.int p0_now_sworn, .int v1]) (rest := []) (ws' := [(a_p0, .inr (6, [.ref a_p0_text, .ref a_p0_reader, .ref a_p0_draft, .ref a_p0_land, .ref a_p0_now, .ref a_p0_trial, .ref a_p0_acts, .ref a_p0_hearings, .ref a_p0_kept, .int p0_keptSlots, .long p0_seedNow])), (a_p0_land, .inr (1, [.ref a_p0_land_places, .ref a_p0_land_kinds, .ref a_p0_land_clapPlaces, .ref a_p0_land_louds, .ref a_p0_land_ones, .ref a_p0_land_others, .ref a_p0_land_worths, .ref a_p0_land_hangs, .int p0_land_persons, .int p0_land_skies, .int p0_land_oaths])), (a_p0_now, .inr (4, [.ref a_p0_land, .int p0_now_places, .int p0_now_wool, .int p0_now_sworn, .int p0_now_worth, .int p0_now_day])), (a_p0_land_ones, .inl (cI, 5, .inl p0_land_ones)), (a_p0_land_others, .inl (cI, 5, .inl p0_land_others)), (a_p0_land_worths, .inl (cI, 5, .inl p0_land_worths)), (a_p0_land_hangs, .inl (cI, 5, .inl p0_land_hangs))]) (c_X6_bit l D cI cZ p0_now_sworn v1 r_12 hr_12) (va_cwS 2 hts gX6_oath_X6_bit rfl rfl rfl (by decide +kernel) ⟨Nat.le_of_ble_eq_true rfl, Nat.le_of_ble_eq_true rfl⟩) [] rfl rfl rfl rfl rfl hl.1 rfl (Nat.le_of_ble_eq_true rfl) ⟨Nat.le_of_ble_eq_true rfl, Nat.le_of_ble_eq_true rfl⟩ dX6_oath_104 (fun H locs hW => ?_)
      exact hE _ _ _ _ _ r_12 (sm hf) hW rfl dX6_oath_107
    have hf := it_f c_11 hf
    refine lv_tableOut (tgt := 108) hx hb dX6_oath_14 (sw_out 4 (by decide) (fun j hj => match j, hj with | 0, _ => c_3 | 1, _ => c_5 | 2, _ => c_7 | 3, _ => c_9 | 4, _ => c_11 | _ + 5, hj => absurd hj (by omega))) (by decide) ?_
    refine lv_bipush (v := -2) hx hb dX6_oath_108 (by decide) ?_
    exact hE _ _ _ _ _ (-2 : Int32) (sm hf) hW rfl dX6_oath_110
  · have hf := it_t c_2 hf
    refine lv_iconst (v := -1) hx hb dX6_oath_11 (by decide) ?_
    exact hE _ _ _ _ _ (-1 : Int32) (sm hf) hW rfl dX6_oath_12
def f_X4_saveTo (n_p1 : Nat) (v2 : Int32) (p0_places : Int32) (p0_wool : Int32) (p0_sworn : Int32) (p0_worth : Int32) (p0_day : Int32) (p1 : Nat → Int32) : Option (Nat → Int32) := (some (v2 * (5 : Int32))).bind fun w_1 => (f_X6_put n_p1 w_1 p0_places p1).bind fun r_2 => (f_X6_put n_p1 (w_1 + (1 : Int32)) p0_wool r_2).bind fun r_3 => (f_X6_put n_p1 (w_1 + (2 : Int32)) p0_sworn r_3).bind fun r_4 => (f_X6_put n_p1 (w_1 + (3 : Int32)) p0_worth r_4).bind fun r_5 => (f_X6_put n_p1 (w_1 + (4 : Int32)) p0_day r_5).bind fun r_6 => some r_6
set_option maxHeartbeats 4000000 in
set_option maxRecDepth 100000 in
theorem c_X4_saveTo (l : Launch) (D : va_G) (cI cZ : ClassId) (a_p0 a_p1 a_p0_land : Nat) (n_p1 : Nat) (p0_places : Int32) (p0_wool : Int32) (p0_sworn : Int32) (p0_worth : Int32) (p0_day : Int32) (p1 : Nat → Int32) (v2 : Int32) (q : Nat → Int32) (hf : f_X4_saveTo n_p1 v2 p0_places p0_wool p0_sworn p0_worth p0_day p1 = some q) : CtV l D cI cZ yX4_saveTo wsX4_saveTo 1 22 [.ref a_p0, .ref a_p1, .int v2] [(a_p0, .inr (4, [.ref a_p0_land, .int p0_places, .int p0_wool, .int p0_sworn, .int p0_worth, .int p0_day])), (a_p1, .inl (cI, n_p1, .inl p1))] (fun q => [(a_p0, .inr (4, [.ref a_p0_land, .int p0_places, .int p0_wool, .int p0_sworn, .int p0_worth, .int p0_day])), (a_p1, .inl (cI, n_p1, .inl q))]) q := by
  refine CtV.of (cc := cX4_saveTo) (maxL := 4) (plainFor_of_name (by decide)) rfl (Nat.le_of_ble_eq_true rfl) ?_
  intro p e s m args below meth c A Q H ls hB hE hW hl
  have hx := hB.1
  have hb := hB.2.1
  have hml := hB.2.2.2.1
  have hown : s.vm.findClass RX4 = some m.cls := hB.2.2.2.2.1
  have hts := hB.2.2.2.2.2.1
  have hK := hB.2.2.2.2.2.2.2.1.1
  have hl : lv_has ls 4 [(0, .ref a_p0), (1, .ref a_p1), (2, .int v2)] := hl
  have in_X4 : ∀ w ∈ wsX40, w ∈ wsX4_saveTo := fun w h => List.mem_cons_of_mem _ (List.mem_append_right _ h)
  have fl_15 : (Cond.fieldLink RX4 15 (TX4 1).1 (TX4 1).2.1 (TX4 1).2.2.1).before args s = true := hts (.fieldLink RX4 15 "ClapOaths$Standing" "places" "I") (by decide +kernel)
  have fl_19 : (Cond.fieldLink RX4 19 (TX4 2).1 (TX4 2).2.1 (TX4 2).2.2.1).before args s = true := hts (.fieldLink RX4 19 "ClapOaths$Standing" "wool" "I") (by decide +kernel)
  have fl_22 : (Cond.fieldLink RX4 22 (TX4 3).1 (TX4 3).2.1 (TX4 3).2.2.1).before args s = true := hts (.fieldLink RX4 22 "ClapOaths$Standing" "sworn" "I") (by decide +kernel)
  have fl_25 : (Cond.fieldLink RX4 25 (TX4 4).1 (TX4 4).2.1 (TX4 4).2.2.1).before args s = true := hts (.fieldLink RX4 25 "ClapOaths$Standing" "worth" "I") (by decide +kernel)
  have fl_28 : (Cond.fieldLink RX4 28 (TX4 5).1 (TX4 5).2.1 (TX4 5).2.2.1).before args s = true := hts (.fieldLink RX4 28 "ClapOaths$Standing" "day" "I") (by decide +kernel)
  unfold f_X4_saveTo at hf
  refine lv_iload_n hx hb dX4_saveTo_0 rfl (lv_at hl 2 rfl) ?_
  refine lv_iconst (v := 5) hx hb dX4_saveTo_1 (by decide) ?_
  refine lv_imul hx hb dX4_saveTo_2 ?_
  obtain ⟨w_1, hw_1, hf⟩ := bnd hf
  refine q_nmI hw_1 ?_
  refine lv_istore_n (lv' := [(3, .int w_1), (0, .ref a_p0), (1, .ref a_p1), (2, .int v2)]) hx hb dX4_saveTo_3 rfl hl (by decide) rfl (fun ls hl => ?_)
  refine lv_aload_n hx hb dX4_saveTo_4 rfl (lv_at hl 2 rfl) ?_
  refine lv_iload_n hx hb dX4_saveTo_5 rfl (lv_at hl 0 rfl) ?_
  refine lv_aload_n hx hb dX4_saveTo_6 rfl (lv_at hl 1 rfl) ?_
  refine q_get hB hW 4 in_X4 0 rfl rfl 1 (by decide) fl_15 (v := .int p0_places) rfl dX4_saveTo_7 ?_
  obtain ⟨r_2, hr_2, hf⟩ := bnd hf
  refine q_callNV hB hW (As := [.ref a_p1, .int w_1, .int p0_places]) (rest := []) (ws' := [(a_p0, .inr (4, [.ref a_p0_land, .int p0_places, .int p0_wool, .int p0_sworn, .int p0_worth, .int p0_day])), (a_p1, .inl (cI, n_p1, .inl r_2))]) (c_X6_put l D cI cZ a_p1 n_p1 p1 w_1 p0_places r_2 hr_2) ⟨va_cnB 3 hts gX4_saveTo_X6_put_n53 rfl rfl rfl (hB.2.2.2.2.2.2.2.1.2 (RX4, 53, yX6_put, RX6) (by decide +kernel)) (hts (.initialized RX6) (by decide +kernel)) (by decide +kernel) ⟨Nat.le_of_ble_eq_true rfl, Nat.le_of_ble_eq_true rfl⟩, hts (.static yX6_put) (by decide +kernel), trivial⟩ [1] rfl rfl rfl rfl rfl hl.1 rfl (Nat.le_of_ble_eq_true rfl) ⟨Nat.le_of_ble_eq_true rfl, Nat.le_of_ble_eq_true rfl⟩ dX4_saveTo_10 (fun H locs hW => ?_)
  refine lv_aload_n hx hb dX4_saveTo_13 rfl (lv_at hl 2 rfl) ?_
  refine lv_iload_n hx hb dX4_saveTo_14 rfl (lv_at hl 0 rfl) ?_
  refine lv_iconst (v := 1) hx hb dX4_saveTo_15 (by decide) ?_
  refine lv_iadd hx hb dX4_saveTo_16 ?_
  refine lv_aload_n hx hb dX4_saveTo_17 rfl (lv_at hl 1 rfl) ?_
  refine q_get hB hW 4 in_X4 0 rfl rfl 2 (by decide) fl_19 (v := .int p0_wool) rfl dX4_saveTo_18 ?_
  obtain ⟨r_3, hr_3, hf⟩ := bnd hf
  refine q_callNV hB hW (As := [.ref a_p1, .int (w_1 + (1 : Int32)), .int p0_wool]) (rest := []) (ws' := [(a_p0, .inr (4, [.ref a_p0_land, .int p0_places, .int p0_wool, .int p0_sworn, .int p0_worth, .int p0_day])), (a_p1, .inl (cI, n_p1, .inl r_3))]) (c_X6_put l D cI cZ a_p1 n_p1 r_2 (w_1 + (1 : Int32)) p0_wool r_3 hr_3) ⟨va_cnB 3 hts gX4_saveTo_X6_put_n53 rfl rfl rfl (hB.2.2.2.2.2.2.2.1.2 (RX4, 53, yX6_put, RX6) (by decide +kernel)) (hts (.initialized RX6) (by decide +kernel)) (by decide +kernel) ⟨Nat.le_of_ble_eq_true rfl, Nat.le_of_ble_eq_true rfl⟩, hts (.static yX6_put) (by decide +kernel), trivial⟩ [1] rfl rfl rfl rfl rfl hl.1 rfl (Nat.le_of_ble_eq_true rfl) ⟨Nat.le_of_ble_eq_true rfl, Nat.le_of_ble_eq_true rfl⟩ dX4_saveTo_21 (fun H locs hW => ?_)
  refine lv_aload_n hx hb dX4_saveTo_24 rfl (lv_at hl 2 rfl) ?_
  refine lv_iload_n hx hb dX4_saveTo_25 rfl (lv_at hl 0 rfl) ?_
  refine lv_iconst (v := 2) hx hb dX4_saveTo_26 (by decide) ?_
  refine lv_iadd hx hb dX4_saveTo_27 ?_
  refine lv_aload_n hx hb dX4_saveTo_28 rfl (lv_at hl 1 rfl) ?_
  refine q_get hB hW 4 in_X4 0 rfl rfl 3 (by decide) fl_22 (v := .int p0_sworn) rfl dX4_saveTo_29 ?_
  obtain ⟨r_4, hr_4, hf⟩ := bnd hf
  refine q_callNV hB hW (As := [.ref a_p1, .int (w_1 + (2 : Int32)), .int p0_sworn]) (rest := []) (ws' := [(a_p0, .inr (4, [.ref a_p0_land, .int p0_places, .int p0_wool, .int p0_sworn, .int p0_worth, .int p0_day])), (a_p1, .inl (cI, n_p1, .inl r_4))]) (c_X6_put l D cI cZ a_p1 n_p1 r_3 (w_1 + (2 : Int32)) p0_sworn r_4 hr_4) ⟨va_cnB 3 hts gX4_saveTo_X6_put_n53 rfl rfl rfl (hB.2.2.2.2.2.2.2.1.2 (RX4, 53, yX6_put, RX6) (by decide +kernel)) (hts (.initialized RX6) (by decide +kernel)) (by decide +kernel) ⟨Nat.le_of_ble_eq_true rfl, Nat.le_of_ble_eq_true rfl⟩, hts (.static yX6_put) (by decide +kernel), trivial⟩ [1] rfl rfl rfl rfl rfl hl.1 rfl (Nat.le_of_ble_eq_true rfl) ⟨Nat.le_of_ble_eq_true rfl, Nat.le_of_ble_eq_true rfl⟩ dX4_saveTo_32 (fun H locs hW => ?_)
  refine lv_aload_n hx hb dX4_saveTo_35 rfl (lv_at hl 2 rfl) ?_
  refine lv_iload_n hx hb dX4_saveTo_36 rfl (lv_at hl 0 rfl) ?_
  refine lv_iconst (v := 3) hx hb dX4_saveTo_37 (by decide) ?_
  refine lv_iadd hx hb dX4_saveTo_38 ?_
  refine lv_aload_n hx hb dX4_saveTo_39 rfl (lv_at hl 1 rfl) ?_
  refine q_get hB hW 4 in_X4 0 rfl rfl 4 (by decide) fl_25 (v := .int p0_worth) rfl dX4_saveTo_40 ?_
  obtain ⟨r_5, hr_5, hf⟩ := bnd hf
  refine q_callNV hB hW (As := [.ref a_p1, .int (w_1 + (3 : Int32)), .int p0_worth]) (rest := []) (ws' := [(a_p0, .inr (4, [.ref a_p0_land, .int p0_places, .int p0_wool, .int p0_sworn, .int p0_worth, .int p0_day])), (a_p1, .inl (cI, n_p1, .inl r_5))]) (c_X6_put l D cI cZ a_p1 n_p1 r_4 (w_1 + (3 : Int32)) p0_worth r_5 hr_5) ⟨va_cnB 3 hts gX4_saveTo_X6_put_n53 rfl rfl rfl (hB.2.2.2.2.2.2.2.1.2 (RX4, 53, yX6_put, RX6) (by decide +kernel)) (hts (.initialized RX6) (by decide +kernel)) (by decide +kernel) ⟨Nat.le_of_ble_eq_true rfl, Nat.le_of_ble_eq_true rfl⟩, hts (.static yX6_put) (by decide +kernel), trivial⟩ [1] rfl rfl rfl rfl rfl hl.1 rfl (Nat.le_of_ble_eq_true rfl) ⟨Nat.le_of_ble_eq_true rfl, Nat.le_of_ble_eq_true rfl⟩ dX4_saveTo_43 (fun H locs hW => ?_)
  refine lv_aload_n hx hb dX4_saveTo_46 rfl (lv_at hl 2 rfl) ?_
  refine lv_iload_n hx hb dX4_saveTo_47 rfl (lv_at hl 0 rfl) ?_
  refine lv_iconst (v := 4) hx hb dX4_saveTo_48 (by decide) ?_
  refine lv_iadd hx hb dX4_saveTo_49 ?_
  refine lv_aload_n hx hb dX4_saveTo_50 rfl (lv_at hl 1 rfl) ?_
  refine q_get hB hW 4 in_X4 0 rfl rfl 5 (by decide) fl_28 (v := .int p0_day) rfl dX4_saveTo_51 ?_
  obtain ⟨r_6, hr_6, hf⟩ := bnd hf
  refine q_callNV hB hW (As := [.ref a_p1, .int (w_1 + (4 : Int32)), .int p0_day]) (rest := []) (ws' := [(a_p0, .inr (4, [.ref a_p0_land, .int p0_places, .int p0_wool, .int p0_sworn, .int p0_worth, .int p0_day])), (a_p1, .inl (cI, n_p1, .inl r_6))]) (c_X6_put l D cI cZ a_p1 n_p1 r_5 (w_1 + (4 : Int32)) p0_day r_6 hr_6) ⟨va_cnB 3 hts gX4_saveTo_X6_put_n53 rfl rfl rfl (hB.2.2.2.2.2.2.2.1.2 (RX4, 53, yX6_put, RX6) (by decide +kernel)) (hts (.initialized RX6) (by decide +kernel)) (by decide +kernel) ⟨Nat.le_of_ble_eq_true rfl, Nat.le_of_ble_eq_true rfl⟩, hts (.static yX6_put) (by decide +kernel), trivial⟩ [1] rfl rfl rfl rfl rfl hl.1 rfl (Nat.le_of_ble_eq_true rfl) ⟨Nat.le_of_ble_eq_true rfl, Nat.le_of_ble_eq_true rfl⟩ dX4_saveTo_54 (fun H locs hW => ?_)
  exact hE _ _ _ _ r_6 (sm hf) hW dX4_saveTo_57
def f_X0_push (p0_length : Int32) (p0_row : Nat → Int32) (p1_places : Int32) (p1_wool : Int32) (p1_sworn : Int32) (p1_worth : Int32) (p1_day : Int32) : Option (Int32 × (Nat → Int32)) := if p0_length < (14 : Int32) then (f_X4_saveTo 70 p0_length p1_places p1_wool p1_sworn p1_worth p1_day p0_row).bind fun r_2 => (some (p0_length + (1 : Int32))).bind fun w_3 => some (w_3, r_2) else (f_X4_saveTo 70 (13 : Int32) p1_places p1_wool p1_sworn p1_worth p1_day (va_cpy p0_row p0_row 5 0 65)).bind fun r_4 => (some ((13 : Int32) + (1 : Int32))).bind fun w_5 => some (w_5, r_4)
set_option maxHeartbeats 4000000 in
set_option maxRecDepth 100000 in
theorem c_X0_push (l : Launch) (D : va_G) (cI cZ : ClassId) (a_p0 a_p1 a_p0_row a_p1_land : Nat) (p0_length : Int32) (p0_row : Nat → Int32) (p1_places : Int32) (p1_wool : Int32) (p1_sworn : Int32) (p1_worth : Int32) (p1_day : Int32) (q : Int32 × (Nat → Int32)) (hf : f_X0_push p0_length p0_row p1_places p1_wool p1_sworn p1_worth p1_day = some q) : CtV l D cI cZ yX0_push wsX0_push 2 45 [.ref a_p0, .ref a_p1] [(a_p0, .inr (0, [.ref a_p0_row, .int p0_length])), (a_p0_row, .inl (cI, 70, .inl p0_row)), (a_p1, .inr (4, [.ref a_p1_land, .int p1_places, .int p1_wool, .int p1_sworn, .int p1_worth, .int p1_day]))] (fun q => [(a_p0, .inr (0, [.ref a_p0_row, .int q.1])), (a_p0_row, .inl (cI, 70, .inl q.2)), (a_p1, .inr (4, [.ref a_p1_land, .int p1_places, .int p1_wool, .int p1_sworn, .int p1_worth, .int p1_day]))]) q := by
  refine CtV.of (cc := cX0_push) (maxL := 2) (plainFor_of_name (by decide)) rfl (Nat.le_of_ble_eq_true rfl) ?_
  intro p e s m args below meth c A Q H ls hB hE hW hl
  have hx := hB.1
  have hb := hB.2.1
  have hml := hB.2.2.2.1
  have hown : s.vm.findClass RX0 = some m.cls := hB.2.2.2.2.1
  have hts := hB.2.2.2.2.2.1
  have hK := hB.2.2.2.2.2.2.2.1.1
  have hl : lv_has ls 2 [(0, .ref a_p0), (1, .ref a_p1)] := hl
  have in_X0 : ∀ w ∈ wsX00, w ∈ wsX0_push := fun w h => List.mem_cons_of_mem _ (List.mem_append_left _ (List.mem_append_right _ h))
  have fl_11 : (Cond.fieldLink RX0 11 (TX0 0).1 (TX0 0).2.1 (TX0 0).2.2.1).before args s = true := hts (.fieldLink RX0 11 "ClapOaths$Acts" "row" "[I") (by decide +kernel)
  have fl_17 : (Cond.fieldLink RX0 17 (TX0 1).1 (TX0 1).2.1 (TX0 1).2.2.1).before args s = true := hts (.fieldLink RX0 17 "ClapOaths$Acts" "length" "I") (by decide +kernel)
  unfold f_X0_push at hf
  refine lv_aload_n hx hb dX0_push_0 rfl (lv_at hl 0 rfl) ?_
  refine q_get hB hW 0 in_X0 0 rfl rfl 1 (by decide) fl_17 (v := .int p0_length) rfl dX0_push_1 ?_
  refine lv_bipush (v := 14) hx hb dX0_push_4 (by decide) ?_
  refine lv_icmp_lt (tgt := 35) hx hb dX0_push_6 (by decide) (fun c_1 => ?_) (fun c_1 => ?_)
  · have hf := it_t c_1 hf
    refine lv_aload_n hx hb dX0_push_35 rfl (lv_at hl 1 rfl) ?_
    refine lv_aload_n hx hb dX0_push_36 rfl (lv_at hl 0 rfl) ?_
    refine q_get hB hW 0 in_X0 0 rfl rfl 0 (by decide) fl_11 (v := .ref a_p0_row) rfl dX0_push_37 ?_
    refine lv_aload_n hx hb dX0_push_40 rfl (lv_at hl 0 rfl) ?_
    refine q_get hB hW 0 in_X0 0 rfl rfl 1 (by decide) fl_17 (v := .int p0_length) rfl dX0_push_41 ?_
    obtain ⟨r_2, hr_2, hf⟩ := bnd hf
    refine q_callVV hB hW (ci := 4) (q0 := 0) rfl rfl rfl (As := [.ref a_p0_row, .int p0_length]) (rest := []) (ws' := [(a_p0, .inr (0, [.ref a_p0_row, .int p0_length])), (a_p0_row, .inl (cI, 70, .inl r_2)), (a_p1, .inr (4, [.ref a_p1_land, .int p1_places, .int p1_wool, .int p1_sworn, .int p1_worth, .int p1_day]))]) (c_X4_saveTo l D cI cZ a_p1 a_p0_row a_p1_land 70 p1_places p1_wool p1_sworn p1_worth p1_day p0_row p0_length r_2 hr_2) (cwV 2 hts gX0_push_X4_saveTo rfl rfl rfl (by decide +kernel) ⟨Nat.le_of_ble_eq_true rfl, Nat.le_of_ble_eq_true rfl⟩) [2, 1] rfl rfl rfl rfl rfl hl.1 rfl (Nat.le_of_ble_eq_true rfl) ⟨Nat.le_of_ble_eq_true rfl, Nat.le_of_ble_eq_true rfl⟩ dX0_push_44 (fun H locs hW => ?_)
    refine lv_aload_n hx hb dX0_push_47 rfl (lv_at hl 0 rfl) ?_
    refine lv_dup hx hb dX0_push_48 rfl ?_
    refine q_get hB hW 0 in_X0 0 rfl rfl 1 (by decide) fl_17 (v := .int p0_length) rfl dX0_push_49 ?_
    refine lv_iconst (v := 1) hx hb dX0_push_52 (by decide) ?_
    refine lv_iadd hx hb dX0_push_53 ?_
    obtain ⟨w_3, hw_3, hf⟩ := bnd hf
    refine q_nmI hw_3 ?_
    refine q_put hB hW 0 in_X0 tyX0 tyX0_ok nmX0 0 rfl rfl 1 (by decide) fl_17 rfl (by first | rfl | decide) (by first | rfl | decide) (Nat.le_of_ble_eq_true rfl) (ws' := [(a_p0, .inr (0, [.ref a_p0_row, .int w_3])), (a_p0_row, .inl (cI, 70, .inl r_2)), (a_p1, .inr (4, [.ref a_p1_land, .int p1_places, .int p1_wool, .int p1_sworn, .int p1_worth, .int p1_day]))]) rfl dX0_push_54 (fun H locs hW => ?_)
    exact hE _ _ _ _ (w_3, r_2) (sm hf) hW dX0_push_57
  · have hf := it_f c_1 hf
    refine lv_aload_n hx hb dX0_push_9 rfl (lv_at hl 0 rfl) ?_
    refine q_get hB hW 0 in_X0 0 rfl rfl 0 (by decide) fl_11 (v := .ref a_p0_row) rfl dX0_push_10 ?_
    refine lv_iconst (v := 5) hx hb dX0_push_13 (by decide) ?_
    refine lv_aload_n hx hb dX0_push_14 rfl (lv_at hl 0 rfl) ?_
    refine q_get hB hW 0 in_X0 0 rfl rfl 0 (by decide) fl_11 (v := .ref a_p0_row) rfl dX0_push_15 ?_
    refine lv_iconst (v := 0) hx hb dX0_push_18 (by decide) ?_
    refine lv_aload_n hx hb dX0_push_19 rfl (lv_at hl 0 rfl) ?_
    refine q_get hB hW 0 in_X0 0 rfl rfl 0 (by decide) fl_11 (v := .ref a_p0_row) rfl dX0_push_20 ?_
    refine q_alen hB hW 1 rfl (v := (70 : Int32)) rfl dX0_push_23 ?_
    refine lv_iconst (v := 5) hx hb dX0_push_24 (by decide) ?_
    refine lv_isub hx hb dX0_push_25 ?_
    refine va_copyi hx hb (hml.trans hl.1.symm) hown (hts (.methodLink RX0 21 arraycopyName) (by decide +kernel)) (hts (.native arraycopyName) (by decide +kernel)) (hts (.static arraycopyName) (by decide +kernel)) (hts (.initialized "java/lang/System") (by decide +kernel)) hK hW.1 hW.2.1 hW.2.2 1 1 0 0 rfl rfl rfl rfl rfl (by decide) (by decide) (by decide) (by decide) (by decide) (fun _ _ => rfl) (Nat.le_of_ble_eq_true rfl) (Nat.le_of_ble_eq_true rfl) dX0_push_26 (fun H locs hP hD hS => ?_)
    have hW : Wl D A s.heap [(a_p0, .inr (0, [.ref a_p0_row, .int p0_length])), (a_p0_row, .inl (cI, 70, .inl (va_cpy p0_row p0_row 5 0 65))), (a_p1, .inr (4, [.ref a_p1_land, .int p1_places, .int p1_wool, .int p1_sworn, .int p1_worth, .int p1_day]))] H locs := ⟨hP, hD, hS⟩
    refine lv_aload_n hx hb dX0_push_29 rfl (lv_at hl 0 rfl) ?_
    refine lv_bipush (v := 13) hx hb dX0_push_30 (by decide) ?_
    refine q_put hB hW 0 in_X0 tyX0 tyX0_ok nmX0 0 rfl rfl 1 (by decide) fl_17 rfl (by first | rfl | decide) (by first | rfl | decide) (Nat.le_of_ble_eq_true rfl) (ws' := [(a_p0, .inr (0, [.ref a_p0_row, .int (13 : Int32)])), (a_p0_row, .inl (cI, 70, .inl (va_cpy p0_row p0_row 5 0 65))), (a_p1, .inr (4, [.ref a_p1_land, .int p1_places, .int p1_wool, .int p1_sworn, .int p1_worth, .int p1_day]))]) rfl dX0_push_32 (fun H locs hW => ?_)
    refine lv_aload_n hx hb dX0_push_35 rfl (lv_at hl 1 rfl) ?_
    refine lv_aload_n hx hb dX0_push_36 rfl (lv_at hl 0 rfl) ?_
    refine q_get hB hW 0 in_X0 0 rfl rfl 0 (by decide) fl_11 (v := .ref a_p0_row) rfl dX0_push_37 ?_
    refine lv_aload_n hx hb dX0_push_40 rfl (lv_at hl 0 rfl) ?_
    refine q_get hB hW 0 in_X0 0 rfl rfl 1 (by decide) fl_17 (v := .int (13 : Int32)) rfl dX0_push_41 ?_
    obtain ⟨r_4, hr_4, hf⟩ := bnd hf
    refine q_callVV hB hW (ci := 4) (q0 := 0) rfl rfl rfl (As := [.ref a_p0_row, .int (13 : Int32)]) (rest := []) (ws' := [(a_p0, .inr (0, [.ref a_p0_row, .int (13 : Int32)])), (a_p0_row, .inl (cI, 70, .inl r_4)), (a_p1, .inr (4, [.ref a_p1_land, .int p1_places, .int p1_wool, .int p1_sworn, .int p1_worth, .int p1_day]))]) (c_X4_saveTo l D cI cZ a_p1 a_p0_row a_p1_land 70 p1_places p1_wool p1_sworn p1_worth p1_day (va_cpy p0_row p0_row 5 0 65) (13 : Int32) r_4 hr_4) (cwV 2 hts gX0_push_X4_saveTo rfl rfl rfl (by decide +kernel) ⟨Nat.le_of_ble_eq_true rfl, Nat.le_of_ble_eq_true rfl⟩) [2, 1] rfl rfl rfl rfl rfl hl.1 rfl (Nat.le_of_ble_eq_true rfl) ⟨Nat.le_of_ble_eq_true rfl, Nat.le_of_ble_eq_true rfl⟩ dX0_push_44 (fun H locs hW => ?_)
    refine lv_aload_n hx hb dX0_push_47 rfl (lv_at hl 0 rfl) ?_
    refine lv_dup hx hb dX0_push_48 rfl ?_
    refine q_get hB hW 0 in_X0 0 rfl rfl 1 (by decide) fl_17 (v := .int (13 : Int32)) rfl dX0_push_49 ?_
    refine lv_iconst (v := 1) hx hb dX0_push_52 (by decide) ?_
    refine lv_iadd hx hb dX0_push_53 ?_
    obtain ⟨w_5, hw_5, hf⟩ := bnd hf
    refine q_nmI hw_5 ?_
    refine q_put hB hW 0 in_X0 tyX0 tyX0_ok nmX0 0 rfl rfl 1 (by decide) fl_17 rfl (by first | rfl | decide) (by first | rfl | decide) (Nat.le_of_ble_eq_true rfl) (ws' := [(a_p0, .inr (0, [.ref a_p0_row, .int w_5])), (a_p0_row, .inl (cI, 70, .inl r_4)), (a_p1, .inr (4, [.ref a_p1_land, .int p1_places, .int p1_wool, .int p1_sworn, .int p1_worth, .int p1_day]))]) rfl dX0_push_54 (fun H locs hW => ?_)
    exact hE _ _ _ _ (w_5, r_4) (sm hf) hW dX0_push_57
def f_X4_letsOut (v1 : Int32) (v2 : Int32) (p0_land_kinds : Nat → Int32) (p0_land_ones : Nat → Int32) (p0_land_others : Nat → Int32) : Option (Int32) := (f_X6_at 5 v1 p0_land_ones).bind fun r_1 => (f_X6_at 5 v1 p0_land_others).bind fun r_2 => (f_X6_bit v2 r_1).bind fun r_3 => if r_3 = (1 : Int32) then (f_X6_bit v2 r_2).bind fun r_9 => if r_9 = (1 : Int32) then some (1 : Int32) else (f_X6_at 5 r_1 p0_land_kinds).bind fun r_11 => if r_11 = (3 : Int32) then some (1 : Int32) else some (0 : Int32) else (f_X6_bit v2 r_2).bind fun r_5 => if r_5 = (1 : Int32) then (f_X6_at 5 r_2 p0_land_kinds).bind fun r_7 => if r_7 = (3 : Int32) then some (1 : Int32) else some (0 : Int32) else some (0 : Int32)
set_option maxHeartbeats 4000000 in
set_option maxRecDepth 100000 in
theorem c_X4_letsOut (l : Launch) (D : va_G) (cI cZ : ClassId) (a_p0 a_p0_land a_p0_land_places a_p0_land_kinds a_p0_land_clapPlaces a_p0_land_louds a_p0_land_ones a_p0_land_others a_p0_land_worths a_p0_land_hangs : Nat) (p0_places : Int32) (p0_wool : Int32) (p0_sworn : Int32) (p0_worth : Int32) (p0_day : Int32) (p0_land_persons : Int32) (p0_land_skies : Int32) (p0_land_oaths : Int32) (p0_land_kinds : Nat → Int32) (p0_land_ones : Nat → Int32) (p0_land_others : Nat → Int32) (v1 : Int32) (v2 : Int32) (q : Int32) (hf : f_X4_letsOut v1 v2 p0_land_kinds p0_land_ones p0_land_others = some q) : CtZ l D cI cZ yX4_letsOut wsX4_letsOut 1 21 [.ref a_p0, .int v1, .int v2] [(a_p0, .inr (4, [.ref a_p0_land, .int p0_places, .int p0_wool, .int p0_sworn, .int p0_worth, .int p0_day])), (a_p0_land, .inr (1, [.ref a_p0_land_places, .ref a_p0_land_kinds, .ref a_p0_land_clapPlaces, .ref a_p0_land_louds, .ref a_p0_land_ones, .ref a_p0_land_others, .ref a_p0_land_worths, .ref a_p0_land_hangs, .int p0_land_persons, .int p0_land_skies, .int p0_land_oaths])), (a_p0_land_kinds, .inl (cI, 5, .inl p0_land_kinds)), (a_p0_land_ones, .inl (cI, 5, .inl p0_land_ones)), (a_p0_land_others, .inl (cI, 5, .inl p0_land_others))] (fun q => [(a_p0, .inr (4, [.ref a_p0_land, .int p0_places, .int p0_wool, .int p0_sworn, .int p0_worth, .int p0_day])), (a_p0_land, .inr (1, [.ref a_p0_land_places, .ref a_p0_land_kinds, .ref a_p0_land_clapPlaces, .ref a_p0_land_louds, .ref a_p0_land_ones, .ref a_p0_land_others, .ref a_p0_land_worths, .ref a_p0_land_hangs, .int p0_land_persons, .int p0_land_skies, .int p0_land_oaths])), (a_p0_land_kinds, .inl (cI, 5, .inl p0_land_kinds)), (a_p0_land_ones, .inl (cI, 5, .inl p0_land_ones)), (a_p0_land_others, .inl (cI, 5, .inl p0_land_others))]) (fun q => q) q := by
  refine CtZ.of (cc := cX4_letsOut) (maxL := 7) (plainFor_of_name (by decide)) rfl (Nat.le_of_ble_eq_true rfl) ?_
  intro p e s m args below meth c A Q H ls hB hE hW hl
  have hx := hB.1
  have hb := hB.2.1
  have hml := hB.2.2.2.1
  have hown : s.vm.findClass RX4 = some m.cls := hB.2.2.2.2.1
  have hts := hB.2.2.2.2.2.1
  have hK := hB.2.2.2.2.2.2.2.1.1
  have hl : lv_has ls 7 [(0, .ref a_p0), (1, .int v1), (2, .int v2)] := hl
  have in_X1 : ∀ w ∈ wsX10, w ∈ wsX4_letsOut := fun w h => List.mem_cons_of_mem _ (List.mem_append_right _ h)
  have in_X4 : ∀ w ∈ wsX40, w ∈ wsX4_letsOut := fun w h => List.mem_cons_of_mem _ (List.mem_append_left _ (List.mem_append_right _ h))
  have fl_9 : (Cond.fieldLink RX4 9 (TX4 0).1 (TX4 0).2.1 (TX4 0).2.2.1).before args s = true := hts (.fieldLink RX4 9 "ClapOaths$Standing" "land" "LClapOaths$County;") (by decide +kernel)
  have fl_95 : (Cond.fieldLink RX4 95 (TX1 1).1 (TX1 1).2.1 (TX1 1).2.2.1).before args s = true := hts (.fieldLink RX4 95 "ClapOaths$County" "kinds" "[I") (by decide +kernel)
  have fl_116 : (Cond.fieldLink RX4 116 (TX1 4).1 (TX1 4).2.1 (TX1 4).2.2.1).before args s = true := hts (.fieldLink RX4 116 "ClapOaths$County" "ones" "[I") (by decide +kernel)
  have fl_119 : (Cond.fieldLink RX4 119 (TX1 5).1 (TX1 5).2.1 (TX1 5).2.2.1).before args s = true := hts (.fieldLink RX4 119 "ClapOaths$County" "others" "[I") (by decide +kernel)
  unfold f_X4_letsOut at hf
  refine lv_aload_n hx hb dX4_letsOut_0 rfl (lv_at hl 0 rfl) ?_
  refine q_get hB hW 4 in_X4 0 rfl rfl 0 (by decide) fl_9 (v := .ref a_p0_land) rfl dX4_letsOut_1 ?_
  refine q_get hB hW 1 in_X1 1 rfl rfl 4 (by decide) fl_116 (v := .ref a_p0_land_ones) rfl dX4_letsOut_4 ?_
  refine lv_iload_n hx hb dX4_letsOut_7 rfl (lv_at hl 1 rfl) ?_
  obtain ⟨r_1, hr_1, hf⟩ := bnd hf
  refine q_callNI hB hW (As := [.ref a_p0_land_ones, .int v1]) (rest := []) (ws' := [(a_p0, .inr (4, [.ref a_p0_land, .int p0_places, .int p0_wool, .int p0_sworn, .int p0_worth, .int p0_day])), (a_p0_land, .inr (1, [.ref a_p0_land_places, .ref a_p0_land_kinds, .ref a_p0_land_clapPlaces, .ref a_p0_land_louds, .ref a_p0_land_ones, .ref a_p0_land_others, .ref a_p0_land_worths, .ref a_p0_land_hangs, .int p0_land_persons, .int p0_land_skies, .int p0_land_oaths])), (a_p0_land_kinds, .inl (cI, 5, .inl p0_land_kinds)), (a_p0_land_ones, .inl (cI, 5, .inl p0_land_ones)), (a_p0_land_others, .inl (cI, 5, .inl p0_land_others))]) (c_X6_at l D cI cZ a_p0_land_ones 5 p0_land_ones v1 r_1 hr_1) ⟨va_cnB 2 hts gX4_letsOut_X6_at_n39 rfl rfl rfl (hB.2.2.2.2.2.2.2.1.2 (RX4, 39, yX6_at, RX6) (by decide +kernel)) (hts (.initialized RX6) (by decide +kernel)) (by decide +kernel) ⟨Nat.le_of_ble_eq_true rfl, Nat.le_of_ble_eq_true rfl⟩, hts (.static yX6_at) (by decide +kernel), trivial⟩ [3] rfl rfl rfl rfl rfl hl.1 rfl (Nat.le_of_ble_eq_true rfl) ⟨Nat.le_of_ble_eq_true rfl, Nat.le_of_ble_eq_true rfl⟩ dX4_letsOut_8 (fun H locs hW => ?_)
  refine lv_istore_n (lv' := [(3, .int r_1), (0, .ref a_p0), (1, .int v1), (2, .int v2)]) hx hb dX4_letsOut_11 rfl hl (by decide) rfl (fun ls hl => ?_)
  refine lv_aload_n hx hb dX4_letsOut_12 rfl (lv_at hl 1 rfl) ?_
  refine q_get hB hW 4 in_X4 0 rfl rfl 0 (by decide) fl_9 (v := .ref a_p0_land) rfl dX4_letsOut_13 ?_
  refine q_get hB hW 1 in_X1 1 rfl rfl 5 (by decide) fl_119 (v := .ref a_p0_land_others) rfl dX4_letsOut_16 ?_
  refine lv_iload_n hx hb dX4_letsOut_19 rfl (lv_at hl 2 rfl) ?_
  obtain ⟨r_2, hr_2, hf⟩ := bnd hf
  refine q_callNI hB hW (As := [.ref a_p0_land_others, .int v1]) (rest := []) (ws' := [(a_p0, .inr (4, [.ref a_p0_land, .int p0_places, .int p0_wool, .int p0_sworn, .int p0_worth, .int p0_day])), (a_p0_land, .inr (1, [.ref a_p0_land_places, .ref a_p0_land_kinds, .ref a_p0_land_clapPlaces, .ref a_p0_land_louds, .ref a_p0_land_ones, .ref a_p0_land_others, .ref a_p0_land_worths, .ref a_p0_land_hangs, .int p0_land_persons, .int p0_land_skies, .int p0_land_oaths])), (a_p0_land_kinds, .inl (cI, 5, .inl p0_land_kinds)), (a_p0_land_ones, .inl (cI, 5, .inl p0_land_ones)), (a_p0_land_others, .inl (cI, 5, .inl p0_land_others))]) (c_X6_at l D cI cZ a_p0_land_others 5 p0_land_others v1 r_2 hr_2) ⟨va_cnB 2 hts gX4_letsOut_X6_at_n39 rfl rfl rfl (hB.2.2.2.2.2.2.2.1.2 (RX4, 39, yX6_at, RX6) (by decide +kernel)) (hts (.initialized RX6) (by decide +kernel)) (by decide +kernel) ⟨Nat.le_of_ble_eq_true rfl, Nat.le_of_ble_eq_true rfl⟩, hts (.static yX6_at) (by decide +kernel), trivial⟩ [4] rfl rfl rfl rfl rfl hl.1 rfl (Nat.le_of_ble_eq_true rfl) ⟨Nat.le_of_ble_eq_true rfl, Nat.le_of_ble_eq_true rfl⟩ dX4_letsOut_20 (fun H locs hW => ?_)
  refine lv_istore (lv' := [(4, .int r_2), (3, .int r_1), (0, .ref a_p0), (1, .int v1), (2, .int v2)]) hx hb dX4_letsOut_23 hl (by decide) rfl (fun ls hl => ?_)
  refine lv_iload_n hx hb dX4_letsOut_25 rfl (lv_at hl 4 rfl) ?_
  refine lv_iload_n hx hb dX4_letsOut_26 rfl (lv_at hl 1 rfl) ?_
  obtain ⟨r_3, hr_3, hf⟩ := bnd hf
  refine q_callNI hB hW (As := [.int v2, .int r_1]) (rest := []) (ws' := [(a_p0, .inr (4, [.ref a_p0_land, .int p0_places, .int p0_wool, .int p0_sworn, .int p0_worth, .int p0_day])), (a_p0_land, .inr (1, [.ref a_p0_land_places, .ref a_p0_land_kinds, .ref a_p0_land_clapPlaces, .ref a_p0_land_louds, .ref a_p0_land_ones, .ref a_p0_land_others, .ref a_p0_land_worths, .ref a_p0_land_hangs, .int p0_land_persons, .int p0_land_skies, .int p0_land_oaths])), (a_p0_land_kinds, .inl (cI, 5, .inl p0_land_kinds)), (a_p0_land_ones, .inl (cI, 5, .inl p0_land_ones)), (a_p0_land_others, .inl (cI, 5, .inl p0_land_others))]) (c_X6_bit l D cI cZ v2 r_1 r_3 hr_3) ⟨va_cnB 2 hts gX4_letsOut_X6_bit_n61 rfl rfl rfl (hB.2.2.2.2.2.2.2.1.2 (RX4, 61, yX6_bit, RX6) (by decide +kernel)) (hts (.initialized RX6) (by decide +kernel)) (by decide +kernel) ⟨Nat.le_of_ble_eq_true rfl, Nat.le_of_ble_eq_true rfl⟩, hts (.static yX6_bit) (by decide +kernel), trivial⟩ [] rfl rfl rfl rfl rfl hl.1 rfl (Nat.le_of_ble_eq_true rfl) ⟨Nat.le_of_ble_eq_true rfl, Nat.le_of_ble_eq_true rfl⟩ dX4_letsOut_27 (fun H locs hW => ?_)
  refine lv_iconst (v := 1) hx hb dX4_letsOut_30 (by decide) ?_
  refine lv_icmp_ne (tgt := 38) hx hb dX4_letsOut_31 (by decide) (fun c_4 => ?_) (fun c_4 => ?_)
  · have hf := it_f c_4 hf
    refine lv_iconst (v := 0) hx hb dX4_letsOut_38 (by decide) ?_
    refine lv_istore (lv' := [(5, .int (0 : Int32)), (4, .int r_2), (3, .int r_1), (0, .ref a_p0), (1, .int v1), (2, .int v2)]) hx hb dX4_letsOut_39 hl (by decide) rfl (fun ls hl => ?_)
    refine lv_iload_n hx hb dX4_letsOut_41 rfl (lv_at hl 5 rfl) ?_
    refine lv_iload hx hb dX4_letsOut_42 (lv_at hl 1 rfl) ?_
    obtain ⟨r_5, hr_5, hf⟩ := bnd hf
    refine q_callNI hB hW (As := [.int v2, .int r_2]) (rest := []) (ws' := [(a_p0, .inr (4, [.ref a_p0_land, .int p0_places, .int p0_wool, .int p0_sworn, .int p0_worth, .int p0_day])), (a_p0_land, .inr (1, [.ref a_p0_land_places, .ref a_p0_land_kinds, .ref a_p0_land_clapPlaces, .ref a_p0_land_louds, .ref a_p0_land_ones, .ref a_p0_land_others, .ref a_p0_land_worths, .ref a_p0_land_hangs, .int p0_land_persons, .int p0_land_skies, .int p0_land_oaths])), (a_p0_land_kinds, .inl (cI, 5, .inl p0_land_kinds)), (a_p0_land_ones, .inl (cI, 5, .inl p0_land_ones)), (a_p0_land_others, .inl (cI, 5, .inl p0_land_others))]) (c_X6_bit l D cI cZ v2 r_2 r_5 hr_5) ⟨va_cnB 2 hts gX4_letsOut_X6_bit_n61 rfl rfl rfl (hB.2.2.2.2.2.2.2.1.2 (RX4, 61, yX6_bit, RX6) (by decide +kernel)) (hts (.initialized RX6) (by decide +kernel)) (by decide +kernel) ⟨Nat.le_of_ble_eq_true rfl, Nat.le_of_ble_eq_true rfl⟩, hts (.static yX6_bit) (by decide +kernel), trivial⟩ [] rfl rfl rfl rfl rfl hl.1 rfl (Nat.le_of_ble_eq_true rfl) ⟨Nat.le_of_ble_eq_true rfl, Nat.le_of_ble_eq_true rfl⟩ dX4_letsOut_44 (fun H locs hW => ?_)
    refine lv_iconst (v := 1) hx hb dX4_letsOut_47 (by decide) ?_
    refine lv_icmp_ne (tgt := 55) hx hb dX4_letsOut_48 (by decide) (fun c_6 => ?_) (fun c_6 => ?_)
    · have hf := it_f c_6 hf
      refine lv_iconst (v := 0) hx hb dX4_letsOut_55 (by decide) ?_
      refine lv_istore (lv' := [(6, .int (0 : Int32)), (5, .int (0 : Int32)), (4, .int r_2), (3, .int r_1), (0, .ref a_p0), (1, .int v1), (2, .int v2)]) hx hb dX4_letsOut_56 hl (by decide) rfl (fun ls hl => ?_)
      refine lv_iload hx hb dX4_letsOut_58 (lv_at hl 1 rfl) ?_
      refine lv_if_eq (tgt := 68) hx hb dX4_letsOut_60 (by decide) (fun _ => ?_) (fun c9 => absurd c9 (by decide))
      refine lv_iload hx hb dX4_letsOut_68 (lv_at hl 1 rfl) ?_
      refine lv_if_eq (tgt := 88) hx hb dX4_letsOut_70 (by decide) (fun _ => ?_) (fun c9 => absurd c9 (by decide))
      refine lv_iload hx hb dX4_letsOut_88 (lv_at hl 0 rfl) ?_
      refine lv_if_eq (tgt := 113) hx hb dX4_letsOut_90 (by decide) (fun _ => ?_) (fun c9 => absurd c9 (by decide))
      refine lv_iconst (v := 0) hx hb dX4_letsOut_113 (by decide) ?_
      exact hE _ _ _ _ _ (0 : Int32) (sm hf) hW rfl nz_0 dX4_letsOut_114
    · have hf := it_t c_6 hf
      refine lv_iconst (v := 1) hx hb dX4_letsOut_51 (by decide) ?_
      refine lv_goto (tgt := 56) hx hb dX4_letsOut_52 (by decide) ?_
      refine lv_istore (lv' := [(6, .int (1 : Int32)), (5, .int (0 : Int32)), (4, .int r_2), (3, .int r_1), (0, .ref a_p0), (1, .int v1), (2, .int v2)]) hx hb dX4_letsOut_56 hl (by decide) rfl (fun ls hl => ?_)
      refine lv_iload hx hb dX4_letsOut_58 (lv_at hl 1 rfl) ?_
      refine lv_if_eq (tgt := 68) hx hb dX4_letsOut_60 (by decide) (fun _ => ?_) (fun c9 => absurd c9 (by decide))
      refine lv_iload hx hb dX4_letsOut_68 (lv_at hl 1 rfl) ?_
      refine lv_if_eq (tgt := 88) hx hb dX4_letsOut_70 (by decide) (fun _ => ?_) (fun c9 => absurd c9 (by decide))
      refine lv_iload hx hb dX4_letsOut_88 (lv_at hl 0 rfl) ?_
      refine lv_if_eq (tgt := 113) hx hb dX4_letsOut_90 (by decide) (fun c9 => absurd c9 (by decide)) (fun _ => ?_)
      refine lv_aload_n hx hb dX4_letsOut_93 rfl (lv_at hl 4 rfl) ?_
      refine q_get hB hW 4 in_X4 0 rfl rfl 0 (by decide) fl_9 (v := .ref a_p0_land) rfl dX4_letsOut_94 ?_
      refine q_get hB hW 1 in_X1 1 rfl rfl 1 (by decide) fl_95 (v := .ref a_p0_land_kinds) rfl dX4_letsOut_97 ?_
      refine lv_iload hx hb dX4_letsOut_100 (lv_at hl 2 rfl) ?_
      obtain ⟨r_7, hr_7, hf⟩ := bnd hf
      refine q_callNI hB hW (As := [.ref a_p0_land_kinds, .int r_2]) (rest := []) (ws' := [(a_p0, .inr (4, [.ref a_p0_land, .int p0_places, .int p0_wool, .int p0_sworn, .int p0_worth, .int p0_day])), (a_p0_land, .inr (1, [.ref a_p0_land_places, .ref a_p0_land_kinds, .ref a_p0_land_clapPlaces, .ref a_p0_land_louds, .ref a_p0_land_ones, .ref a_p0_land_others, .ref a_p0_land_worths, .ref a_p0_land_hangs, .int p0_land_persons, .int p0_land_skies, .int p0_land_oaths])), (a_p0_land_kinds, .inl (cI, 5, .inl p0_land_kinds)), (a_p0_land_ones, .inl (cI, 5, .inl p0_land_ones)), (a_p0_land_others, .inl (cI, 5, .inl p0_land_others))]) (c_X6_at l D cI cZ a_p0_land_kinds 5 p0_land_kinds r_2 r_7 hr_7) ⟨va_cnB 2 hts gX4_letsOut_X6_at_n39 rfl rfl rfl (hB.2.2.2.2.2.2.2.1.2 (RX4, 39, yX6_at, RX6) (by decide +kernel)) (hts (.initialized RX6) (by decide +kernel)) (by decide +kernel) ⟨Nat.le_of_ble_eq_true rfl, Nat.le_of_ble_eq_true rfl⟩, hts (.static yX6_at) (by decide +kernel), trivial⟩ [2] rfl rfl rfl rfl rfl hl.1 rfl (Nat.le_of_ble_eq_true rfl) ⟨Nat.le_of_ble_eq_true rfl, Nat.le_of_ble_eq_true rfl⟩ dX4_letsOut_102 (fun H locs hW => ?_)
      refine lv_iconst (v := 3) hx hb dX4_letsOut_105 (by decide) ?_
      refine lv_icmp_ne (tgt := 113) hx hb dX4_letsOut_106 (by decide) (fun c_8 => ?_) (fun c_8 => ?_)
      · have hf := it_f c_8 hf
        refine lv_iconst (v := 0) hx hb dX4_letsOut_113 (by decide) ?_
        exact hE _ _ _ _ _ (0 : Int32) (sm hf) hW rfl nz_0 dX4_letsOut_114
      · have hf := it_t c_8 hf
        refine lv_iconst (v := 1) hx hb dX4_letsOut_109 (by decide) ?_
        refine lv_goto (tgt := 114) hx hb dX4_letsOut_110 (by decide) ?_
        exact hE _ _ _ _ _ (1 : Int32) (sm hf) hW rfl nz_1 dX4_letsOut_114
  · have hf := it_t c_4 hf
    refine lv_iconst (v := 1) hx hb dX4_letsOut_34 (by decide) ?_
    refine lv_goto (tgt := 39) hx hb dX4_letsOut_35 (by decide) ?_
    refine lv_istore (lv' := [(5, .int (1 : Int32)), (4, .int r_2), (3, .int r_1), (0, .ref a_p0), (1, .int v1), (2, .int v2)]) hx hb dX4_letsOut_39 hl (by decide) rfl (fun ls hl => ?_)
    refine lv_iload_n hx hb dX4_letsOut_41 rfl (lv_at hl 5 rfl) ?_
    refine lv_iload hx hb dX4_letsOut_42 (lv_at hl 1 rfl) ?_
    obtain ⟨r_9, hr_9, hf⟩ := bnd hf
    refine q_callNI hB hW (As := [.int v2, .int r_2]) (rest := []) (ws' := [(a_p0, .inr (4, [.ref a_p0_land, .int p0_places, .int p0_wool, .int p0_sworn, .int p0_worth, .int p0_day])), (a_p0_land, .inr (1, [.ref a_p0_land_places, .ref a_p0_land_kinds, .ref a_p0_land_clapPlaces, .ref a_p0_land_louds, .ref a_p0_land_ones, .ref a_p0_land_others, .ref a_p0_land_worths, .ref a_p0_land_hangs, .int p0_land_persons, .int p0_land_skies, .int p0_land_oaths])), (a_p0_land_kinds, .inl (cI, 5, .inl p0_land_kinds)), (a_p0_land_ones, .inl (cI, 5, .inl p0_land_ones)), (a_p0_land_others, .inl (cI, 5, .inl p0_land_others))]) (c_X6_bit l D cI cZ v2 r_2 r_9 hr_9) ⟨va_cnB 2 hts gX4_letsOut_X6_bit_n61 rfl rfl rfl (hB.2.2.2.2.2.2.2.1.2 (RX4, 61, yX6_bit, RX6) (by decide +kernel)) (hts (.initialized RX6) (by decide +kernel)) (by decide +kernel) ⟨Nat.le_of_ble_eq_true rfl, Nat.le_of_ble_eq_true rfl⟩, hts (.static yX6_bit) (by decide +kernel), trivial⟩ [] rfl rfl rfl rfl rfl hl.1 rfl (Nat.le_of_ble_eq_true rfl) ⟨Nat.le_of_ble_eq_true rfl, Nat.le_of_ble_eq_true rfl⟩ dX4_letsOut_44 (fun H locs hW => ?_)
    refine lv_iconst (v := 1) hx hb dX4_letsOut_47 (by decide) ?_
    refine lv_icmp_ne (tgt := 55) hx hb dX4_letsOut_48 (by decide) (fun c_10 => ?_) (fun c_10 => ?_)
    · have hf := it_f c_10 hf
      refine lv_iconst (v := 0) hx hb dX4_letsOut_55 (by decide) ?_
      refine lv_istore (lv' := [(6, .int (0 : Int32)), (5, .int (1 : Int32)), (4, .int r_2), (3, .int r_1), (0, .ref a_p0), (1, .int v1), (2, .int v2)]) hx hb dX4_letsOut_56 hl (by decide) rfl (fun ls hl => ?_)
      refine lv_iload hx hb dX4_letsOut_58 (lv_at hl 1 rfl) ?_
      refine lv_if_eq (tgt := 68) hx hb dX4_letsOut_60 (by decide) (fun c9 => absurd c9 (by decide)) (fun _ => ?_)
      refine lv_iload hx hb dX4_letsOut_63 (lv_at hl 0 rfl) ?_
      refine lv_if_ne (tgt := 109) hx hb dX4_letsOut_65 (by decide) (fun c9 => absurd c9 (by decide)) (fun _ => ?_)
      refine lv_iload hx hb dX4_letsOut_68 (lv_at hl 1 rfl) ?_
      refine lv_if_eq (tgt := 88) hx hb dX4_letsOut_70 (by decide) (fun c9 => absurd c9 (by decide)) (fun _ => ?_)
      refine lv_aload_n hx hb dX4_letsOut_73 rfl (lv_at hl 4 rfl) ?_
      refine q_get hB hW 4 in_X4 0 rfl rfl 0 (by decide) fl_9 (v := .ref a_p0_land) rfl dX4_letsOut_74 ?_
      refine q_get hB hW 1 in_X1 1 rfl rfl 1 (by decide) fl_95 (v := .ref a_p0_land_kinds) rfl dX4_letsOut_77 ?_
      refine lv_iload_n hx hb dX4_letsOut_80 rfl (lv_at hl 3 rfl) ?_
      obtain ⟨r_11, hr_11, hf⟩ := bnd hf
      refine q_callNI hB hW (As := [.ref a_p0_land_kinds, .int r_1]) (rest := []) (ws' := [(a_p0, .inr (4, [.ref a_p0_land, .int p0_places, .int p0_wool, .int p0_sworn, .int p0_worth, .int p0_day])), (a_p0_land, .inr (1, [.ref a_p0_land_places, .ref a_p0_land_kinds, .ref a_p0_land_clapPlaces, .ref a_p0_land_louds, .ref a_p0_land_ones, .ref a_p0_land_others, .ref a_p0_land_worths, .ref a_p0_land_hangs, .int p0_land_persons, .int p0_land_skies, .int p0_land_oaths])), (a_p0_land_kinds, .inl (cI, 5, .inl p0_land_kinds)), (a_p0_land_ones, .inl (cI, 5, .inl p0_land_ones)), (a_p0_land_others, .inl (cI, 5, .inl p0_land_others))]) (c_X6_at l D cI cZ a_p0_land_kinds 5 p0_land_kinds r_1 r_11 hr_11) ⟨va_cnB 2 hts gX4_letsOut_X6_at_n39 rfl rfl rfl (hB.2.2.2.2.2.2.2.1.2 (RX4, 39, yX6_at, RX6) (by decide +kernel)) (hts (.initialized RX6) (by decide +kernel)) (by decide +kernel) ⟨Nat.le_of_ble_eq_true rfl, Nat.le_of_ble_eq_true rfl⟩, hts (.static yX6_at) (by decide +kernel), trivial⟩ [2] rfl rfl rfl rfl rfl hl.1 rfl (Nat.le_of_ble_eq_true rfl) ⟨Nat.le_of_ble_eq_true rfl, Nat.le_of_ble_eq_true rfl⟩ dX4_letsOut_81 (fun H locs hW => ?_)
      refine lv_iconst (v := 3) hx hb dX4_letsOut_84 (by decide) ?_
      refine lv_icmp_eq (tgt := 109) hx hb dX4_letsOut_85 (by decide) (fun c_12 => ?_) (fun c_12 => ?_)
      · have hf := it_t c_12 hf
        refine lv_iconst (v := 1) hx hb dX4_letsOut_109 (by decide) ?_
        refine lv_goto (tgt := 114) hx hb dX4_letsOut_110 (by decide) ?_
        exact hE _ _ _ _ _ (1 : Int32) (sm hf) hW rfl nz_1 dX4_letsOut_114
      · have hf := it_f c_12 hf
        refine lv_iload hx hb dX4_letsOut_88 (lv_at hl 0 rfl) ?_
        refine lv_if_eq (tgt := 113) hx hb dX4_letsOut_90 (by decide) (fun _ => ?_) (fun c9 => absurd c9 (by decide))
        refine lv_iconst (v := 0) hx hb dX4_letsOut_113 (by decide) ?_
        exact hE _ _ _ _ _ (0 : Int32) (sm hf) hW rfl nz_0 dX4_letsOut_114
    · have hf := it_t c_10 hf
      refine lv_iconst (v := 1) hx hb dX4_letsOut_51 (by decide) ?_
      refine lv_goto (tgt := 56) hx hb dX4_letsOut_52 (by decide) ?_
      refine lv_istore (lv' := [(6, .int (1 : Int32)), (5, .int (1 : Int32)), (4, .int r_2), (3, .int r_1), (0, .ref a_p0), (1, .int v1), (2, .int v2)]) hx hb dX4_letsOut_56 hl (by decide) rfl (fun ls hl => ?_)
      refine lv_iload hx hb dX4_letsOut_58 (lv_at hl 1 rfl) ?_
      refine lv_if_eq (tgt := 68) hx hb dX4_letsOut_60 (by decide) (fun c9 => absurd c9 (by decide)) (fun _ => ?_)
      refine lv_iload hx hb dX4_letsOut_63 (lv_at hl 0 rfl) ?_
      refine lv_if_ne (tgt := 109) hx hb dX4_letsOut_65 (by decide) (fun _ => ?_) (fun c9 => absurd c9 (by decide))
      refine lv_iconst (v := 1) hx hb dX4_letsOut_109 (by decide) ?_
      refine lv_goto (tgt := 114) hx hb dX4_letsOut_110 (by decide) ?_
      exact hE _ _ _ _ _ (1 : Int32) (sm hf) hW rfl nz_1 dX4_letsOut_114
def f_J6_bitCount_0f7a4 (v0 : Int32) : Option (Int32) := (some (v0 - (((v0.toUInt32 >>> (Int32.toUInt32 (1 : Int32) &&& Int32.toUInt32 31)).toInt32) &&& (1431655765 : Int32)))).bind fun w_1 => (some ((w_1 &&& (858993459 : Int32)) + (((w_1.toUInt32 >>> (Int32.toUInt32 (2 : Int32) &&& Int32.toUInt32 31)).toInt32) &&& (858993459 : Int32)))).bind fun w_2 => (some ((w_2 + ((w_2.toUInt32 >>> (Int32.toUInt32 (4 : Int32) &&& Int32.toUInt32 31)).toInt32)) &&& (252645135 : Int32))).bind fun w_3 => (some (w_3 + ((w_3.toUInt32 >>> (Int32.toUInt32 (8 : Int32) &&& Int32.toUInt32 31)).toInt32))).bind fun w_4 => (some (w_4 + ((w_4.toUInt32 >>> (Int32.toUInt32 (16 : Int32) &&& Int32.toUInt32 31)).toInt32))).bind fun w_5 => some (w_5 &&& (63 : Int32))
set_option maxHeartbeats 4000000 in
set_option maxRecDepth 100000 in
theorem c_J6_bitCount_0f7a4 (l : Launch) (D : va_G) (cI cZ : ClassId) (v0 : Int32) (q : Int32) (hf : f_J6_bitCount_0f7a4 v0 = some q) : CtI l D cI cZ yJ6_bitCount_0f7a4 wsJ6_bitCount_0f7a4 0 0 [.int v0] [] (fun q => []) (fun q => q) q := by
  refine CtI.of (cc := cJ6_bitCount_0f7a4) (maxL := 1) (by decide +kernel) rfl (Nat.le_of_ble_eq_true rfl) ?_
  intro p e s m args below meth c A Q H ls hB hE hW hl
  have hx := hB.1
  have hb := hB.2.1
  have hml := hB.2.2.2.1
  have hown : s.vm.findClass RJ6 = some m.cls := hB.2.2.2.2.1
  have hts := hB.2.2.2.2.2.1
  have hK := hB.2.2.2.2.2.2.2.1.1
  have hl : lv_has ls 1 [(0, .int v0)] := hl
  unfold f_J6_bitCount_0f7a4 at hf
  refine lv_iload_n hx hb dJ6_bitCount_0f7a4_0 rfl (lv_at hl 0 rfl) ?_
  refine lv_iload_n hx hb dJ6_bitCount_0f7a4_1 rfl (lv_at hl 0 rfl) ?_
  refine lv_iconst (v := 1) hx hb dJ6_bitCount_0f7a4_2 (by decide) ?_
  refine lv_iushr (v := (v0.toUInt32 >>> (Int32.toUInt32 (1 : Int32) &&& Int32.toUInt32 31)).toInt32) hx hb dJ6_bitCount_0f7a4_3 rfl ?_
  refine lv_ldcw (v := 1431655765) hx hb hown (hts (.constant RJ6 265 (1431655765)) (by decide +kernel)) dJ6_bitCount_0f7a4_4 ?_
  refine lv_iand hx hb dJ6_bitCount_0f7a4_7 ?_
  refine lv_isub hx hb dJ6_bitCount_0f7a4_8 ?_
  obtain ⟨w_1, hw_1, hf⟩ := bnd hf
  refine q_nmI hw_1 ?_
  refine lv_istore_n (lv' := [(0, .int w_1)]) hx hb dJ6_bitCount_0f7a4_9 rfl hl (by decide) rfl (fun ls hl => ?_)
  refine lv_iload_n hx hb dJ6_bitCount_0f7a4_10 rfl (lv_at hl 0 rfl) ?_
  refine lv_ldcw (v := 858993459) hx hb hown (hts (.constant RJ6 266 (858993459)) (by decide +kernel)) dJ6_bitCount_0f7a4_11 ?_
  refine lv_iand hx hb dJ6_bitCount_0f7a4_14 ?_
  refine lv_iload_n hx hb dJ6_bitCount_0f7a4_15 rfl (lv_at hl 0 rfl) ?_
  refine lv_iconst (v := 2) hx hb dJ6_bitCount_0f7a4_16 (by decide) ?_
  refine lv_iushr (v := (w_1.toUInt32 >>> (Int32.toUInt32 (2 : Int32) &&& Int32.toUInt32 31)).toInt32) hx hb dJ6_bitCount_0f7a4_17 rfl ?_
  refine lv_ldcw (v := 858993459) hx hb hown (hts (.constant RJ6 266 (858993459)) (by decide +kernel)) dJ6_bitCount_0f7a4_18 ?_
  refine lv_iand hx hb dJ6_bitCount_0f7a4_21 ?_
  refine lv_iadd hx hb dJ6_bitCount_0f7a4_22 ?_
  obtain ⟨w_2, hw_2, hf⟩ := bnd hf
  refine q_nmI hw_2 ?_
  refine lv_istore_n (lv' := [(0, .int w_2)]) hx hb dJ6_bitCount_0f7a4_23 rfl hl (by decide) rfl (fun ls hl => ?_)
  refine lv_iload_n hx hb dJ6_bitCount_0f7a4_24 rfl (lv_at hl 0 rfl) ?_
  refine lv_iload_n hx hb dJ6_bitCount_0f7a4_25 rfl (lv_at hl 0 rfl) ?_
  refine lv_iconst (v := 4) hx hb dJ6_bitCount_0f7a4_26 (by decide) ?_
  refine lv_iushr (v := (w_2.toUInt32 >>> (Int32.toUInt32 (4 : Int32) &&& Int32.toUInt32 31)).toInt32) hx hb dJ6_bitCount_0f7a4_27 rfl ?_
  refine lv_iadd hx hb dJ6_bitCount_0f7a4_28 ?_
  refine lv_ldcw (v := 252645135) hx hb hown (hts (.constant RJ6 267 (252645135)) (by decide +kernel)) dJ6_bitCount_0f7a4_29 ?_
  refine lv_iand hx hb dJ6_bitCount_0f7a4_32 ?_
  obtain ⟨w_3, hw_3, hf⟩ := bnd hf
  refine q_nmI hw_3 ?_
  refine lv_istore_n (lv' := [(0, .int w_3)]) hx hb dJ6_bitCount_0f7a4_33 rfl hl (by decide) rfl (fun ls hl => ?_)
  refine lv_iload_n hx hb dJ6_bitCount_0f7a4_34 rfl (lv_at hl 0 rfl) ?_
  refine lv_iload_n hx hb dJ6_bitCount_0f7a4_35 rfl (lv_at hl 0 rfl) ?_
  refine lv_bipush (v := 8) hx hb dJ6_bitCount_0f7a4_36 (by decide) ?_
  refine lv_iushr (v := (w_3.toUInt32 >>> (Int32.toUInt32 (8 : Int32) &&& Int32.toUInt32 31)).toInt32) hx hb dJ6_bitCount_0f7a4_38 rfl ?_
  refine lv_iadd hx hb dJ6_bitCount_0f7a4_39 ?_
  obtain ⟨w_4, hw_4, hf⟩ := bnd hf
  refine q_nmI hw_4 ?_
  refine lv_istore_n (lv' := [(0, .int w_4)]) hx hb dJ6_bitCount_0f7a4_40 rfl hl (by decide) rfl (fun ls hl => ?_)
  refine lv_iload_n hx hb dJ6_bitCount_0f7a4_41 rfl (lv_at hl 0 rfl) ?_
  refine lv_iload_n hx hb dJ6_bitCount_0f7a4_42 rfl (lv_at hl 0 rfl) ?_
  refine lv_bipush (v := 16) hx hb dJ6_bitCount_0f7a4_43 (by decide) ?_
  refine lv_iushr (v := (w_4.toUInt32 >>> (Int32.toUInt32 (16 : Int32) &&& Int32.toUInt32 31)).toInt32) hx hb dJ6_bitCount_0f7a4_45 rfl ?_
  refine lv_iadd hx hb dJ6_bitCount_0f7a4_46 ?_
  obtain ⟨w_5, hw_5, hf⟩ := bnd hf
  refine q_nmI hw_5 ?_
  refine lv_istore_n (lv' := [(0, .int w_5)]) hx hb dJ6_bitCount_0f7a4_47 rfl hl (by decide) rfl (fun ls hl => ?_)
  refine lv_iload_n hx hb dJ6_bitCount_0f7a4_48 rfl (lv_at hl 0 rfl) ?_
  refine lv_bipush (v := 63) hx hb dJ6_bitCount_0f7a4_49 (by decide) ?_
  refine lv_iand hx hb dJ6_bitCount_0f7a4_51 ?_
  exact hE _ _ _ _ _ (w_5 &&& (63 : Int32)) (sm hf) hW rfl dJ6_bitCount_0f7a4_52
def b_X4_freeHanging_2 (v1 : Int32) (p0_land_oaths : Int32) (p0_land_hangs : Nat → Int32) (v2 : Int32) (p0_sworn : Int32) : Option ((Int32 × Int32) ⊕ (Int32)) := if p0_land_oaths ≤ v2 then some (.inr p0_sworn) else (f_X6_at 5 v2 p0_land_hangs).bind fun r_504 => if r_504 = (-9 : Int32) then some (.inl ((v2 + (1 : Int32)), p0_sworn)) else (f_X6_bit p0_sworn r_504).bind fun r_506 => if r_506 = (0 : Int32) then (some (p0_sworn &&& (((1 : Int32) <<< (v2 &&& 31)) ^^^ (-1 : Int32)))).bind fun w_508 => some (.inl ((v2 + (1 : Int32)), w_508)) else some (.inl ((v2 + (1 : Int32)), p0_sworn))
def f_X4_freeHanging (v1 : Int32) (p0_sworn : Int32) (p0_land_oaths : Int32) (p0_land_hangs : Nat → Int32) : Option (Int32 × Int32) := (itr (fun s => b_X4_freeHanging_2 v1 p0_land_oaths p0_land_hangs s.1 s.2) FU ((0 : Int32), p0_sworn)).bind fun x_2 => (f_J6_bitCount_0f7a4 v1).bind fun r_1 => (f_J6_bitCount_0f7a4 x_2).bind fun r_2 => some ((r_1 - r_2), x_2)
set_option maxHeartbeats 4000000 in
set_option maxRecDepth 100000 in
theorem c_X4_freeHanging (l : Launch) (D : va_G) (cI cZ : ClassId) (a_p0 a_p0_land a_p0_land_places a_p0_land_kinds a_p0_land_clapPlaces a_p0_land_louds a_p0_land_ones a_p0_land_others a_p0_land_worths a_p0_land_hangs : Nat) (p0_places : Int32) (p0_wool : Int32) (p0_sworn : Int32) (p0_worth : Int32) (p0_day : Int32) (p0_land_persons : Int32) (p0_land_skies : Int32) (p0_land_oaths : Int32) (p0_land_hangs : Nat → Int32) (v1 : Int32) (q : Int32 × Int32) (hf : f_X4_freeHanging v1 p0_sworn p0_land_oaths p0_land_hangs = some q) : CtI l D cI cZ yX4_freeHanging wsX4_freeHanging 1 21 [.ref a_p0, .int v1] [(a_p0, .inr (4, [.ref a_p0_land, .int p0_places, .int p0_wool, .int p0_sworn, .int p0_worth, .int p0_day])), (a_p0_land, .inr (1, [.ref a_p0_land_places, .ref a_p0_land_kinds, .ref a_p0_land_clapPlaces, .ref a_p0_land_louds, .ref a_p0_land_ones, .ref a_p0_land_others, .ref a_p0_land_worths, .ref a_p0_land_hangs, .int p0_land_persons, .int p0_land_skies, .int p0_land_oaths])), (a_p0_land_hangs, .inl (cI, 5, .inl p0_land_hangs))] (fun q => [(a_p0, .inr (4, [.ref a_p0_land, .int p0_places, .int p0_wool, .int q.2, .int p0_worth, .int p0_day])), (a_p0_land, .inr (1, [.ref a_p0_land_places, .ref a_p0_land_kinds, .ref a_p0_land_clapPlaces, .ref a_p0_land_louds, .ref a_p0_land_ones, .ref a_p0_land_others, .ref a_p0_land_worths, .ref a_p0_land_hangs, .int p0_land_persons, .int p0_land_skies, .int p0_land_oaths])), (a_p0_land_hangs, .inl (cI, 5, .inl p0_land_hangs))]) (fun q => q.1) q := by
  refine CtI.of (cc := cX4_freeHanging) (maxL := 4) (plainFor_of_name (by decide)) rfl (Nat.le_of_ble_eq_true rfl) ?_
  intro p e s m args below meth c A Q H ls hB hE hW hl
  have hx := hB.1
  have hb := hB.2.1
  have hml := hB.2.2.2.1
  have hown : s.vm.findClass RX4 = some m.cls := hB.2.2.2.2.1
  have hts := hB.2.2.2.2.2.1
  have hK := hB.2.2.2.2.2.2.2.1.1
  have hl : lv_has ls 4 [(0, .ref a_p0), (1, .int v1)] := hl
  have in_X1 : ∀ w ∈ wsX10, w ∈ wsX4_freeHanging := fun w h => List.mem_cons_of_mem _ (List.mem_append_right _ h)
  have in_X4 : ∀ w ∈ wsX40, w ∈ wsX4_freeHanging := fun w h => List.mem_cons_of_mem _ (List.mem_append_left _ (List.mem_append_right _ h))
  have fl_9 : (Cond.fieldLink RX4 9 (TX4 0).1 (TX4 0).2.1 (TX4 0).2.2.1).before args s = true := hts (.fieldLink RX4 9 "ClapOaths$Standing" "land" "LClapOaths$County;") (by decide +kernel)
  have fl_22 : (Cond.fieldLink RX4 22 (TX4 3).1 (TX4 3).2.1 (TX4 3).2.2.1).before args s = true := hts (.fieldLink RX4 22 "ClapOaths$Standing" "sworn" "I") (by decide +kernel)
  have fl_50 : (Cond.fieldLink RX4 50 (TX1 10).1 (TX1 10).2.1 (TX1 10).2.2.1).before args s = true := hts (.fieldLink RX4 50 "ClapOaths$County" "oaths" "I") (by decide +kernel)
  have fl_68 : (Cond.fieldLink RX4 68 (TX1 7).1 (TX1 7).2.1 (TX1 7).2.2.1).before args s = true := hts (.fieldLink RX4 68 "ClapOaths$County" "hangs" "[I") (by decide +kernel)
  unfold f_X4_freeHanging at hf
  refine lv_iconst (v := 0) hx hb dX4_freeHanging_0 (by decide) ?_
  refine lv_istore_n (lv' := [(2, .int (0 : Int32)), (0, .ref a_p0), (1, .int v1)]) hx hb dX4_freeHanging_1 rfl hl (by decide) rfl (fun ls hl => ?_)
  obtain ⟨e_2, hl_2, hk_2⟩ := bnd hf
  have K_2 : ∀ x_2 : Int32, x_2 = e_2 → ∀ (H : Heap) (locs : List Loc) (ls : Array Slot), Wl D A s.heap [(a_p0, .inr (4, [.ref a_p0_land, .int p0_places, .int p0_wool, .int x_2, .int p0_worth, .int p0_day])), (a_p0_land, .inr (1, [.ref a_p0_land_places, .ref a_p0_land_kinds, .ref a_p0_land_clapPlaces, .ref a_p0_land_louds, .ref a_p0_land_ones, .ref a_p0_land_others, .ref a_p0_land_worths, .ref a_p0_land_hangs, .int p0_land_persons, .int p0_land_skies, .int p0_land_oaths])), (a_p0_land_hangs, .inl (cI, 5, .inl p0_land_hangs))] H locs → lv_has ls 4 [(0, .ref a_p0), (1, .int v1)] → W p l e (Rm 1 21) s m args below meth c H locs 0 0 Q (F0 m 62 ls []) := by
    intro x_2 hx_2 H locs ls hW hl
    have hf := hk_2
    rw [← hx_2] at hf
    refine lv_iload_n hx hb dX4_freeHanging_62 rfl (lv_at hl 1 rfl) ?_
    obtain ⟨r_1, hr_1, hf⟩ := bnd hf
    refine q_callSI hB hW (As := [.int v1]) (rest := []) (ws' := [(a_p0, .inr (4, [.ref a_p0_land, .int p0_places, .int p0_wool, .int x_2, .int p0_worth, .int p0_day])), (a_p0_land, .inr (1, [.ref a_p0_land_places, .ref a_p0_land_kinds, .ref a_p0_land_clapPlaces, .ref a_p0_land_louds, .ref a_p0_land_ones, .ref a_p0_land_others, .ref a_p0_land_worths, .ref a_p0_land_hangs, .int p0_land_persons, .int p0_land_skies, .int p0_land_oaths])), (a_p0_land_hangs, .inl (cI, 5, .inl p0_land_hangs))]) (c_J6_bitCount_0f7a4 l D cI cZ v1 r_1 hr_1) (va_cwS 1 hts gX4_freeHanging_J6_bitCount_0f7a4 rfl rfl rfl (by decide +kernel) ⟨Nat.le_of_ble_eq_true rfl, Nat.le_of_ble_eq_true rfl⟩) [] rfl rfl rfl rfl rfl hl.1 rfl (Nat.le_of_ble_eq_true rfl) ⟨Nat.le_of_ble_eq_true rfl, Nat.le_of_ble_eq_true rfl⟩ dX4_freeHanging_63 (fun H locs hW => ?_)
    refine lv_aload_n hx hb dX4_freeHanging_66 rfl (lv_at hl 0 rfl) ?_
    refine q_get hB hW 4 in_X4 0 rfl rfl 3 (by decide) fl_22 (v := .int x_2) rfl dX4_freeHanging_67 ?_
    obtain ⟨r_2, hr_2, hf⟩ := bnd hf
    refine q_callSI hB hW (As := [.int x_2]) (rest := [.int r_1]) (ws' := [(a_p0, .inr (4, [.ref a_p0_land, .int p0_places, .int p0_wool, .int x_2, .int p0_worth, .int p0_day])), (a_p0_land, .inr (1, [.ref a_p0_land_places, .ref a_p0_land_kinds, .ref a_p0_land_clapPlaces, .ref a_p0_land_louds, .ref a_p0_land_ones, .ref a_p0_land_others, .ref a_p0_land_worths, .ref a_p0_land_hangs, .int p0_land_persons, .int p0_land_skies, .int p0_land_oaths])), (a_p0_land_hangs, .inl (cI, 5, .inl p0_land_hangs))]) (c_J6_bitCount_0f7a4 l D cI cZ x_2 r_2 hr_2) (va_cwS 1 hts gX4_freeHanging_J6_bitCount_0f7a4 rfl rfl rfl (by decide +kernel) ⟨Nat.le_of_ble_eq_true rfl, Nat.le_of_ble_eq_true rfl⟩) [] rfl rfl rfl rfl rfl hl.1 rfl (Nat.le_of_ble_eq_true rfl) ⟨Nat.le_of_ble_eq_true rfl, Nat.le_of_ble_eq_true rfl⟩ dX4_freeHanging_70 (fun H locs hW => ?_)
    refine lv_isub hx hb dX4_freeHanging_73 ?_
    exact hE _ _ _ _ _ ((r_1 - r_2), x_2) (sm hf) hW rfl dX4_freeHanging_74
  have L_2 : ∀ (n : Nat) (y2_2 : Int32) (y2_p0_sworn : Int32) (H : Heap) (locs : List Loc) (ls : Array Slot), itr (fun s => b_X4_freeHanging_2 v1 p0_land_oaths p0_land_hangs s.1 s.2) n (y2_2, y2_p0_sworn) = some e_2 → Wl D A s.heap [(a_p0, .inr (4, [.ref a_p0_land, .int p0_places, .int p0_wool, .int y2_p0_sworn, .int p0_worth, .int p0_day])), (a_p0_land, .inr (1, [.ref a_p0_land_places, .ref a_p0_land_kinds, .ref a_p0_land_clapPlaces, .ref a_p0_land_louds, .ref a_p0_land_ones, .ref a_p0_land_others, .ref a_p0_land_worths, .ref a_p0_land_hangs, .int p0_land_persons, .int p0_land_skies, .int p0_land_oaths])), (a_p0_land_hangs, .inl (cI, 5, .inl p0_land_hangs))] H locs → lv_has ls 4 [(0, .ref a_p0), (1, .int v1), (2, .int y2_2)] → W p l e (Rm 1 21) s m args below meth c H locs 0 0 Q (F0 m 2 ls []) := by
    intro n
    induction n with
    | zero => intro y2_2 y2_p0_sworn H locs ls h9; exact itr_0 h9
    | succ n ih =>
      intro y2_2 y2_p0_sworn H locs ls hf hW hl
      obtain ⟨o_2, hf, ho_2⟩ := itr_inv hf
      have hf : b_X4_freeHanging_2 v1 p0_land_oaths p0_land_hangs y2_2 y2_p0_sworn = some o_2 := hf
      unfold b_X4_freeHanging_2 at hf
      refine lv_iload_n hx hb dX4_freeHanging_2 rfl (lv_at hl 2 rfl) ?_
      refine lv_aload_n hx hb dX4_freeHanging_3 rfl (lv_at hl 0 rfl) ?_
      refine q_get hB hW 4 in_X4 0 rfl rfl 0 (by decide) fl_9 (v := .ref a_p0_land) rfl dX4_freeHanging_4 ?_
      refine q_get hB hW 1 in_X1 1 rfl rfl 10 (by decide) fl_50 (v := .int p0_land_oaths) rfl dX4_freeHanging_7 ?_
      refine lv_icmp_ge (tgt := 62) hx hb dX4_freeHanging_10 (by decide) (fun c_3 => ?_) (fun c_3 => ?_)
      · have hf := it_t c_3 hf
        have h9 := o_inr hf ho_2
        exact K_2 y2_p0_sworn h9 _ _ _ hW (lv_sub hl [0, 1] rfl)
      · have hf := it_f c_3 hf
        refine lv_aload_n hx hb dX4_freeHanging_13 rfl (lv_at hl 0 rfl) ?_
        refine q_get hB hW 4 in_X4 0 rfl rfl 0 (by decide) fl_9 (v := .ref a_p0_land) rfl dX4_freeHanging_14 ?_
        refine q_get hB hW 1 in_X1 1 rfl rfl 7 (by decide) fl_68 (v := .ref a_p0_land_hangs) rfl dX4_freeHanging_17 ?_
        refine lv_iload_n hx hb dX4_freeHanging_20 rfl (lv_at hl 2 rfl) ?_
        obtain ⟨r_4, hr_4, hf⟩ := bnd hf
        refine q_callNI hB hW (As := [.ref a_p0_land_hangs, .int y2_2]) (rest := []) (ws' := [(a_p0, .inr (4, [.ref a_p0_land, .int p0_places, .int p0_wool, .int y2_p0_sworn, .int p0_worth, .int p0_day])), (a_p0_land, .inr (1, [.ref a_p0_land_places, .ref a_p0_land_kinds, .ref a_p0_land_clapPlaces, .ref a_p0_land_louds, .ref a_p0_land_ones, .ref a_p0_land_others, .ref a_p0_land_worths, .ref a_p0_land_hangs, .int p0_land_persons, .int p0_land_skies, .int p0_land_oaths])), (a_p0_land_hangs, .inl (cI, 5, .inl p0_land_hangs))]) (c_X6_at l D cI cZ a_p0_land_hangs 5 p0_land_hangs y2_2 r_4 hr_4) ⟨va_cnB 2 hts gX4_freeHanging_X6_at_n39 rfl rfl rfl (hB.2.2.2.2.2.2.2.1.2 (RX4, 39, yX6_at, RX6) (by decide +kernel)) (hts (.initialized RX6) (by decide +kernel)) (by decide +kernel) ⟨Nat.le_of_ble_eq_true rfl, Nat.le_of_ble_eq_true rfl⟩, hts (.static yX6_at) (by decide +kernel), trivial⟩ [2] rfl rfl rfl rfl rfl hl.1 rfl (Nat.le_of_ble_eq_true rfl) ⟨Nat.le_of_ble_eq_true rfl, Nat.le_of_ble_eq_true rfl⟩ dX4_freeHanging_21 (fun H locs hW => ?_)
        refine lv_istore_n (lv' := [(3, .int r_4), (0, .ref a_p0), (1, .int v1), (2, .int y2_2)]) hx hb dX4_freeHanging_24 rfl hl (by decide) rfl (fun ls hl => ?_)
        refine lv_iload_n hx hb dX4_freeHanging_25 rfl (lv_at hl 0 rfl) ?_
        refine lv_bipush (v := -9) hx hb dX4_freeHanging_26 (by decide) ?_
        refine lv_icmp_eq (tgt := 56) hx hb dX4_freeHanging_28 (by decide) (fun c_5 => ?_) (fun c_5 => ?_)
        · have hf := it_t c_5 hf
          refine lv_iinc (v := (y2_2 + (1 : Int32))) (lv' := [(2, .int (y2_2 + (1 : Int32))), (3, .int r_4), (0, .ref a_p0), (1, .int v1)]) hx hb dX4_freeHanging_56 hl (k := 3) rfl rfl (by decide) rfl (fun ls hl => ?_)
          refine lv_goto (tgt := 2) hx hb dX4_freeHanging_59 (by decide) ?_
          have h9 := o_inl hf ho_2
          exact ih (y2_2 + (1 : Int32)) y2_p0_sworn _ _ _ h9 hW (lv_sub hl [2, 3, 0] rfl)
        · have hf := it_f c_5 hf
          refine lv_aload_n hx hb dX4_freeHanging_31 rfl (lv_at hl 1 rfl) ?_
          refine q_get hB hW 4 in_X4 0 rfl rfl 3 (by decide) fl_22 (v := .int y2_p0_sworn) rfl dX4_freeHanging_32 ?_
          refine lv_iload_n hx hb dX4_freeHanging_35 rfl (lv_at hl 0 rfl) ?_
          obtain ⟨r_6, hr_6, hf⟩ := bnd hf
          refine q_callNI hB hW (As := [.int y2_p0_sworn, .int r_4]) (rest := []) (ws' := [(a_p0, .inr (4, [.ref a_p0_land, .int p0_places, .int p0_wool, .int y2_p0_sworn, .int p0_worth, .int p0_day])), (a_p0_land, .inr (1, [.ref a_p0_land_places, .ref a_p0_land_kinds, .ref a_p0_land_clapPlaces, .ref a_p0_land_louds, .ref a_p0_land_ones, .ref a_p0_land_others, .ref a_p0_land_worths, .ref a_p0_land_hangs, .int p0_land_persons, .int p0_land_skies, .int p0_land_oaths])), (a_p0_land_hangs, .inl (cI, 5, .inl p0_land_hangs))]) (c_X6_bit l D cI cZ y2_p0_sworn r_4 r_6 hr_6) ⟨va_cnB 2 hts gX4_freeHanging_X6_bit_n61 rfl rfl rfl (hB.2.2.2.2.2.2.2.1.2 (RX4, 61, yX6_bit, RX6) (by decide +kernel)) (hts (.initialized RX6) (by decide +kernel)) (by decide +kernel) ⟨Nat.le_of_ble_eq_true rfl, Nat.le_of_ble_eq_true rfl⟩, hts (.static yX6_bit) (by decide +kernel), trivial⟩ [] rfl rfl rfl rfl rfl hl.1 rfl (Nat.le_of_ble_eq_true rfl) ⟨Nat.le_of_ble_eq_true rfl, Nat.le_of_ble_eq_true rfl⟩ dX4_freeHanging_36 (fun H locs hW => ?_)
          refine lv_if_ne (tgt := 56) hx hb dX4_freeHanging_39 (by decide) (fun c_7 => ?_) (fun c_7 => ?_)
          · have hf := it_f c_7 hf
            refine lv_iinc (v := (y2_2 + (1 : Int32))) (lv' := [(2, .int (y2_2 + (1 : Int32))), (3, .int r_4), (0, .ref a_p0), (1, .int v1)]) hx hb dX4_freeHanging_56 hl (k := 3) rfl rfl (by decide) rfl (fun ls hl => ?_)
            refine lv_goto (tgt := 2) hx hb dX4_freeHanging_59 (by decide) ?_
            have h9 := o_inl hf ho_2
            exact ih (y2_2 + (1 : Int32)) y2_p0_sworn _ _ _ h9 hW (lv_sub hl [2, 3, 0] rfl)
          · have hf := it_t c_7 hf
            refine lv_aload_n hx hb dX4_freeHanging_42 rfl (lv_at hl 1 rfl) ?_
            refine lv_dup hx hb dX4_freeHanging_43 rfl ?_
            refine q_get hB hW 4 in_X4 0 rfl rfl 3 (by decide) fl_22 (v := .int y2_p0_sworn) rfl dX4_freeHanging_44 ?_
            refine lv_iconst (v := 1) hx hb dX4_freeHanging_47 (by decide) ?_
            refine lv_iload_n hx hb dX4_freeHanging_48 rfl (lv_at hl 3 rfl) ?_
            refine lv_ishl hx hb dX4_freeHanging_49 ?_
            refine lv_iconst (v := -1) hx hb dX4_freeHanging_50 (by decide) ?_
            refine lv_ixor hx hb dX4_freeHanging_51 ?_
            refine lv_iand hx hb dX4_freeHanging_52 ?_
            obtain ⟨w_8, hw_8, hf⟩ := bnd hf
            refine q_nmI hw_8 ?_
            refine q_put hB hW 4 in_X4 tyX4 tyX4_ok nmX4 0 rfl rfl 3 (by decide) fl_22 rfl (by first | rfl | decide) (by first | rfl | decide) (Nat.le_of_ble_eq_true rfl) (ws' := [(a_p0, .inr (4, [.ref a_p0_land, .int p0_places, .int p0_wool, .int w_8, .int p0_worth, .int p0_day])), (a_p0_land, .inr (1, [.ref a_p0_land_places, .ref a_p0_land_kinds, .ref a_p0_land_clapPlaces, .ref a_p0_land_louds, .ref a_p0_land_ones, .ref a_p0_land_others, .ref a_p0_land_worths, .ref a_p0_land_hangs, .int p0_land_persons, .int p0_land_skies, .int p0_land_oaths])), (a_p0_land_hangs, .inl (cI, 5, .inl p0_land_hangs))]) rfl dX4_freeHanging_53 (fun H locs hW => ?_)
            refine lv_iinc (v := (y2_2 + (1 : Int32))) (lv' := [(2, .int (y2_2 + (1 : Int32))), (3, .int r_4), (0, .ref a_p0), (1, .int v1)]) hx hb dX4_freeHanging_56 hl (k := 3) rfl rfl (by decide) rfl (fun ls hl => ?_)
            refine lv_goto (tgt := 2) hx hb dX4_freeHanging_59 (by decide) ?_
            have h9 := o_inl hf ho_2
            exact ih (y2_2 + (1 : Int32)) w_8 _ _ _ h9 hW (lv_sub hl [2, 3, 0] rfl)
  exact L_2 FU (0 : Int32) p0_sworn _ _ _ hl_2 hW (lv_sub hl [1, 2, 0] rfl)
